section
-- ===== PART A: goes FIRST, ahead of the names: the tables' words, and 'selects' of the private methods out of them =====
/-- a private method of a class that the tables say can be made, by its rows of tables_1 -/
def lw_okq (q : MethodName × Nat) : Prop := (q.1.cls ≠ "java/lang/invoke/MethodHandle" ∧ q.1.cls ≠ "java/lang/invoke/VarHandle") ∧ Cond.instantiable q.1.cls q.2 ∈ tables_1 ∧ Cond.privateMethod q.1 ∈ tables_1 ∧ Cond.instanceMethod q.1 ∈ tables_1
theorem lw_p0 : lw_okq (⟨"SleetLine$Text", "take", "()V"⟩, 9) := ⟨⟨by decide +kernel, by decide +kernel⟩, List.mem_of_getElem? (i := 19) (by decide +kernel), List.mem_of_getElem? (i := 241) (by decide +kernel), List.mem_of_getElem? (i := 242) (by decide +kernel)⟩
theorem lw_p1 : lw_okq (⟨"SleetLine$Text", "takeLetters", "()V"⟩, 9) := ⟨⟨by decide +kernel, by decide +kernel⟩, List.mem_of_getElem? (i := 19) (by decide +kernel), List.mem_of_getElem? (i := 246) (by decide +kernel), List.mem_of_getElem? (i := 247) (by decide +kernel)⟩
theorem lw_p2 : lw_okq (⟨"SleetLine$Text", "takeNumber", "()V"⟩, 9) := ⟨⟨by decide +kernel, by decide +kernel⟩, List.mem_of_getElem? (i := 19) (by decide +kernel), List.mem_of_getElem? (i := 250) (by decide +kernel), List.mem_of_getElem? (i := 251) (by decide +kernel)⟩
theorem lw_p3 : lw_okq (⟨"SleetLine$Text", "readItem", "(LSleetLine$Wold;)Z"⟩, 9) := ⟨⟨by decide +kernel, by decide +kernel⟩, List.mem_of_getElem? (i := 19) (by decide +kernel), List.mem_of_getElem? (i := 254) (by decide +kernel), List.mem_of_getElem? (i := 255) (by decide +kernel)⟩
theorem lw_p4 : lw_okq (⟨"SleetLine$Text", "readColumn", "(LSleetLine$Wold;)Z"⟩, 9) := ⟨⟨by decide +kernel, by decide +kernel⟩, List.mem_of_getElem? (i := 19) (by decide +kernel), List.mem_of_getElem? (i := 258) (by decide +kernel), List.mem_of_getElem? (i := 259) (by decide +kernel)⟩
theorem lw_p5 : lw_okq (⟨"SleetLine$Text", "number", "(III)Z"⟩, 9) := ⟨⟨by decide +kernel, by decide +kernel⟩, List.mem_of_getElem? (i := 19) (by decide +kernel), List.mem_of_getElem? (i := 262) (by decide +kernel), List.mem_of_getElem? (i := 263) (by decide +kernel)⟩
theorem lw_p6 : lw_okq (⟨"SleetLine$Text", "ended", "()Z"⟩, 9) := ⟨⟨by decide +kernel, by decide +kernel⟩, List.mem_of_getElem? (i := 19) (by decide +kernel), List.mem_of_getElem? (i := 266) (by decide +kernel), List.mem_of_getElem? (i := 267) (by decide +kernel)⟩
theorem lw_p7 : lw_okq (⟨"SleetLine$Text", "readGap", "(LSleetLine$Wold;)Z"⟩, 9) := ⟨⟨by decide +kernel, by decide +kernel⟩, List.mem_of_getElem? (i := 19) (by decide +kernel), List.mem_of_getElem? (i := 274) (by decide +kernel), List.mem_of_getElem? (i := 275) (by decide +kernel)⟩
theorem lw_p8 : lw_okq (⟨"SleetLine$Text", "readHands", "(LSleetLine$Wold;)Z"⟩, 9) := ⟨⟨by decide +kernel, by decide +kernel⟩, List.mem_of_getElem? (i := 19) (by decide +kernel), List.mem_of_getElem? (i := 278) (by decide +kernel), List.mem_of_getElem? (i := 279) (by decide +kernel)⟩
theorem lw_p9 : lw_okq (⟨"SleetLine$Text", "readVoter", "(LSleetLine$Wold;)Z"⟩, 9) := ⟨⟨by decide +kernel, by decide +kernel⟩, List.mem_of_getElem? (i := 19) (by decide +kernel), List.mem_of_getElem? (i := 282) (by decide +kernel), List.mem_of_getElem? (i := 283) (by decide +kernel)⟩
theorem lw_p10 : lw_okq (⟨"SleetLine$Text", "readDay", "(LSleetLine$Wold;)Z"⟩, 9) := ⟨⟨by decide +kernel, by decide +kernel⟩, List.mem_of_getElem? (i := 19) (by decide +kernel), List.mem_of_getElem? (i := 290) (by decide +kernel), List.mem_of_getElem? (i := 291) (by decide +kernel)⟩
theorem lw_p11 : lw_okq (⟨"SleetLine", "hearNothing", "()V"⟩, 11) := ⟨⟨by decide +kernel, by decide +kernel⟩, List.mem_of_getElem? (i := 11) (by decide +kernel), List.mem_of_getElem? (i := 302) (by decide +kernel), List.mem_of_getElem? (i := 303) (by decide +kernel)⟩
theorem lw_p12 : lw_okq (⟨"SleetLine", "isColumn", "(I)Z"⟩, 11) := ⟨⟨by decide +kernel, by decide +kernel⟩, List.mem_of_getElem? (i := 11) (by decide +kernel), List.mem_of_getElem? (i := 310) (by decide +kernel), List.mem_of_getElem? (i := 311) (by decide +kernel)⟩
theorem lw_p13 : lw_okq (⟨"SleetLine", "edge", "(I)I"⟩, 11) := ⟨⟨by decide +kernel, by decide +kernel⟩, List.mem_of_getElem? (i := 11) (by decide +kernel), List.mem_of_getElem? (i := 314) (by decide +kernel), List.mem_of_getElem? (i := 315) (by decide +kernel)⟩
theorem lw_p14 : lw_okq (⟨"SleetLine", "lowestUpTo", "(II)I"⟩, 11) := ⟨⟨by decide +kernel, by decide +kernel⟩, List.mem_of_getElem? (i := 11) (by decide +kernel), List.mem_of_getElem? (i := 318) (by decide +kernel), List.mem_of_getElem? (i := 319) (by decide +kernel)⟩
theorem lw_p15 : lw_okq (⟨"SleetLine", "mild", "(II)I"⟩, 11) := ⟨⟨by decide +kernel, by decide +kernel⟩, List.mem_of_getElem? (i := 11) (by decide +kernel), List.mem_of_getElem? (i := 322) (by decide +kernel), List.mem_of_getElem? (i := 323) (by decide +kernel)⟩
def lw_privs_1 : List (MethodName × Nat) := [(⟨"SleetLine$Text", "take", "()V"⟩, 9), (⟨"SleetLine$Text", "takeLetters", "()V"⟩, 9), (⟨"SleetLine$Text", "takeNumber", "()V"⟩, 9), (⟨"SleetLine$Text", "readItem", "(LSleetLine$Wold;)Z"⟩, 9), (⟨"SleetLine$Text", "readColumn", "(LSleetLine$Wold;)Z"⟩, 9), (⟨"SleetLine$Text", "number", "(III)Z"⟩, 9), (⟨"SleetLine$Text", "ended", "()Z"⟩, 9), (⟨"SleetLine$Text", "readGap", "(LSleetLine$Wold;)Z"⟩, 9), (⟨"SleetLine$Text", "readHands", "(LSleetLine$Wold;)Z"⟩, 9), (⟨"SleetLine$Text", "readVoter", "(LSleetLine$Wold;)Z"⟩, 9), (⟨"SleetLine$Text", "readDay", "(LSleetLine$Wold;)Z"⟩, 9), (⟨"SleetLine", "hearNothing", "()V"⟩, 11), (⟨"SleetLine", "isColumn", "(I)Z"⟩, 11), (⟨"SleetLine", "edge", "(I)I"⟩, 11), (⟨"SleetLine", "lowestUpTo", "(II)I"⟩, 11), (⟨"SleetLine", "mild", "(II)I"⟩, 11)]
theorem lw_r1 : ∀ q ∈ lw_privs_1, lw_okq q := List.forall_mem_cons.mpr ⟨lw_p0, List.forall_mem_cons.mpr ⟨lw_p1, List.forall_mem_cons.mpr ⟨lw_p2, List.forall_mem_cons.mpr ⟨lw_p3, List.forall_mem_cons.mpr ⟨lw_p4, List.forall_mem_cons.mpr ⟨lw_p5, List.forall_mem_cons.mpr ⟨lw_p6, List.forall_mem_cons.mpr ⟨lw_p7, List.forall_mem_cons.mpr ⟨lw_p8, List.forall_mem_cons.mpr ⟨lw_p9, List.forall_mem_cons.mpr ⟨lw_p10, List.forall_mem_cons.mpr ⟨lw_p11, List.forall_mem_cons.mpr ⟨lw_p12, List.forall_mem_cons.mpr ⟨lw_p13, List.forall_mem_cons.mpr ⟨lw_p14, List.forall_mem_cons.mpr ⟨lw_p15, fun _ h => absurd h List.not_mem_nil⟩⟩⟩⟩⟩⟩⟩⟩⟩⟩⟩⟩⟩⟩⟩⟩
theorem lw_p16 : lw_okq (⟨"SleetLine", "warmToday", "()I"⟩, 11) := ⟨⟨by decide +kernel, by decide +kernel⟩, List.mem_of_getElem? (i := 11) (by decide +kernel), List.mem_of_getElem? (i := 326) (by decide +kernel), List.mem_of_getElem? (i := 327) (by decide +kernel)⟩
theorem lw_p17 : lw_okq (⟨"SleetLine", "wet", "(I)I"⟩, 11) := ⟨⟨by decide +kernel, by decide +kernel⟩, List.mem_of_getElem? (i := 11) (by decide +kernel), List.mem_of_getElem? (i := 334) (by decide +kernel), List.mem_of_getElem? (i := 335) (by decide +kernel)⟩
theorem lw_p18 : lw_okq (⟨"SleetLine", "claim", "(II)I"⟩, 11) := ⟨⟨by decide +kernel, by decide +kernel⟩, List.mem_of_getElem? (i := 11) (by decide +kernel), List.mem_of_getElem? (i := 338) (by decide +kernel), List.mem_of_getElem? (i := 339) (by decide +kernel)⟩
theorem lw_p19 : lw_okq (⟨"SleetLine", "halves", "(IZ)I"⟩, 11) := ⟨⟨by decide +kernel, by decide +kernel⟩, List.mem_of_getElem? (i := 11) (by decide +kernel), List.mem_of_getElem? (i := 342) (by decide +kernel), List.mem_of_getElem? (i := 343) (by decide +kernel)⟩
theorem lw_p20 : lw_okq (⟨"SleetLine", "isField", "(II)Z"⟩, 11) := ⟨⟨by decide +kernel, by decide +kernel⟩, List.mem_of_getElem? (i := 11) (by decide +kernel), List.mem_of_getElem? (i := 353) (by decide +kernel), List.mem_of_getElem? (i := 354) (by decide +kernel)⟩
theorem lw_p21 : lw_okq (⟨"SleetLine", "falls", "(II)I"⟩, 11) := ⟨⟨by decide +kernel, by decide +kernel⟩, List.mem_of_getElem? (i := 11) (by decide +kernel), List.mem_of_getElem? (i := 358) (by decide +kernel), List.mem_of_getElem? (i := 359) (by decide +kernel)⟩
theorem lw_p22 : lw_okq (⟨"SleetLine", "isVoter", "(I)Z"⟩, 11) := ⟨⟨by decide +kernel, by decide +kernel⟩, List.mem_of_getElem? (i := 11) (by decide +kernel), List.mem_of_getElem? (i := 366) (by decide +kernel), List.mem_of_getElem? (i := 367) (by decide +kernel)⟩
theorem lw_p23 : lw_okq (⟨"SleetLine$Now", "loseOldest", "()V"⟩, 7) := ⟨⟨by decide +kernel, by decide +kernel⟩, List.mem_of_getElem? (i := 146) (by decide +kernel), List.mem_of_getElem? (i := 378) (by decide +kernel), List.mem_of_getElem? (i := 379) (by decide +kernel)⟩
theorem lw_p24 : lw_okq (⟨"SleetLine", "snowyFields", "(I)I"⟩, 11) := ⟨⟨by decide +kernel, by decide +kernel⟩, List.mem_of_getElem? (i := 11) (by decide +kernel), List.mem_of_getElem? (i := 389) (by decide +kernel), List.mem_of_getElem? (i := 390) (by decide +kernel)⟩
theorem lw_p25 : lw_okq (⟨"SleetLine", "rainyFields", "()I"⟩, 11) := ⟨⟨by decide +kernel, by decide +kernel⟩, List.mem_of_getElem? (i := 11) (by decide +kernel), List.mem_of_getElem? (i := 419) (by decide +kernel), List.mem_of_getElem? (i := 420) (by decide +kernel)⟩
theorem lw_p26 : lw_okq (⟨"SleetLine", "widest", "()I"⟩, 11) := ⟨⟨by decide +kernel, by decide +kernel⟩, List.mem_of_getElem? (i := 11) (by decide +kernel), List.mem_of_getElem? (i := 423) (by decide +kernel), List.mem_of_getElem? (i := 424) (by decide +kernel)⟩
theorem lw_p27 : lw_okq (⟨"SleetLine", "vote", "()I"⟩, 11) := ⟨⟨by decide +kernel, by decide +kernel⟩, List.mem_of_getElem? (i := 11) (by decide +kernel), List.mem_of_getElem? (i := 431) (by decide +kernel), List.mem_of_getElem? (i := 432) (by decide +kernel)⟩
theorem lw_p28 : lw_okq (⟨"SleetLine$Lines", "judgeOne", "(III)V"⟩, 7) := ⟨⟨by decide +kernel, by decide +kernel⟩, List.mem_of_getElem? (i := 113) (by decide +kernel), List.mem_of_getElem? (i := 450) (by decide +kernel), List.mem_of_getElem? (i := 451) (by decide +kernel)⟩
theorem lw_p29 : lw_okq (⟨"SleetLine", "decidedOrders", "(I)I"⟩, 11) := ⟨⟨by decide +kernel, by decide +kernel⟩, List.mem_of_getElem? (i := 11) (by decide +kernel), List.mem_of_getElem? (i := 464) (by decide +kernel), List.mem_of_getElem? (i := 465) (by decide +kernel)⟩
theorem lw_p30 : lw_okq (⟨"SleetLine", "weightOf", "(I)I"⟩, 11) := ⟨⟨by decide +kernel, by decide +kernel⟩, List.mem_of_getElem? (i := 11) (by decide +kernel), List.mem_of_getElem? (i := 468) (by decide +kernel), List.mem_of_getElem? (i := 469) (by decide +kernel)⟩
theorem lw_p31 : lw_okq (⟨"SleetLine", "warmths", "()I"⟩, 11) := ⟨⟨by decide +kernel, by decide +kernel⟩, List.mem_of_getElem? (i := 11) (by decide +kernel), List.mem_of_getElem? (i := 513) (by decide +kernel), List.mem_of_getElem? (i := 514) (by decide +kernel)⟩
def lw_privs_2 : List (MethodName × Nat) := [(⟨"SleetLine", "warmToday", "()I"⟩, 11), (⟨"SleetLine", "wet", "(I)I"⟩, 11), (⟨"SleetLine", "claim", "(II)I"⟩, 11), (⟨"SleetLine", "halves", "(IZ)I"⟩, 11), (⟨"SleetLine", "isField", "(II)Z"⟩, 11), (⟨"SleetLine", "falls", "(II)I"⟩, 11), (⟨"SleetLine", "isVoter", "(I)Z"⟩, 11), (⟨"SleetLine$Now", "loseOldest", "()V"⟩, 7), (⟨"SleetLine", "snowyFields", "(I)I"⟩, 11), (⟨"SleetLine", "rainyFields", "()I"⟩, 11), (⟨"SleetLine", "widest", "()I"⟩, 11), (⟨"SleetLine", "vote", "()I"⟩, 11), (⟨"SleetLine$Lines", "judgeOne", "(III)V"⟩, 7), (⟨"SleetLine", "decidedOrders", "(I)I"⟩, 11), (⟨"SleetLine", "weightOf", "(I)I"⟩, 11), (⟨"SleetLine", "warmths", "()I"⟩, 11)]
theorem lw_r2 : ∀ q ∈ lw_privs_2, lw_okq q := List.forall_mem_cons.mpr ⟨lw_p16, List.forall_mem_cons.mpr ⟨lw_p17, List.forall_mem_cons.mpr ⟨lw_p18, List.forall_mem_cons.mpr ⟨lw_p19, List.forall_mem_cons.mpr ⟨lw_p20, List.forall_mem_cons.mpr ⟨lw_p21, List.forall_mem_cons.mpr ⟨lw_p22, List.forall_mem_cons.mpr ⟨lw_p23, List.forall_mem_cons.mpr ⟨lw_p24, List.forall_mem_cons.mpr ⟨lw_p25, List.forall_mem_cons.mpr ⟨lw_p26, List.forall_mem_cons.mpr ⟨lw_p27, List.forall_mem_cons.mpr ⟨lw_p28, List.forall_mem_cons.mpr ⟨lw_p29, List.forall_mem_cons.mpr ⟨lw_p30, List.forall_mem_cons.mpr ⟨lw_p31, fun _ h => absurd h List.not_mem_nil⟩⟩⟩⟩⟩⟩⟩⟩⟩⟩⟩⟩⟩⟩⟩⟩
theorem lw_p32 : lw_okq (⟨"SleetLine", "greaterPart", "(II)I"⟩, 11) := ⟨⟨by decide +kernel, by decide +kernel⟩, List.mem_of_getElem? (i := 11) (by decide +kernel), List.mem_of_getElem? (i := 521) (by decide +kernel), List.mem_of_getElem? (i := 522) (by decide +kernel)⟩
theorem lw_p33 : lw_okq (⟨"SleetLine", "columnMark", "(I)I"⟩, 11) := ⟨⟨by decide +kernel, by decide +kernel⟩, List.mem_of_getElem? (i := 11) (by decide +kernel), List.mem_of_getElem? (i := 529) (by decide +kernel), List.mem_of_getElem? (i := 530) (by decide +kernel)⟩
theorem lw_p34 : lw_okq (⟨"SleetLine", "moorMark", "(I)I"⟩, 11) := ⟨⟨by decide +kernel, by decide +kernel⟩, List.mem_of_getElem? (i := 11) (by decide +kernel), List.mem_of_getElem? (i := 533) (by decide +kernel), List.mem_of_getElem? (i := 534) (by decide +kernel)⟩
theorem lw_p35 : lw_okq (⟨"SleetLine", "fenMark", "(I)I"⟩, 11) := ⟨⟨by decide +kernel, by decide +kernel⟩, List.mem_of_getElem? (i := 11) (by decide +kernel), List.mem_of_getElem? (i := 538) (by decide +kernel), List.mem_of_getElem? (i := 539) (by decide +kernel)⟩
theorem lw_p36 : lw_okq (⟨"SleetLine", "fellMark", "(I)I"⟩, 11) := ⟨⟨by decide +kernel, by decide +kernel⟩, List.mem_of_getElem? (i := 11) (by decide +kernel), List.mem_of_getElem? (i := 543) (by decide +kernel), List.mem_of_getElem? (i := 544) (by decide +kernel)⟩
theorem lw_p37 : lw_okq (⟨"SleetLine", "saltingMark", "(I)I"⟩, 11) := ⟨⟨by decide +kernel, by decide +kernel⟩, List.mem_of_getElem? (i := 11) (by decide +kernel), List.mem_of_getElem? (i := 548) (by decide +kernel), List.mem_of_getElem? (i := 549) (by decide +kernel)⟩
theorem lw_p38 : lw_okq (⟨"SleetLine", "woodMark", "(I)I"⟩, 11) := ⟨⟨by decide +kernel, by decide +kernel⟩, List.mem_of_getElem? (i := 11) (by decide +kernel), List.mem_of_getElem? (i := 553) (by decide +kernel), List.mem_of_getElem? (i := 554) (by decide +kernel)⟩
theorem lw_p39 : lw_okq (⟨"SleetLineModel", "skip", "()V"⟩, 37) := ⟨⟨by decide +kernel, by decide +kernel⟩, List.mem_of_getElem? (i := 578) (by decide +kernel), List.mem_of_getElem? (i := 711) (by decide +kernel), List.mem_of_getElem? (i := 712) (by decide +kernel)⟩
theorem lw_p40 : lw_okq (⟨"SleetLineModel", "here", "()I"⟩, 37) := ⟨⟨by decide +kernel, by decide +kernel⟩, List.mem_of_getElem? (i := 578) (by decide +kernel), List.mem_of_getElem? (i := 715) (by decide +kernel), List.mem_of_getElem? (i := 716) (by decide +kernel)⟩
theorem lw_p41 : lw_okq (⟨"SleetLineModel", "readsItem", "()Z"⟩, 37) := ⟨⟨by decide +kernel, by decide +kernel⟩, List.mem_of_getElem? (i := 578) (by decide +kernel), List.mem_of_getElem? (i := 719) (by decide +kernel), List.mem_of_getElem? (i := 720) (by decide +kernel)⟩
theorem lw_p42 : lw_okq (⟨"SleetLineModel", "readsColumn", "()Z"⟩, 37) := ⟨⟨by decide +kernel, by decide +kernel⟩, List.mem_of_getElem? (i := 578) (by decide +kernel), List.mem_of_getElem? (i := 723) (by decide +kernel), List.mem_of_getElem? (i := 724) (by decide +kernel)⟩
theorem lw_p43 : lw_okq (⟨"SleetLineModel", "number", "(II)Z"⟩, 37) := ⟨⟨by decide +kernel, by decide +kernel⟩, List.mem_of_getElem? (i := 578) (by decide +kernel), List.mem_of_getElem? (i := 727) (by decide +kernel), List.mem_of_getElem? (i := 728) (by decide +kernel)⟩
theorem lw_p44 : lw_okq (⟨"SleetLineModel", "ends", "()Z"⟩, 37) := ⟨⟨by decide +kernel, by decide +kernel⟩, List.mem_of_getElem? (i := 578) (by decide +kernel), List.mem_of_getElem? (i := 731) (by decide +kernel), List.mem_of_getElem? (i := 732) (by decide +kernel)⟩
theorem lw_p45 : lw_okq (⟨"SleetLineModel", "readsGap", "()Z"⟩, 37) := ⟨⟨by decide +kernel, by decide +kernel⟩, List.mem_of_getElem? (i := 578) (by decide +kernel), List.mem_of_getElem? (i := 735) (by decide +kernel), List.mem_of_getElem? (i := 736) (by decide +kernel)⟩
theorem lw_p46 : lw_okq (⟨"SleetLineModel", "readsHands", "()Z"⟩, 37) := ⟨⟨by decide +kernel, by decide +kernel⟩, List.mem_of_getElem? (i := 578) (by decide +kernel), List.mem_of_getElem? (i := 739) (by decide +kernel), List.mem_of_getElem? (i := 740) (by decide +kernel)⟩
theorem lw_p47 : lw_okq (⟨"SleetLineModel", "readsVoter", "()Z"⟩, 37) := ⟨⟨by decide +kernel, by decide +kernel⟩, List.mem_of_getElem? (i := 578) (by decide +kernel), List.mem_of_getElem? (i := 743) (by decide +kernel), List.mem_of_getElem? (i := 744) (by decide +kernel)⟩
def lw_privs_3 : List (MethodName × Nat) := [(⟨"SleetLine", "greaterPart", "(II)I"⟩, 11), (⟨"SleetLine", "columnMark", "(I)I"⟩, 11), (⟨"SleetLine", "moorMark", "(I)I"⟩, 11), (⟨"SleetLine", "fenMark", "(I)I"⟩, 11), (⟨"SleetLine", "fellMark", "(I)I"⟩, 11), (⟨"SleetLine", "saltingMark", "(I)I"⟩, 11), (⟨"SleetLine", "woodMark", "(I)I"⟩, 11), (⟨"SleetLineModel", "skip", "()V"⟩, 37), (⟨"SleetLineModel", "here", "()I"⟩, 37), (⟨"SleetLineModel", "readsItem", "()Z"⟩, 37), (⟨"SleetLineModel", "readsColumn", "()Z"⟩, 37), (⟨"SleetLineModel", "number", "(II)Z"⟩, 37), (⟨"SleetLineModel", "ends", "()Z"⟩, 37), (⟨"SleetLineModel", "readsGap", "()Z"⟩, 37), (⟨"SleetLineModel", "readsHands", "()Z"⟩, 37), (⟨"SleetLineModel", "readsVoter", "()Z"⟩, 37)]
theorem lw_r3 : ∀ q ∈ lw_privs_3, lw_okq q := List.forall_mem_cons.mpr ⟨lw_p32, List.forall_mem_cons.mpr ⟨lw_p33, List.forall_mem_cons.mpr ⟨lw_p34, List.forall_mem_cons.mpr ⟨lw_p35, List.forall_mem_cons.mpr ⟨lw_p36, List.forall_mem_cons.mpr ⟨lw_p37, List.forall_mem_cons.mpr ⟨lw_p38, List.forall_mem_cons.mpr ⟨lw_p39, List.forall_mem_cons.mpr ⟨lw_p40, List.forall_mem_cons.mpr ⟨lw_p41, List.forall_mem_cons.mpr ⟨lw_p42, List.forall_mem_cons.mpr ⟨lw_p43, List.forall_mem_cons.mpr ⟨lw_p44, List.forall_mem_cons.mpr ⟨lw_p45, List.forall_mem_cons.mpr ⟨lw_p46, List.forall_mem_cons.mpr ⟨lw_p47, fun _ h => absurd h List.not_mem_nil⟩⟩⟩⟩⟩⟩⟩⟩⟩⟩⟩⟩⟩⟩⟩⟩
theorem lw_p48 : lw_okq (⟨"SleetLineModel", "readsDay", "()Z"⟩, 37) := ⟨⟨by decide +kernel, by decide +kernel⟩, List.mem_of_getElem? (i := 578) (by decide +kernel), List.mem_of_getElem? (i := 747) (by decide +kernel), List.mem_of_getElem? (i := 748) (by decide +kernel)⟩
theorem lw_p49 : lw_okq (⟨"SleetLineModel", "comesRead", "()V"⟩, 37) := ⟨⟨by decide +kernel, by decide +kernel⟩, List.mem_of_getElem? (i := 578) (by decide +kernel), List.mem_of_getElem? (i := 751) (by decide +kernel), List.mem_of_getElem? (i := 752) (by decide +kernel)⟩
theorem lw_p50 : lw_okq (⟨"SleetLineModel", "isColumn", "(I)Z"⟩, 37) := ⟨⟨by decide +kernel, by decide +kernel⟩, List.mem_of_getElem? (i := 578) (by decide +kernel), List.mem_of_getElem? (i := 759) (by decide +kernel), List.mem_of_getElem? (i := 760) (by decide +kernel)⟩
theorem lw_p51 : lw_okq (⟨"SleetLineModel", "edge", "(I)I"⟩, 37) := ⟨⟨by decide +kernel, by decide +kernel⟩, List.mem_of_getElem? (i := 578) (by decide +kernel), List.mem_of_getElem? (i := 763) (by decide +kernel), List.mem_of_getElem? (i := 764) (by decide +kernel)⟩
theorem lw_p52 : lw_okq (⟨"SleetLineModel", "lowestBy", "(II)I"⟩, 37) := ⟨⟨by decide +kernel, by decide +kernel⟩, List.mem_of_getElem? (i := 578) (by decide +kernel), List.mem_of_getElem? (i := 767) (by decide +kernel), List.mem_of_getElem? (i := 768) (by decide +kernel)⟩
theorem lw_p53 : lw_okq (⟨"SleetLineModel", "mild", "(II)I"⟩, 37) := ⟨⟨by decide +kernel, by decide +kernel⟩, List.mem_of_getElem? (i := 578) (by decide +kernel), List.mem_of_getElem? (i := 771) (by decide +kernel), List.mem_of_getElem? (i := 772) (by decide +kernel)⟩
theorem lw_p54 : lw_okq (⟨"SleetLineModel", "warmthNow", "()I"⟩, 37) := ⟨⟨by decide +kernel, by decide +kernel⟩, List.mem_of_getElem? (i := 578) (by decide +kernel), List.mem_of_getElem? (i := 775) (by decide +kernel), List.mem_of_getElem? (i := 776) (by decide +kernel)⟩
theorem lw_p55 : lw_okq (⟨"SleetLineModel", "warmAt", "(I)I"⟩, 37) := ⟨⟨by decide +kernel, by decide +kernel⟩, List.mem_of_getElem? (i := 578) (by decide +kernel), List.mem_of_getElem? (i := 779) (by decide +kernel), List.mem_of_getElem? (i := 780) (by decide +kernel)⟩
theorem lw_p56 : lw_okq (⟨"SleetLineModel", "mildBy", "(III)I"⟩, 37) := ⟨⟨by decide +kernel, by decide +kernel⟩, List.mem_of_getElem? (i := 578) (by decide +kernel), List.mem_of_getElem? (i := 783) (by decide +kernel), List.mem_of_getElem? (i := 784) (by decide +kernel)⟩
theorem lw_p57 : lw_okq (⟨"SleetLineModel", "wet", "(I)I"⟩, 37) := ⟨⟨by decide +kernel, by decide +kernel⟩, List.mem_of_getElem? (i := 578) (by decide +kernel), List.mem_of_getElem? (i := 787) (by decide +kernel), List.mem_of_getElem? (i := 788) (by decide +kernel)⟩
theorem lw_p58 : lw_okq (⟨"SleetLineModel", "halves", "(I)I"⟩, 37) := ⟨⟨by decide +kernel, by decide +kernel⟩, List.mem_of_getElem? (i := 578) (by decide +kernel), List.mem_of_getElem? (i := 791) (by decide +kernel), List.mem_of_getElem? (i := 792) (by decide +kernel)⟩
theorem lw_p59 : lw_okq (⟨"SleetLineModel", "falls", "(II)I"⟩, 37) := ⟨⟨by decide +kernel, by decide +kernel⟩, List.mem_of_getElem? (i := 578) (by decide +kernel), List.mem_of_getElem? (i := 803) (by decide +kernel), List.mem_of_getElem? (i := 804) (by decide +kernel)⟩
theorem lw_p60 : lw_okq (⟨"SleetLineModel", "notes", "()V"⟩, 37) := ⟨⟨by decide +kernel, by decide +kernel⟩, List.mem_of_getElem? (i := 578) (by decide +kernel), List.mem_of_getElem? (i := 815) (by decide +kernel), List.mem_of_getElem? (i := 816) (by decide +kernel)⟩
theorem lw_p61 : lw_okq (⟨"SleetLineModel", "writes", "([II)V"⟩, 37) := ⟨⟨by decide +kernel, by decide +kernel⟩, List.mem_of_getElem? (i := 578) (by decide +kernel), List.mem_of_getElem? (i := 819) (by decide +kernel), List.mem_of_getElem? (i := 820) (by decide +kernel)⟩
theorem lw_p62 : lw_okq (⟨"SleetLineModel", "fallMany", "(I)I"⟩, 37) := ⟨⟨by decide +kernel, by decide +kernel⟩, List.mem_of_getElem? (i := 578) (by decide +kernel), List.mem_of_getElem? (i := 827) (by decide +kernel), List.mem_of_getElem? (i := 828) (by decide +kernel)⟩
theorem lw_p63 : lw_okq (⟨"SleetLineModel", "readsBack", "([II)V"⟩, 37) := ⟨⟨by decide +kernel, by decide +kernel⟩, List.mem_of_getElem? (i := 578) (by decide +kernel), List.mem_of_getElem? (i := 843) (by decide +kernel), List.mem_of_getElem? (i := 844) (by decide +kernel)⟩
def lw_privs_4 : List (MethodName × Nat) := [(⟨"SleetLineModel", "readsDay", "()Z"⟩, 37), (⟨"SleetLineModel", "comesRead", "()V"⟩, 37), (⟨"SleetLineModel", "isColumn", "(I)Z"⟩, 37), (⟨"SleetLineModel", "edge", "(I)I"⟩, 37), (⟨"SleetLineModel", "lowestBy", "(II)I"⟩, 37), (⟨"SleetLineModel", "mild", "(II)I"⟩, 37), (⟨"SleetLineModel", "warmthNow", "()I"⟩, 37), (⟨"SleetLineModel", "warmAt", "(I)I"⟩, 37), (⟨"SleetLineModel", "mildBy", "(III)I"⟩, 37), (⟨"SleetLineModel", "wet", "(I)I"⟩, 37), (⟨"SleetLineModel", "halves", "(I)I"⟩, 37), (⟨"SleetLineModel", "falls", "(II)I"⟩, 37), (⟨"SleetLineModel", "notes", "()V"⟩, 37), (⟨"SleetLineModel", "writes", "([II)V"⟩, 37), (⟨"SleetLineModel", "fallMany", "(I)I"⟩, 37), (⟨"SleetLineModel", "readsBack", "([II)V"⟩, 37)]
theorem lw_r4 : ∀ q ∈ lw_privs_4, lw_okq q := List.forall_mem_cons.mpr ⟨lw_p48, List.forall_mem_cons.mpr ⟨lw_p49, List.forall_mem_cons.mpr ⟨lw_p50, List.forall_mem_cons.mpr ⟨lw_p51, List.forall_mem_cons.mpr ⟨lw_p52, List.forall_mem_cons.mpr ⟨lw_p53, List.forall_mem_cons.mpr ⟨lw_p54, List.forall_mem_cons.mpr ⟨lw_p55, List.forall_mem_cons.mpr ⟨lw_p56, List.forall_mem_cons.mpr ⟨lw_p57, List.forall_mem_cons.mpr ⟨lw_p58, List.forall_mem_cons.mpr ⟨lw_p59, List.forall_mem_cons.mpr ⟨lw_p60, List.forall_mem_cons.mpr ⟨lw_p61, List.forall_mem_cons.mpr ⟨lw_p62, List.forall_mem_cons.mpr ⟨lw_p63, fun _ h => absurd h List.not_mem_nil⟩⟩⟩⟩⟩⟩⟩⟩⟩⟩⟩⟩⟩⟩⟩⟩
theorem lw_p64 : lw_okq (⟨"SleetLineModel", "widest", "()I"⟩, 37) := ⟨⟨by decide +kernel, by decide +kernel⟩, List.mem_of_getElem? (i := 578) (by decide +kernel), List.mem_of_getElem? (i := 851) (by decide +kernel), List.mem_of_getElem? (i := 852) (by decide +kernel)⟩
theorem lw_p65 : lw_okq (⟨"SleetLineModel", "stakeMany", "()I"⟩, 37) := ⟨⟨by decide +kernel, by decide +kernel⟩, List.mem_of_getElem? (i := 578) (by decide +kernel), List.mem_of_getElem? (i := 855) (by decide +kernel), List.mem_of_getElem? (i := 856) (by decide +kernel)⟩
theorem lw_p66 : lw_okq (⟨"SleetLineModel", "vote", "()I"⟩, 37) := ⟨⟨by decide +kernel, by decide +kernel⟩, List.mem_of_getElem? (i := 578) (by decide +kernel), List.mem_of_getElem? (i := 859) (by decide +kernel), List.mem_of_getElem? (i := 860) (by decide +kernel)⟩
theorem lw_p67 : lw_okq (⟨"SleetLineModel", "firstLine", "()V"⟩, 37) := ⟨⟨by decide +kernel, by decide +kernel⟩, List.mem_of_getElem? (i := 578) (by decide +kernel), List.mem_of_getElem? (i := 871) (by decide +kernel), List.mem_of_getElem? (i := 872) (by decide +kernel)⟩
theorem lw_p68 : lw_okq (⟨"SleetLineModel", "hasHill", "()I"⟩, 37) := ⟨⟨by decide +kernel, by decide +kernel⟩, List.mem_of_getElem? (i := 578) (by decide +kernel), List.mem_of_getElem? (i := 875) (by decide +kernel), List.mem_of_getElem? (i := 876) (by decide +kernel)⟩
theorem lw_p69 : lw_okq (⟨"SleetLineModel", "allOf", "([I)I"⟩, 37) := ⟨⟨by decide +kernel, by decide +kernel⟩, List.mem_of_getElem? (i := 578) (by decide +kernel), List.mem_of_getElem? (i := 879) (by decide +kernel), List.mem_of_getElem? (i := 880) (by decide +kernel)⟩
theorem lw_p70 : lw_okq (⟨"SleetLineModel", "hasSea", "()I"⟩, 37) := ⟨⟨by decide +kernel, by decide +kernel⟩, List.mem_of_getElem? (i := 578) (by decide +kernel), List.mem_of_getElem? (i := 883) (by decide +kernel), List.mem_of_getElem? (i := 884) (by decide +kernel)⟩
theorem lw_p71 : lw_okq (⟨"SleetLineModel", "lineNumber", "()I"⟩, 37) := ⟨⟨by decide +kernel, by decide +kernel⟩, List.mem_of_getElem? (i := 578) (by decide +kernel), List.mem_of_getElem? (i := 887) (by decide +kernel), List.mem_of_getElem? (i := 888) (by decide +kernel)⟩
theorem lw_p72 : lw_okq (⟨"SleetLineModel", "nextLine", "()Z"⟩, 37) := ⟨⟨by decide +kernel, by decide +kernel⟩, List.mem_of_getElem? (i := 578) (by decide +kernel), List.mem_of_getElem? (i := 891) (by decide +kernel), List.mem_of_getElem? (i := 892) (by decide +kernel)⟩
theorem lw_p73 : lw_okq (⟨"SleetLineModel", "weightOf", "(I)I"⟩, 37) := ⟨⟨by decide +kernel, by decide +kernel⟩, List.mem_of_getElem? (i := 578) (by decide +kernel), List.mem_of_getElem? (i := 903) (by decide +kernel), List.mem_of_getElem? (i := 904) (by decide +kernel)⟩
theorem lw_p74 : lw_okq (⟨"SleetLineModel", "isSo", "(I)Z"⟩, 37) := ⟨⟨by decide +kernel, by decide +kernel⟩, List.mem_of_getElem? (i := 578) (by decide +kernel), List.mem_of_getElem? (i := 933) (by decide +kernel), List.mem_of_getElem? (i := 934) (by decide +kernel)⟩
theorem lw_p75 : lw_okq (⟨"SleetLineModel", "says", "(IIII)Z"⟩, 37) := ⟨⟨by decide +kernel, by decide +kernel⟩, List.mem_of_getElem? (i := 578) (by decide +kernel), List.mem_of_getElem? (i := 937) (by decide +kernel), List.mem_of_getElem? (i := 938) (by decide +kernel)⟩
theorem lw_p76 : lw_okq (⟨"SleetLineModel", "marked", "(II)I"⟩, 37) := ⟨⟨by decide +kernel, by decide +kernel⟩, List.mem_of_getElem? (i := 578) (by decide +kernel), List.mem_of_getElem? (i := 950) (by decide +kernel), List.mem_of_getElem? (i := 951) (by decide +kernel)⟩
def lw_privs_5 : List (MethodName × Nat) := [(⟨"SleetLineModel", "widest", "()I"⟩, 37), (⟨"SleetLineModel", "stakeMany", "()I"⟩, 37), (⟨"SleetLineModel", "vote", "()I"⟩, 37), (⟨"SleetLineModel", "firstLine", "()V"⟩, 37), (⟨"SleetLineModel", "hasHill", "()I"⟩, 37), (⟨"SleetLineModel", "allOf", "([I)I"⟩, 37), (⟨"SleetLineModel", "hasSea", "()I"⟩, 37), (⟨"SleetLineModel", "lineNumber", "()I"⟩, 37), (⟨"SleetLineModel", "nextLine", "()Z"⟩, 37), (⟨"SleetLineModel", "weightOf", "(I)I"⟩, 37), (⟨"SleetLineModel", "isSo", "(I)Z"⟩, 37), (⟨"SleetLineModel", "says", "(IIII)Z"⟩, 37), (⟨"SleetLineModel", "marked", "(II)I"⟩, 37)]
theorem lw_r5 : ∀ q ∈ lw_privs_5, lw_okq q := List.forall_mem_cons.mpr ⟨lw_p64, List.forall_mem_cons.mpr ⟨lw_p65, List.forall_mem_cons.mpr ⟨lw_p66, List.forall_mem_cons.mpr ⟨lw_p67, List.forall_mem_cons.mpr ⟨lw_p68, List.forall_mem_cons.mpr ⟨lw_p69, List.forall_mem_cons.mpr ⟨lw_p70, List.forall_mem_cons.mpr ⟨lw_p71, List.forall_mem_cons.mpr ⟨lw_p72, List.forall_mem_cons.mpr ⟨lw_p73, List.forall_mem_cons.mpr ⟨lw_p74, List.forall_mem_cons.mpr ⟨lw_p75, List.forall_mem_cons.mpr ⟨lw_p76, fun _ h => absurd h List.not_mem_nil⟩⟩⟩⟩⟩⟩⟩⟩⟩⟩⟩⟩⟩
def lw_privs : List (MethodName × Nat) := lw_privs_1 ++ (lw_privs_2 ++ (lw_privs_3 ++ (lw_privs_4 ++ (lw_privs_5))))
def lw_tbl : List Cond := k2_sels lw_privs ++ tables_1
theorem lw_privs_ok : ∀ q ∈ lw_privs, lw_okq q := by
  show ∀ q ∈ lw_privs_1 ++ (lw_privs_2 ++ (lw_privs_3 ++ (lw_privs_4 ++ (lw_privs_5)))), lw_okq q
  exact List.forall_mem_append.mpr ⟨lw_r1, List.forall_mem_append.mpr ⟨lw_r2, List.forall_mem_append.mpr ⟨lw_r3, List.forall_mem_append.mpr ⟨lw_r4, lw_r5⟩⟩⟩⟩
end
section
def RX0 : String := "SleetLine$Lines"
def TX0 : u_T := fun k => match k with
  | 0 => ("SleetLine$Lines", "known", "Z", false)
  | 1 => ("SleetLine$Lines", "fairOnes", "I", false)
  | 2 => ("SleetLine$Lines", "firstFair", "I", false)
  | 3 => ("SleetLine$Lines", "bestLine", "I", false)
  | 4 => ("SleetLine$Lines", "bestLesser", "I", false)
  | 5 => ("SleetLine$Lines", "allHill", "I", false)
  | _ => ("SleetLine$Lines", "allSea", "I", false)
def tyX0 : Nat → FieldType := fun k => match k with
  | 0 => .boolean
  | 1 => .int
  | 2 => .int
  | 3 => .int
  | 4 => .int
  | 5 => .int
  | _ => .int
abbrev wsX00 : List Cond := u_ws RX0 TX0 7
theorem nmX0 : ∀ a, a < 7 → ∀ b, b < 7 → a ≠ b → (TX0 a).2.1 ≠ (TX0 b).2.1 := by decide +kernel
theorem tyX0_ok : ∀ k, k < 7 → parseFieldDescriptor (TX0 k).2.2.1 = some (tyX0 k) := by decide +kernel
abbrev cX0_init : ByteArray := prog_2_method_1_code
def yX0_init : MethodName := ⟨RX0, "<init>", "()V"⟩
abbrev cX0_judge : ByteArray := prog_2_method_2_code
def yX0_judge : MethodName := ⟨RX0, "judge", "(LSleetLine$Wold;)V"⟩
abbrev cX0_drawFrom : ByteArray := prog_2_method_3_code
def yX0_drawFrom : MethodName := ⟨RX0, "drawFrom", "(LSleetLine$Lines;LSleetLine$Wold;IIII)V"⟩
abbrev cX0_judgeOne : ByteArray := prog_2_method_4_code
def yX0_judgeOne : MethodName := ⟨RX0, "judgeOne", "(III)V"⟩
def RX1 : String := "SleetLine$Now"
def TX1 : u_T := fun k => match k with
  | 0 => ("SleetLine$Now", "day", "I", false)
  | 1 => ("SleetLine$Now", "extra", "I", false)
  | 2 => ("SleetLine$Now", "stake", "[I", true)
  | 3 => ("SleetLine$Now", "steps", "I", false)
  | 4 => ("SleetLine$Now", "stepKind", "[I", true)
  | 5 => ("SleetLine$Now", "stepColumn", "[I", true)
  | _ => ("SleetLine$Now", "stepBefore", "[I", true)
def tyX1 : Nat → FieldType := fun k => match k with
  | 0 => .int
  | 1 => .int
  | 2 => .array .int
  | 3 => .int
  | 4 => .array .int
  | 5 => .array .int
  | _ => .array .int
abbrev wsX10 : List Cond := u_ws RX1 TX1 7
theorem nmX1 : ∀ a, a < 7 → ∀ b, b < 7 → a ≠ b → (TX1 a).2.1 ≠ (TX1 b).2.1 := by decide +kernel
theorem tyX1_ok : ∀ k, k < 7 → parseFieldDescriptor (TX1 k).2.2.1 = some (tyX1 k) := by decide +kernel
abbrev cX1_init : ByteArray := prog_3_method_1_code
def yX1_init : MethodName := ⟨RX1, "<init>", "()V"⟩
abbrev cX1_begin : ByteArray := prog_3_method_2_code
def yX1_begin : MethodName := ⟨RX1, "begin", "()V"⟩
abbrev cX1_become : ByteArray := prog_3_method_3_code
def yX1_become : MethodName := ⟨RX1, "become", "(LSleetLine$Now;)V"⟩
abbrev cX1_remember : ByteArray := prog_3_method_4_code
def yX1_remember : MethodName := ⟨RX1, "remember", "(III)V"⟩
abbrev cX1_loseOldest : ByteArray := prog_3_method_5_code
def yX1_loseOldest : MethodName := ⟨RX1, "loseOldest", "()V"⟩
abbrev cX1_takeBack : ByteArray := prog_3_method_6_code
def yX1_takeBack : MethodName := ⟨RX1, "takeBack", "()V"⟩
abbrev cX1_standing : ByteArray := prog_3_method_7_code
def yX1_standing : MethodName := ⟨RX1, "standing", "()I"⟩
def RX2 : String := "SleetLine$Text"
def TX2 : u_T := fun k => match k with
  | 0 => ("SleetLine$Text", "bytes", "[I", true)
  | 1 => ("SleetLine$Text", "length", "I", false)
  | 2 => ("SleetLine$Text", "place", "I", false)
  | 3 => ("SleetLine$Text", "sort", "I", false)
  | 4 => ("SleetLine$Text", "start", "I", false)
  | 5 => ("SleetLine$Text", "value", "I", false)
  | 6 => ("SleetLine$Text", "gapTold", "Z", false)
  | 7 => ("SleetLine$Text", "handsTold", "Z", false)
  | _ => ("SleetLine$Text", "numbers", "[I", true)
def tyX2 : Nat → FieldType := fun k => match k with
  | 0 => .array .int
  | 1 => .int
  | 2 => .int
  | 3 => .int
  | 4 => .int
  | 5 => .int
  | 6 => .boolean
  | 7 => .boolean
  | _ => .array .int
abbrev wsX20 : List Cond := u_ws RX2 TX2 9
theorem nmX2 : ∀ a, a < 9 → ∀ b, b < 9 → a ≠ b → (TX2 a).2.1 ≠ (TX2 b).2.1 := by decide +kernel
theorem tyX2_ok : ∀ k, k < 9 → parseFieldDescriptor (TX2 k).2.2.1 = some (tyX2 k) := by decide +kernel
abbrev cX2_init : ByteArray := prog_4_method_1_code
def yX2_init : MethodName := ⟨RX2, "<init>", "()V"⟩
abbrev cX2_add : ByteArray := prog_4_method_2_code
def yX2_add : MethodName := ⟨RX2, "add", "(I)Z"⟩
abbrev cX2_tell : ByteArray := prog_4_method_3_code
def yX2_tell : MethodName := ⟨RX2, "tell", "(LSleetLine$Wold;)I"⟩
abbrev cX2_readItem : ByteArray := prog_4_method_4_code
def yX2_readItem : MethodName := ⟨RX2, "readItem", "(LSleetLine$Wold;)Z"⟩
abbrev cX2_readColumn : ByteArray := prog_4_method_5_code
def yX2_readColumn : MethodName := ⟨RX2, "readColumn", "(LSleetLine$Wold;)Z"⟩
abbrev cX2_readGap : ByteArray := prog_4_method_6_code
def yX2_readGap : MethodName := ⟨RX2, "readGap", "(LSleetLine$Wold;)Z"⟩
abbrev cX2_readHands : ByteArray := prog_4_method_7_code
def yX2_readHands : MethodName := ⟨RX2, "readHands", "(LSleetLine$Wold;)Z"⟩
abbrev cX2_readVoter : ByteArray := prog_4_method_8_code
def yX2_readVoter : MethodName := ⟨RX2, "readVoter", "(LSleetLine$Wold;)Z"⟩
abbrev cX2_readDay : ByteArray := prog_4_method_9_code
def yX2_readDay : MethodName := ⟨RX2, "readDay", "(LSleetLine$Wold;)Z"⟩
abbrev cX2_number : ByteArray := prog_4_method_10_code
def yX2_number : MethodName := ⟨RX2, "number", "(III)Z"⟩
abbrev cX2_ended : ByteArray := prog_4_method_11_code
def yX2_ended : MethodName := ⟨RX2, "ended", "()Z"⟩
abbrev cX2_take : ByteArray := prog_4_method_12_code
def yX2_take : MethodName := ⟨RX2, "take", "()V"⟩
abbrev cX2_takeLetters : ByteArray := prog_4_method_13_code
def yX2_takeLetters : MethodName := ⟨RX2, "takeLetters", "()V"⟩
abbrev cX2_takeNumber : ByteArray := prog_4_method_14_code
def yX2_takeNumber : MethodName := ⟨RX2, "takeNumber", "()V"⟩
def RX3 : String := "SleetLine$Wold"
def TX3 : u_T := fun k => match k with
  | 0 => ("SleetLine$Wold", "columns", "I", false)
  | 1 => ("SleetLine$Wold", "low", "[I", true)
  | 2 => ("SleetLine$Wold", "hill", "[I", true)
  | 3 => ("SleetLine$Wold", "sea", "[I", true)
  | 4 => ("SleetLine$Wold", "gap", "I", false)
  | 5 => ("SleetLine$Wold", "hand", "[I", true)
  | 6 => ("SleetLine$Wold", "voters", "I", false)
  | 7 => ("SleetLine$Wold", "weight", "[I", true)
  | 8 => ("SleetLine$Wold", "wants", "[I", true)
  | 9 => ("SleetLine$Wold", "days", "I", false)
  | _ => ("SleetLine$Wold", "warm", "[I", true)
def tyX3 : Nat → FieldType := fun k => match k with
  | 0 => .int
  | 1 => .array .int
  | 2 => .array .int
  | 3 => .array .int
  | 4 => .int
  | 5 => .array .int
  | 6 => .int
  | 7 => .array .int
  | 8 => .array .int
  | 9 => .int
  | _ => .array .int
abbrev wsX30 : List Cond := u_ws RX3 TX3 11
theorem nmX3 : ∀ a, a < 11 → ∀ b, b < 11 → a ≠ b → (TX3 a).2.1 ≠ (TX3 b).2.1 := by decide +kernel
theorem tyX3_ok : ∀ k, k < 11 → parseFieldDescriptor (TX3 k).2.2.1 = some (tyX3 k) := by decide +kernel
abbrev cX3_init : ByteArray := prog_5_method_1_code
def yX3_init : MethodName := ⟨RX3, "<init>", "()V"⟩
abbrev cX3_begin : ByteArray := prog_5_method_2_code
def yX3_begin : MethodName := ⟨RX3, "begin", "()V"⟩
abbrev cX3_addColumn : ByteArray := prog_5_method_3_code
def yX3_addColumn : MethodName := ⟨RX3, "addColumn", "(III)V"⟩
abbrev cX3_addVoter : ByteArray := prog_5_method_4_code
def yX3_addVoter : MethodName := ⟨RX3, "addVoter", "(II)V"⟩
abbrev cX3_addDay : ByteArray := prog_5_method_5_code
def yX3_addDay : MethodName := ⟨RX3, "addDay", "(I)V"⟩
abbrev cX3_warmOn : ByteArray := prog_5_method_6_code
def yX3_warmOn : MethodName := ⟨RX3, "warmOn", "(I)I"⟩
abbrev cX3_snowLimit : ByteArray := prog_5_method_7_code
def yX3_snowLimit : MethodName := ⟨RX3, "snowLimit", "(III)I"⟩
def RX4 : String := "SleetLine"
def TX4 : u_T := fun k => match k with
  | 0 => ("SleetLine", "text", "LSleetLine$Text;", true)
  | 1 => ("SleetLine", "told", "LSleetLine$Wold;", false)
  | 2 => ("SleetLine", "draft", "LSleetLine$Wold;", false)
  | 3 => ("SleetLine", "lines", "LSleetLine$Lines;", true)
  | 4 => ("SleetLine", "present", "LSleetLine$Now;", true)
  | 5 => ("SleetLine", "images", "[LSleetLine$Now;", true)
  | 6 => ("SleetLine", "kept", "[Z", true)
  | 7 => ("SleetLine", "heard", "I", false)
  | 8 => ("SleetLine", "leastWarmth", "I", false)
  | 9 => ("SleetLine", "mostWarmth", "I", false)
  | _ => ("SleetLine", "traced", "J", false)
def tyX4 : Nat → FieldType := fun k => match k with
  | 0 => .object "SleetLine$Text"
  | 1 => .object "SleetLine$Wold"
  | 2 => .object "SleetLine$Wold"
  | 3 => .object "SleetLine$Lines"
  | 4 => .object "SleetLine$Now"
  | 5 => .array (.object "SleetLine$Now")
  | 6 => .array .boolean
  | 7 => .int
  | 8 => .int
  | 9 => .int
  | _ => .long
abbrev wsX40 : List Cond := u_ws RX4 TX4 11
theorem nmX4 : ∀ a, a < 11 → ∀ b, b < 11 → a ≠ b → (TX4 a).2.1 ≠ (TX4 b).2.1 := by decide +kernel
theorem tyX4_ok : ∀ k, k < 11 → parseFieldDescriptor (TX4 k).2.2.1 = some (tyX4 k) := by decide +kernel
abbrev cX4_init : ByteArray := prog_1_method_1_code
def yX4_init : MethodName := ⟨RX4, "<init>", "()V"⟩
abbrev cX4_type : ByteArray := prog_1_method_2_code
def yX4_type : MethodName := ⟨RX4, "type", "(I)I"⟩
abbrev cX4_clear : ByteArray := prog_1_method_3_code
def yX4_clear : MethodName := ⟨RX4, "clear", "()I"⟩
abbrev cX4_wold : ByteArray := prog_1_method_4_code
def yX4_wold : MethodName := ⟨RX4, "wold", "()I"⟩
abbrev cX4_column : ByteArray := prog_1_method_5_code
def yX4_column : MethodName := ⟨RX4, "column", "(II)I"⟩
abbrev cX4_field : ByteArray := prog_1_method_6_code
def yX4_field : MethodName := ⟨RX4, "field", "(III)I"⟩
abbrev cX4_voter : ByteArray := prog_1_method_7_code
def yX4_voter : MethodName := ⟨RX4, "voter", "(II)I"⟩
abbrev cX4_days : ByteArray := prog_1_method_8_code
def yX4_days : MethodName := ⟨RX4, "days", "(I)I"⟩
abbrev cX4_warms : ByteArray := prog_1_method_9_code
def yX4_warms : MethodName := ⟨RX4, "warms", "(I)I"⟩
abbrev cX4_stakes : ByteArray := prog_1_method_10_code
def yX4_stakes : MethodName := ⟨RX4, "stakes", "(I)I"⟩
abbrev cX4_pulls : ByteArray := prog_1_method_11_code
def yX4_pulls : MethodName := ⟨RX4, "pulls", "(I)I"⟩
abbrev cX4_undo : ByteArray := prog_1_method_12_code
def yX4_undo : MethodName := ⟨RX4, "undo", "()I"⟩
abbrev cX4_now : ByteArray := prog_1_method_13_code
def yX4_now : MethodName := ⟨RX4, "now", "(I)I"⟩
abbrev cX4_first : ByteArray := prog_1_method_14_code
def yX4_first : MethodName := ⟨RX4, "first", "(II)I"⟩
abbrev cX4_fair : ByteArray := prog_1_method_15_code
def yX4_fair : MethodName := ⟨RX4, "fair", "(I)I"⟩
abbrev cX4_best : ByteArray := prog_1_method_16_code
def yX4_best : MethodName := ⟨RX4, "best", "(I)I"⟩
abbrev cX4_power : ByteArray := prog_1_method_17_code
def yX4_power : MethodName := ⟨RX4, "power", "(II)I"⟩
abbrev cX4_duel : ByteArray := prog_1_method_18_code
def yX4_duel : MethodName := ⟨RX4, "duel", "(I)I"⟩
abbrev cX4_odds : ByteArray := prog_1_method_19_code
def yX4_odds : MethodName := ⟨RX4, "odds", "(IIIII)I"⟩
abbrev cX4_hears : ByteArray := prog_1_method_20_code
def yX4_hears : MethodName := ⟨RX4, "hears", "(IIII)I"⟩
abbrev cX4_forget : ByteArray := prog_1_method_21_code
def yX4_forget : MethodName := ⟨RX4, "forget", "()I"⟩
abbrev cX4_warmth : ByteArray := prog_1_method_22_code
def yX4_warmth : MethodName := ⟨RX4, "warmth", "(I)I"⟩
abbrev cX4_ask : ByteArray := prog_1_method_23_code
def yX4_ask : MethodName := ⟨RX4, "ask", "()I"⟩
abbrev cX4_mark : ByteArray := prog_1_method_24_code
def yX4_mark : MethodName := ⟨RX4, "mark", "(II)I"⟩
abbrev cX4_keep : ByteArray := prog_1_method_25_code
def yX4_keep : MethodName := ⟨RX4, "keep", "(I)I"⟩
abbrev cX4_back : ByteArray := prog_1_method_26_code
def yX4_back : MethodName := ⟨RX4, "back", "(I)I"⟩
abbrev cX4_count : ByteArray := prog_1_method_27_code
def yX4_count : MethodName := ⟨RX4, "count", "(I)I"⟩
abbrev cX4_trace : ByteArray := prog_1_method_28_code
def yX4_trace : MethodName := ⟨RX4, "trace", "()J"⟩
abbrev cX4_within : ByteArray := prog_1_method_29_code
def yX4_within : MethodName := ⟨RX4, "within", "(III)Z"⟩
abbrev cX4_isColumn : ByteArray := prog_1_method_30_code
def yX4_isColumn : MethodName := ⟨RX4, "isColumn", "(I)Z"⟩
abbrev cX4_isField : ByteArray := prog_1_method_31_code
def yX4_isField : MethodName := ⟨RX4, "isField", "(II)Z"⟩
abbrev cX4_isVoter : ByteArray := prog_1_method_32_code
def yX4_isVoter : MethodName := ⟨RX4, "isVoter", "(I)Z"⟩
abbrev cX4_warmToday : ByteArray := prog_1_method_33_code
def yX4_warmToday : MethodName := ⟨RX4, "warmToday", "()I"⟩
abbrev cX4_mild : ByteArray := prog_1_method_34_code
def yX4_mild : MethodName := ⟨RX4, "mild", "(II)I"⟩
abbrev cX4_falls : ByteArray := prog_1_method_35_code
def yX4_falls : MethodName := ⟨RX4, "falls", "(II)I"⟩
abbrev cX4_lowestUpTo : ByteArray := prog_1_method_36_code
def yX4_lowestUpTo : MethodName := ⟨RX4, "lowestUpTo", "(II)I"⟩
abbrev cX4_edge : ByteArray := prog_1_method_37_code
def yX4_edge : MethodName := ⟨RX4, "edge", "(I)I"⟩
abbrev cX4_wet : ByteArray := prog_1_method_38_code
def yX4_wet : MethodName := ⟨RX4, "wet", "(I)I"⟩
abbrev cX4_claim : ByteArray := prog_1_method_39_code
def yX4_claim : MethodName := ⟨RX4, "claim", "(II)I"⟩
abbrev cX4_halves : ByteArray := prog_1_method_40_code
def yX4_halves : MethodName := ⟨RX4, "halves", "(IZ)I"⟩
abbrev cX4_greaterHalf : ByteArray := prog_1_method_41_code
def yX4_greaterHalf : MethodName := ⟨RX4, "greaterHalf", "(I)I"⟩
abbrev cX4_snowyFields : ByteArray := prog_1_method_42_code
def yX4_snowyFields : MethodName := ⟨RX4, "snowyFields", "(I)I"⟩
abbrev cX4_rainyFields : ByteArray := prog_1_method_43_code
def yX4_rainyFields : MethodName := ⟨RX4, "rainyFields", "()I"⟩
abbrev cX4_widest : ByteArray := prog_1_method_44_code
def yX4_widest : MethodName := ⟨RX4, "widest", "()I"⟩
abbrev cX4_vote : ByteArray := prog_1_method_45_code
def yX4_vote : MethodName := ⟨RX4, "vote", "()I"⟩
abbrev cX4_decidedOrders : ByteArray := prog_1_method_46_code
def yX4_decidedOrders : MethodName := ⟨RX4, "decidedOrders", "(I)I"⟩
abbrev cX4_weightOf : ByteArray := prog_1_method_47_code
def yX4_weightOf : MethodName := ⟨RX4, "weightOf", "(I)I"⟩
abbrev cX4_snowyWays : ByteArray := prog_1_method_48_code
def yX4_snowyWays : MethodName := ⟨RX4, "snowyWays", "(III)I"⟩
abbrev cX4_leastTerms : ByteArray := prog_1_method_49_code
def yX4_leastTerms : MethodName := ⟨RX4, "leastTerms", "(III)I"⟩
abbrev cX4_greatestShared : ByteArray := prog_1_method_50_code
def yX4_greatestShared : MethodName := ⟨RX4, "greatestShared", "(II)I"⟩
abbrev cX4_hearNothing : ByteArray := prog_1_method_51_code
def yX4_hearNothing : MethodName := ⟨RX4, "hearNothing", "()V"⟩
abbrev cX4_warmths : ByteArray := prog_1_method_52_code
def yX4_warmths : MethodName := ⟨RX4, "warmths", "()I"⟩
abbrev cX4_greaterPart : ByteArray := prog_1_method_53_code
def yX4_greaterPart : MethodName := ⟨RX4, "greaterPart", "(II)I"⟩
abbrev cX4_columnMark : ByteArray := prog_1_method_54_code
def yX4_columnMark : MethodName := ⟨RX4, "columnMark", "(I)I"⟩
abbrev cX4_moorMark : ByteArray := prog_1_method_55_code
def yX4_moorMark : MethodName := ⟨RX4, "moorMark", "(I)I"⟩
abbrev cX4_fenMark : ByteArray := prog_1_method_56_code
def yX4_fenMark : MethodName := ⟨RX4, "fenMark", "(I)I"⟩
abbrev cX4_fellMark : ByteArray := prog_1_method_57_code
def yX4_fellMark : MethodName := ⟨RX4, "fellMark", "(I)I"⟩
abbrev cX4_saltingMark : ByteArray := prog_1_method_58_code
def yX4_saltingMark : MethodName := ⟨RX4, "saltingMark", "(I)I"⟩
abbrev cX4_woodMark : ByteArray := prog_1_method_59_code
def yX4_woodMark : MethodName := ⟨RX4, "woodMark", "(I)I"⟩
def RX5 : String := "SleetLineModel"
def TX5 : u_T := fun k => match k with
  | 0 => ("SleetLineModel", "columns", "I", false)
  | 1 => ("SleetLineModel", "voters", "I", false)
  | 2 => ("SleetLineModel", "daysMany", "I", false)
  | 3 => ("SleetLineModel", "gap", "I", false)
  | 4 => ("SleetLineModel", "hand", "[I", true)
  | 5 => ("SleetLineModel", "lows", "[I", true)
  | 6 => ("SleetLineModel", "hills", "[I", true)
  | 7 => ("SleetLineModel", "seas", "[I", true)
  | 8 => ("SleetLineModel", "weights", "[I", true)
  | 9 => ("SleetLineModel", "wants", "[I", true)
  | 10 => ("SleetLineModel", "warm", "[I", true)
  | 11 => ("SleetLineModel", "number", "I", false)
  | 12 => ("SleetLineModel", "extra", "I", false)
  | 13 => ("SleetLineModel", "staked", "[I", true)
  | 14 => ("SleetLineModel", "heardMany", "I", false)
  | 15 => ("SleetLineModel", "heard", "[I", true)
  | 16 => ("SleetLineModel", "traced", "J", false)
  | 17 => ("SleetLineModel", "text", "[I", true)
  | 18 => ("SleetLineModel", "size", "I", false)
  | 19 => ("SleetLineModel", "readAt", "I", false)
  | 20 => ("SleetLineModel", "readColumns", "I", false)
  | 21 => ("SleetLineModel", "readVoters", "I", false)
  | 22 => ("SleetLineModel", "readDays", "I", false)
  | 23 => ("SleetLineModel", "readGap", "I", false)
  | 24 => ("SleetLineModel", "readHands", "I", false)
  | 25 => ("SleetLineModel", "readNumber", "I", false)
  | 26 => ("SleetLineModel", "readColumn", "[I", true)
  | 27 => ("SleetLineModel", "readVoter", "[I", true)
  | 28 => ("SleetLineModel", "readWarm", "[I", true)
  | 29 => ("SleetLineModel", "readHand", "[I", true)
  | 30 => ("SleetLineModel", "comings", "I", false)
  | 31 => ("SleetLineModel", "ahead", "[I", true)
  | 32 => ("SleetLineModel", "undoMany", "I", false)
  | 33 => ("SleetLineModel", "line", "[I", true)
  | 34 => ("SleetLineModel", "snows", "[I", true)
  | 35 => ("SleetLineModel", "snowsThen", "[I", true)
  | _ => ("SleetLineModel", "images", "[I", true)
def tyX5 : Nat → FieldType := fun k => match k with
  | 0 => .int
  | 1 => .int
  | 2 => .int
  | 3 => .int
  | 4 => .array .int
  | 5 => .array .int
  | 6 => .array .int
  | 7 => .array .int
  | 8 => .array .int
  | 9 => .array .int
  | 10 => .array .int
  | 11 => .int
  | 12 => .int
  | 13 => .array .int
  | 14 => .int
  | 15 => .array .int
  | 16 => .long
  | 17 => .array .int
  | 18 => .int
  | 19 => .int
  | 20 => .int
  | 21 => .int
  | 22 => .int
  | 23 => .int
  | 24 => .int
  | 25 => .int
  | 26 => .array .int
  | 27 => .array .int
  | 28 => .array .int
  | 29 => .array .int
  | 30 => .int
  | 31 => .array .int
  | 32 => .int
  | 33 => .array .int
  | 34 => .array .int
  | 35 => .array .int
  | _ => .array .int
abbrev wsX50 : List Cond := u_ws RX5 TX5 37
theorem nmX5 : ∀ a, a < 37 → ∀ b, b < 37 → a ≠ b → (TX5 a).2.1 ≠ (TX5 b).2.1 := by decide +kernel
theorem tyX5_ok : ∀ k, k < 37 → parseFieldDescriptor (TX5 k).2.2.1 = some (tyX5 k) := by decide +kernel
abbrev cX5_in : ByteArray := prog_7_method_1_code
def yX5_in : MethodName := ⟨RX5, "in", "(III)Z"⟩
abbrev cX5_common : ByteArray := prog_7_method_2_code
def yX5_common : MethodName := ⟨RX5, "common", "(II)I"⟩
abbrev cX5_init : ByteArray := prog_7_method_3_code
def yX5_init : MethodName := ⟨RX5, "<init>", "()V"⟩
abbrev cX5_isColumn : ByteArray := prog_7_method_4_code
def yX5_isColumn : MethodName := ⟨RX5, "isColumn", "(I)Z"⟩
abbrev cX5_isField : ByteArray := prog_7_method_5_code
def yX5_isField : MethodName := ⟨RX5, "isField", "(I)Z"⟩
abbrev cX5_type : ByteArray := prog_7_method_6_code
def yX5_type : MethodName := ⟨RX5, "type", "(I)I"⟩
abbrev cX5_clear : ByteArray := prog_7_method_7_code
def yX5_clear : MethodName := ⟨RX5, "clear", "()I"⟩
abbrev cX5_here : ByteArray := prog_7_method_8_code
def yX5_here : MethodName := ⟨RX5, "here", "()I"⟩
abbrev cX5_skip : ByteArray := prog_7_method_9_code
def yX5_skip : MethodName := ⟨RX5, "skip", "()V"⟩
abbrev cX5_number : ByteArray := prog_7_method_10_code
def yX5_number : MethodName := ⟨RX5, "number", "(II)Z"⟩
abbrev cX5_ends : ByteArray := prog_7_method_11_code
def yX5_ends : MethodName := ⟨RX5, "ends", "()Z"⟩
abbrev cX5_readsColumn : ByteArray := prog_7_method_12_code
def yX5_readsColumn : MethodName := ⟨RX5, "readsColumn", "()Z"⟩
abbrev cX5_readsVoter : ByteArray := prog_7_method_13_code
def yX5_readsVoter : MethodName := ⟨RX5, "readsVoter", "()Z"⟩
abbrev cX5_readsDay : ByteArray := prog_7_method_14_code
def yX5_readsDay : MethodName := ⟨RX5, "readsDay", "()Z"⟩
abbrev cX5_readsGap : ByteArray := prog_7_method_15_code
def yX5_readsGap : MethodName := ⟨RX5, "readsGap", "()Z"⟩
abbrev cX5_readsHands : ByteArray := prog_7_method_16_code
def yX5_readsHands : MethodName := ⟨RX5, "readsHands", "()Z"⟩
abbrev cX5_readsItem : ByteArray := prog_7_method_17_code
def yX5_readsItem : MethodName := ⟨RX5, "readsItem", "()Z"⟩
abbrev cX5_wold : ByteArray := prog_7_method_18_code
def yX5_wold : MethodName := ⟨RX5, "wold", "()I"⟩
abbrev cX5_comesRead : ByteArray := prog_7_method_19_code
def yX5_comesRead : MethodName := ⟨RX5, "comesRead", "()V"⟩
abbrev cX5_warmAt : ByteArray := prog_7_method_20_code
def yX5_warmAt : MethodName := ⟨RX5, "warmAt", "(I)I"⟩
abbrev cX5_mildBy : ByteArray := prog_7_method_21_code
def yX5_mildBy : MethodName := ⟨RX5, "mildBy", "(III)I"⟩
abbrev cX5_warmthNow : ByteArray := prog_7_method_22_code
def yX5_warmthNow : MethodName := ⟨RX5, "warmthNow", "()I"⟩
abbrev cX5_mild : ByteArray := prog_7_method_23_code
def yX5_mild : MethodName := ⟨RX5, "mild", "(II)I"⟩
abbrev cX5_lowestBy : ByteArray := prog_7_method_24_code
def yX5_lowestBy : MethodName := ⟨RX5, "lowestBy", "(II)I"⟩
abbrev cX5_edge : ByteArray := prog_7_method_25_code
def yX5_edge : MethodName := ⟨RX5, "edge", "(I)I"⟩
abbrev cX5_wet : ByteArray := prog_7_method_26_code
def yX5_wet : MethodName := ⟨RX5, "wet", "(I)I"⟩
abbrev cX5_halves : ByteArray := prog_7_method_27_code
def yX5_halves : MethodName := ⟨RX5, "halves", "(I)I"⟩
abbrev cX5_column : ByteArray := prog_7_method_28_code
def yX5_column : MethodName := ⟨RX5, "column", "(II)I"⟩
abbrev cX5_falls : ByteArray := prog_7_method_29_code
def yX5_falls : MethodName := ⟨RX5, "falls", "(II)I"⟩
abbrev cX5_field : ByteArray := prog_7_method_30_code
def yX5_field : MethodName := ⟨RX5, "field", "(III)I"⟩
abbrev cX5_voter : ByteArray := prog_7_method_31_code
def yX5_voter : MethodName := ⟨RX5, "voter", "(II)I"⟩
abbrev cX5_fallMany : ByteArray := prog_7_method_32_code
def yX5_fallMany : MethodName := ⟨RX5, "fallMany", "(I)I"⟩
abbrev cX5_writes : ByteArray := prog_7_method_33_code
def yX5_writes : MethodName := ⟨RX5, "writes", "([II)V"⟩
abbrev cX5_readsBack : ByteArray := prog_7_method_34_code
def yX5_readsBack : MethodName := ⟨RX5, "readsBack", "([II)V"⟩
abbrev cX5_notes : ByteArray := prog_7_method_35_code
def yX5_notes : MethodName := ⟨RX5, "notes", "()V"⟩
abbrev cX5_days : ByteArray := prog_7_method_36_code
def yX5_days : MethodName := ⟨RX5, "days", "(I)I"⟩
abbrev cX5_warms : ByteArray := prog_7_method_37_code
def yX5_warms : MethodName := ⟨RX5, "warms", "(I)I"⟩
abbrev cX5_stakes : ByteArray := prog_7_method_38_code
def yX5_stakes : MethodName := ⟨RX5, "stakes", "(I)I"⟩
abbrev cX5_pulls : ByteArray := prog_7_method_39_code
def yX5_pulls : MethodName := ⟨RX5, "pulls", "(I)I"⟩
abbrev cX5_undo : ByteArray := prog_7_method_40_code
def yX5_undo : MethodName := ⟨RX5, "undo", "()I"⟩
abbrev cX5_widest : ByteArray := prog_7_method_41_code
def yX5_widest : MethodName := ⟨RX5, "widest", "()I"⟩
abbrev cX5_stakeMany : ByteArray := prog_7_method_42_code
def yX5_stakeMany : MethodName := ⟨RX5, "stakeMany", "()I"⟩
abbrev cX5_vote : ByteArray := prog_7_method_43_code
def yX5_vote : MethodName := ⟨RX5, "vote", "()I"⟩
abbrev cX5_now : ByteArray := prog_7_method_44_code
def yX5_now : MethodName := ⟨RX5, "now", "(I)I"⟩
abbrev cX5_first : ByteArray := prog_7_method_45_code
def yX5_first : MethodName := ⟨RX5, "first", "(II)I"⟩
abbrev cX5_firstLine : ByteArray := prog_7_method_46_code
def yX5_firstLine : MethodName := ⟨RX5, "firstLine", "()V"⟩
abbrev cX5_nextLine : ByteArray := prog_7_method_47_code
def yX5_nextLine : MethodName := ⟨RX5, "nextLine", "()Z"⟩
abbrev cX5_lineNumber : ByteArray := prog_7_method_48_code
def yX5_lineNumber : MethodName := ⟨RX5, "lineNumber", "()I"⟩
abbrev cX5_hasHill : ByteArray := prog_7_method_49_code
def yX5_hasHill : MethodName := ⟨RX5, "hasHill", "()I"⟩
abbrev cX5_hasSea : ByteArray := prog_7_method_50_code
def yX5_hasSea : MethodName := ⟨RX5, "hasSea", "()I"⟩
abbrev cX5_allOf : ByteArray := prog_7_method_51_code
def yX5_allOf : MethodName := ⟨RX5, "allOf", "([I)I"⟩
abbrev cX5_fair : ByteArray := prog_7_method_52_code
def yX5_fair : MethodName := ⟨RX5, "fair", "(I)I"⟩
abbrev cX5_best : ByteArray := prog_7_method_53_code
def yX5_best : MethodName := ⟨RX5, "best", "(I)I"⟩
abbrev cX5_orders : ByteArray := prog_7_method_54_code
def yX5_orders : MethodName := ⟨RX5, "orders", "(I)I"⟩
abbrev cX5_weightOf : ByteArray := prog_7_method_55_code
def yX5_weightOf : MethodName := ⟨RX5, "weightOf", "(I)I"⟩
abbrev cX5_power : ByteArray := prog_7_method_56_code
def yX5_power : MethodName := ⟨RX5, "power", "(II)I"⟩
abbrev cX5_duel : ByteArray := prog_7_method_57_code
def yX5_duel : MethodName := ⟨RX5, "duel", "(I)I"⟩
abbrev cX5_odds : ByteArray := prog_7_method_58_code
def yX5_odds : MethodName := ⟨RX5, "odds", "(IIIII)I"⟩
abbrev cX5_hears : ByteArray := prog_7_method_59_code
def yX5_hears : MethodName := ⟨RX5, "hears", "(IIII)I"⟩
abbrev cX5_forget : ByteArray := prog_7_method_60_code
def yX5_forget : MethodName := ⟨RX5, "forget", "()I"⟩
abbrev cX5_says : ByteArray := prog_7_method_61_code
def yX5_says : MethodName := ⟨RX5, "says", "(IIII)Z"⟩
abbrev cX5_isSo : ByteArray := prog_7_method_62_code
def yX5_isSo : MethodName := ⟨RX5, "isSo", "(I)Z"⟩
abbrev cX5_warmth : ByteArray := prog_7_method_63_code
def yX5_warmth : MethodName := ⟨RX5, "warmth", "(I)I"⟩
abbrev cX5_ask : ByteArray := prog_7_method_64_code
def yX5_ask : MethodName := ⟨RX5, "ask", "()I"⟩
abbrev cX5_marked : ByteArray := prog_7_method_65_code
def yX5_marked : MethodName := ⟨RX5, "marked", "(II)I"⟩
abbrev cX5_mark : ByteArray := prog_7_method_66_code
def yX5_mark : MethodName := ⟨RX5, "mark", "(II)I"⟩
abbrev cX5_keep : ByteArray := prog_7_method_67_code
def yX5_keep : MethodName := ⟨RX5, "keep", "(I)I"⟩
abbrev cX5_back : ByteArray := prog_7_method_68_code
def yX5_back : MethodName := ⟨RX5, "back", "(I)I"⟩
abbrev cX5_count : ByteArray := prog_7_method_69_code
def yX5_count : MethodName := ⟨RX5, "count", "(I)I"⟩
abbrev cX5_trace : ByteArray := prog_7_method_70_code
def yX5_trace : MethodName := ⟨RX5, "trace", "()J"⟩
def RJ6 : String := "java/lang/Integer"
def TJ6 : u_T := fun k => match k with
  | _ => ("", "", "", false)
def tyJ6 : Nat → FieldType := fun k => match k with
  | _ => .int
abbrev wsJ60 : List Cond := u_ws RJ6 TJ6 0
theorem nmJ6 : ∀ a, a < 0 → ∀ b, b < 0 → a ≠ b → (TJ6 a).2.1 ≠ (TJ6 b).2.1 := by decide +kernel
theorem tyJ6_ok : ∀ k, k < 0 → parseFieldDescriptor (TJ6 k).2.2.1 = some (tyJ6 k) := by decide +kernel
abbrev cJ6_bitCount_0f7a4 : ByteArray := prog_8_method_49_code
def yJ6_bitCount_0f7a4 : MethodName := ⟨RJ6, "bitCount", "(I)I"⟩
end
section
/-! A small machine over whole numbers, and how its cells stand for the heap's. -/
abbrev ms_V : Type := Int ⊕ (Int ⊕ (Int ⊕ Nat))
abbrev mI (z : Int) : ms_V := Sum.inl z
abbrev mL (z : Int) : ms_V := Sum.inr (Sum.inl z)
abbrev mR (z : Int) : ms_V := Sum.inr (Sum.inr (Sum.inl z))
abbrev mE (n : Nat) : ms_V := Sum.inr (Sum.inr (Sum.inr n))
/-- an instruction's own data: c, a, b, d, a table, a place among the words -/
abbrev ms_X : Type := Int × Nat × Nat × Nat × List (Int × Nat) × Nat
abbrev ms_E : Type := Nat × Instr × Nat × ms_X
abbrev ms_B : Type := List ms_E
abbrev ms_S : Type := List (Nat × Nat)
abbrev ms_G : Type := ms_S × Nat × Nat
abbrev ms_H : Type := Int → Int → Int
abbrev ms_K : Type := List ms_V → List ms_V → ms_G → ms_H → Prop
abbrev ms_Q : Type := Option ms_V → ms_S → ms_H → Prop
abbrev ms_O : Type := Nat → List ms_V → ms_S → ms_H → ms_Q → Prop
abbrev ms_Z : Type := Nat → Option (Nat × (Int → Int))
def rg (z : Int) : Prop := -2147483648 ≤ z ∧ z ≤ 2147483647
def hs (h : ms_H) (z k v : Int) : ms_H := fun a b => if a = z ∧ b = k then v else h a b
def ms_cpy (h : ms_H) (s sp d dp n : Int) : ms_H := fun a b => if a = d ∧ dp ≤ b ∧ b < dp + n then h s (sp + (b - dp)) else h a b
/-- the types of fields: 0 int, 1 boolean, 2 long, 3 a reference -/
def ms_ftl : List (List Nat) := [[1, 0, 0, 0, 0, 0, 0], [0, 0, 3, 0, 3, 3, 3], [3, 0, 0, 0, 0, 0, 1, 1, 3], [0, 3, 3, 3, 0, 3, 0, 3, 3, 0, 3], [3, 3, 3, 3, 3, 3, 3, 0, 0, 0, 2], [0, 0, 0, 0, 3, 3, 3, 3, 3, 3, 3, 0, 0, 3, 0, 3, 2, 3, 0, 0, 0, 0, 0, 0, 0, 0, 3, 3, 3, 3, 0, 3, 0, 3, 3, 3, 3]]
def ms_ft (ci : Nat) (k : Int) : Nat := if k < 0 then 0 else (ms_ftl.getD ci []).getD k.toNat 0
def ms_N (ci : Nat) : Nat := (ms_ftl.getD ci []).length
def ms_nw (h : ms_H) (z : Int) (kd : Nat) : ms_H := fun a b => if a = z then (if kd = 12 ∨ (kd < 10 ∧ ms_ft kd b = 3) then -1 else 0) else h a b
/-- the shape of a cell: (class, fields), or (10 int, 11 boolean, 12 references; length) -/
def ms_sh (S : ms_S) (z : Int) : Option (Nat × Nat) := if z < 0 then none else S[z.toNat]?
def ms_ob (S : ms_S) (z : Int) (ci : Nat) : Prop := ms_sh S z = some (ci, ms_N ci)
def ms_ar (S : ms_S) (z : Int) (kd : Nat) (i : Int) (k : Prop) : Prop := ∃ n : Nat, ms_sh S z = some (kd, n) ∧ 0 ≤ i ∧ i < n ∧ k
-- the stack
def i1 (st : List ms_V) (k : Int → List ms_V → Prop) : Prop := match st with
  | Sum.inl z :: r => k z r
  | _ => False
def l1 (st : List ms_V) (k : Int → List ms_V → Prop) : Prop := match st with
  | Sum.inr (Sum.inl z) :: r => k z r
  | _ => False
def r1 (st : List ms_V) (k : Int → List ms_V → Prop) : Prop := match st with
  | Sum.inr (Sum.inr (Sum.inl z)) :: r => k z r
  | _ => False
theorem i1_c (z : Int) (r : List ms_V) (k : Int → List ms_V → Prop) : i1 (mI z :: r) k = k z r := rfl
theorem l1_c (z : Int) (r : List ms_V) (k : Int → List ms_V → Prop) : l1 (mL z :: r) k = k z r := rfl
theorem r1_c (z : Int) (r : List ms_V) (k : Int → List ms_V → Prop) : r1 (mR z :: r) k = k z r := rfl
theorem i1_x {st : List ms_V} {k : Int → List ms_V → Prop} (h : i1 st k) : ∃ z r, st = mI z :: r ∧ k z r := by
  unfold i1 at h
  split at h
  · exact ⟨_, _, rfl, h⟩
  · exact h.elim
theorem l1_x {st : List ms_V} {k : Int → List ms_V → Prop} (h : l1 st k) : ∃ z r, st = mL z :: r ∧ k z r := by
  unfold l1 at h
  split at h
  · exact ⟨_, _, rfl, h⟩
  · exact h.elim
theorem r1_x {st : List ms_V} {k : Int → List ms_V → Prop} (h : r1 st k) : ∃ z r, st = mR z :: r ∧ k z r := by
  unfold r1 at h
  split at h
  · exact ⟨_, _, rfl, h⟩
  · exact h.elim
theorem i1_m {st : List ms_V} {k k' : Int → List ms_V → Prop} (hk : ∀ z r, k z r → k' z r) (h : i1 st k) : i1 st k' := by
  obtain ⟨z, r, rfl, h⟩ := i1_x h
  exact hk z r h
theorem l1_m {st : List ms_V} {k k' : Int → List ms_V → Prop} (hk : ∀ z r, k z r → k' z r) (h : l1 st k) : l1 st k' := by
  obtain ⟨z, r, rfl, h⟩ := l1_x h
  exact hk z r h
theorem r1_m {st : List ms_V} {k k' : Int → List ms_V → Prop} (hk : ∀ z r, k z r → k' z r) (h : r1 st k) : r1 st k' := by
  obtain ⟨z, r, rfl, h⟩ := r1_x h
  exact hk z r h
theorem ms_ar_m {S : ms_S} {z : Int} {kd : Nat} {i : Int} {k k' : Prop} (hk : k → k') (h : ms_ar S z kd i k) : ms_ar S z kd i k' := by
  obtain ⟨n, h1, h2, h3, h4⟩ := h
  exact ⟨n, h1, h2, h3, hk h4⟩
def ms_nl : ms_V → Bool
  | Sum.inr (Sum.inl _) => false
  | _ => true
-- what each instruction does
def o_iload (a : Nat) (K : ms_K) : ms_K := fun L st G h => match L[a]? with
  | some (Sum.inl z) => K L (mI z :: st) G h
  | _ => False
def o_aload (a : Nat) (K : ms_K) : ms_K := fun L st G h => match L[a]? with
  | some (Sum.inr (Sum.inr x)) => K L (Sum.inr (Sum.inr x) :: st) G h
  | _ => False
def o_istore (a : Nat) (K : ms_K) : ms_K := fun L st G h => a < L.length ∧ i1 st (fun z r => K (L.set a (mI z)) r G h)
def o_astore (a : Nat) (K : ms_K) : ms_K := fun L st G h => a < L.length ∧ r1 st (fun z r => K (L.set a (mR z)) r G h)
def o_iinc (a : Nat) (c : Int) (K : ms_K) : ms_K := fun L st G h => match L[a]? with
  | some (Sum.inl z) => rg (z + c) ∧ K (L.set a (mI (z + c))) st G h
  | _ => False
def o_bin (f : Int → Int → Int) (K : ms_K) : ms_K := fun L st G h => i1 st (fun y r => i1 r (fun x r => rg (f x y) ∧ K L (mI (f x y) :: r) G h))
def o_div (K : ms_K) : ms_K := fun L st G h => i1 st (fun y r => i1 r (fun x r => ¬ y = 0 ∧ rg (x.tdiv y) ∧ K L (mI (x.tdiv y) :: r) G h))
def o_rem (K : ms_K) : ms_K := fun L st G h => i1 st (fun y r => i1 r (fun x r => ¬ y = 0 ∧ K L (mI (x.tmod y) :: r) G h))
def o_neg (K : ms_K) : ms_K := fun L st G h => i1 st (fun x r => rg (-x) ∧ K L (mI (-x) :: r) G h)
def o_and (K : ms_K) : ms_K := fun L st G h => i1 st (fun y r => i1 r (fun x r => if y = 1 then K L (mI (x % 2) :: r) G h else if y = 31 then K L (mI (x % 32) :: r) G h else 0 ≤ x ∧ 0 ≤ y ∧ K L (mI ((x.toNat &&& y.toNat : Nat) : Int) :: r) G h))
def o_shl (K : ms_K) : ms_K := fun L st G h => i1 st (fun y r => i1 r (fun x r => 0 ≤ y ∧ y ≤ 30 ∧ 0 ≤ x ∧ rg (x * 2 ^ y.toNat) ∧ K L (mI (x * 2 ^ y.toNat) :: r) G h))
def o_shr (K : ms_K) : ms_K := fun L st G h => i1 st (fun y r => i1 r (fun x r => 0 ≤ y ∧ y ≤ 30 ∧ 0 ≤ x ∧ K L (mI (x / 2 ^ y.toNat) :: r) G h))
def o_dup (K : ms_K) : ms_K := fun L st G h => match st with
  | Sum.inl z :: r => K L (mI z :: mI z :: r) G h
  | Sum.inr (Sum.inr x) :: r => K L (Sum.inr (Sum.inr x) :: Sum.inr (Sum.inr x) :: r) G h
  | _ => False
def o_pop (K : ms_K) : ms_K := fun L st G h => i1 st (fun _ r => K L r G h)
def o_dup2 (K : ms_K) : ms_K := fun L st G h => i1 st (fun i r => r1 r (fun z r => K L (mI i :: mR z :: mI i :: mR z :: r) G h))
def o_if (q : ClassFile.Cond) (J K : ms_K) : ms_K := fun L st G h => i1 st (fun x r => match q with
  | .eq => (x = 0 → J L r G h) ∧ (¬ x = 0 → K L r G h)
  | .ne => (¬ x = 0 → J L r G h) ∧ (x = 0 → K L r G h)
  | .lt => (x < 0 → J L r G h) ∧ (0 ≤ x → K L r G h)
  | .ge => (0 ≤ x → J L r G h) ∧ (x < 0 → K L r G h)
  | .gt => (0 < x → J L r G h) ∧ (x ≤ 0 → K L r G h)
  | .le => (x ≤ 0 → J L r G h) ∧ (0 < x → K L r G h))
def o_icmp (q : ClassFile.Cond) (J K : ms_K) : ms_K := fun L st G h => i1 st (fun y r => i1 r (fun x r => match q with
  | .eq => (x = y → J L r G h) ∧ (¬ x = y → K L r G h)
  | .ne => (¬ x = y → J L r G h) ∧ (x = y → K L r G h)
  | .lt => (x < y → J L r G h) ∧ (y ≤ x → K L r G h)
  | .ge => (y ≤ x → J L r G h) ∧ (x < y → K L r G h)
  | .gt => (y < x → J L r G h) ∧ (x ≤ y → K L r G h)
  | .le => (x ≤ y → J L r G h) ∧ (y < x → K L r G h)))
def o_sw : List (Int × Nat) → Nat → Int → (Nat → Prop) → Prop
  | [], d, _, k => k d
  | (v, tg) :: t, d, x, k => (x = v → k tg) ∧ (¬ x = v → o_sw t d x k)
def o_switch (t : List (Int × Nat)) (d : Nat) (J : Nat → ms_K) : ms_K := fun L st G h => i1 st (fun x r => o_sw t d x (fun tg => J tg L r G h))
def o_get (c : Int) (a b : Nat) (K : ms_K) : ms_K := fun L st G h => r1 st (fun z r => ms_ob G.1 z a ∧ (if b = 3 then 0 ≤ h z c ∧ K L (mR (h z c) :: r) G h else if b = 2 then K L (mL (h z c) :: r) G h else K L (mI (h z c) :: r) G h))
def o_put (c : Int) (a b : Nat) (K : ms_K) : ms_K := fun L st G h =>
  if b = 3 then r1 st (fun v r => r1 r (fun z r => ms_ob G.1 z a ∧ K L r G (hs h z c v)))
  else if b = 2 then l1 st (fun v r => r1 r (fun z r => ms_ob G.1 z a ∧ K L r G (hs h z c v)))
  else if b = 1 then i1 st (fun v r => r1 r (fun z r => ms_ob G.1 z a ∧ (v = 0 ∨ v = 1) ∧ K L r G (hs h z c v)))
  else i1 st (fun v r => r1 r (fun z r => ms_ob G.1 z a ∧ K L r G (hs h z c v)))
def o_iald (X : ms_Z) (K : ms_K) : ms_K := fun L st G h => i1 st (fun i r => match r with
  | Sum.inr (Sum.inr (Sum.inl z)) :: r => ms_ar G.1 z 10 i (K L (mI (h z i) :: r) G h)
  | Sum.inr (Sum.inr (Sum.inr n)) :: r => ∃ q, X n = some q ∧ 0 ≤ i ∧ i < q.1 ∧ K L (mI (q.2 i) :: r) G h
  | _ => False)
def o_iast (K : ms_K) : ms_K := fun L st G h => i1 st (fun v r => i1 r (fun i r => r1 r (fun z r => ms_ar G.1 z 10 i (K L r G (hs h z i v)))))
def o_zald (K : ms_K) : ms_K := fun L st G h => i1 st (fun i r => r1 r (fun z r => ms_ar G.1 z 11 i (K L (mI (h z i) :: r) G h)))
def o_zast (K : ms_K) : ms_K := fun L st G h => i1 st (fun v r => i1 r (fun i r => r1 r (fun z r => (v = 0 ∨ v = 1) ∧ ms_ar G.1 z 11 i (K L r G (hs h z i v)))))
def o_aald (K : ms_K) : ms_K := fun L st G h => i1 st (fun i r => r1 r (fun z r => ms_ar G.1 z 12 i (0 ≤ h z i ∧ K L (mR (h z i) :: r) G h)))
def o_aast (K : ms_K) : ms_K := fun L st G h => r1 st (fun v r => i1 r (fun i r => r1 r (fun z r => ms_ob G.1 v 1 ∧ ms_ar G.1 z 12 i (K L r G (hs h z i v)))))
def o_len (X : ms_Z) (K : ms_K) : ms_K := fun L st G h => match st with
  | Sum.inr (Sum.inr (Sum.inr n)) :: r => ∃ q, X n = some q ∧ K L (mI q.1 :: r) G h
  | _ => False
/-- how a call goes on -/
def o_back (kc ks : Nat) (K : ms_K) (L r : List ms_V) (G : ms_G) : ms_Q := fun v S' h' => match v with
  | none => K L r (S', G.2.1 + kc, G.2.2 + ks) h'
  | some v => K L (v :: r) (S', G.2.1 + kc, G.2.2 + ks) h'
/-- the receiver is of class d - 1; 0: there is none -/
def ms_rc (S : ms_S) (d : Nat) (vs : List ms_V) : Prop := match d, vs with
  | 0, _ => True
  | ci + 1, Sum.inr (Sum.inr (Sum.inl z)) :: _ => ms_ob S z ci
  | _ + 1, _ => False
theorem rc_0 (S : ms_S) (vs : List ms_V) : ms_rc S 0 vs = True := rfl
theorem rc_s (S : ms_S) (ci : Nat) (z : Int) (vs : List ms_V) : ms_rc S (ci + 1) (mR z :: vs) = ms_ob S z ci := rfl
theorem ms_rc_x {S : ms_S} {ci : Nat} {vs : List ms_V} (h : ms_rc S (ci + 1) vs) : ∃ z As, vs = mR z :: As ∧ ms_ob S z ci := by
  unfold ms_rc at h
  split at h
  · rename_i h1; cases h1
  · rename_i ci' z As h1; cases h1; exact ⟨z, As, rfl, h⟩
  · exact h.elim
/-- a call of method a with b arguments; d: the receiver's class and 1, or 0 -/
def o_call (O : ms_O) (mc ms a b d : Nat) (t : List (Int × Nat)) (K : ms_K) : ms_K := fun L st G h =>
  b ≤ st.length ∧ (st.drop b).length ≤ 4 ∧ (st.take b).all ms_nl = true ∧ ms_rc G.1 d (st.take b).reverse ∧
  (match t with | [] => O a (st.take b).reverse G.1 h (o_back 0 0 K L (st.drop b) G) | (kc, ks) :: _ => G.2.1 + kc.toNat ≤ mc ∧ G.2.2 + ks ≤ ms ∧ O a (st.take b).reverse G.1 h (o_back kc.toNat ks K L (st.drop b) G))
def o_max (K : ms_K) : ms_K := fun L st G h => i1 st (fun y r => i1 r (fun x r => r.length ≤ 4 ∧ K L (mI (max x y) :: r) G h))
def o_min (K : ms_K) : ms_K := fun L st G h => i1 st (fun y r => i1 r (fun x r => r.length ≤ 4 ∧ K L (mI (min x y) :: r) G h))
def o_copy (K : ms_K) : ms_K := fun L st G h => i1 st (fun n r => i1 r (fun dp r => r1 r (fun d r => i1 r (fun sp r => r1 r (fun s r => r.length ≤ 4 ∧ 0 ≤ n ∧ 0 ≤ sp ∧ 0 ≤ dp ∧
  ∃ n0 n1 : Nat, ms_sh G.1 s = some (10, n0) ∧ ms_sh G.1 d = some (10, n1) ∧ sp + n ≤ n0 ∧ dp + n ≤ n1 ∧ K L r G (ms_cpy h s sp d dp n))))))
def o_obj (K : ms_K) : ms_K := fun L st G h => r1 st (fun _ r => r.length ≤ 4 ∧ K L r G h)
def o_lpush (c : Int) (K : ms_K) : ms_K := fun L st G h => K L (mL c :: st) G h
def o_ladd (K : ms_K) : ms_K := fun L st G h => l1 st (fun y r => l1 r (fun x r => rg (x + y) ∧ K L (mL (x + y) :: r) G h))
def o_lcmp (K : ms_K) : ms_K := fun L st G h => l1 st (fun y r => l1 r (fun x r => x = y ∧ K L (mI 0 :: r) G h))
def o_new (mc ms a : Nat) (K : ms_K) : ms_K := fun L st G h => G.1.length < 1000 ∧ G.2.1 + 1 ≤ mc ∧ G.2.2 + ms_N a ≤ ms ∧ K L (mR G.1.length :: st) (G.1 ++ [(a, ms_N a)], G.2.1 + 1, G.2.2 + ms_N a) (ms_nw h G.1.length a)
def o_newa (mc ms kd : Nat) (K : ms_K) : ms_K := fun L st G h => i1 st (fun n r => 0 ≤ n ∧ (n ≤ 100000 ∧ G.1.length < 1000) ∧ G.2.1 + 1 ≤ mc ∧ G.2.2 + n.toNat ≤ ms ∧ K L (mR G.1.length :: r) (G.1 ++ [(kd, n.toNat)], G.2.1 + 1, G.2.2 + n.toNat) (ms_nw h G.1.length kd))
def o_iret (mc ms b : Nat) (Q : ms_Q) : ms_K := fun _ st G h => match st with
  | [Sum.inl z] => (b = 1 → z = 0 ∨ z = 1) ∧ G.2.1 ≤ mc ∧ G.2.2 ≤ ms ∧ Q (some (mI z)) G.1 h
  | _ => False
def o_lret (mc ms : Nat) (Q : ms_Q) : ms_K := fun _ st G h => match st with
  | [Sum.inr (Sum.inl z)] => G.2.1 ≤ mc ∧ G.2.2 ≤ ms ∧ Q (some (mL z)) G.1 h
  | _ => False
def o_vret (mc ms : Nat) (Q : ms_Q) : ms_K := fun _ st G h => match st with
  | [] => G.2.1 ≤ mc ∧ G.2.2 ≤ ms ∧ Q none G.1 h
  | _ => False
/-- one instruction -/
def ms_ex (O : ms_O) (X : ms_Z) (mc ms : Nat) (Q : ms_Q) (J : Nat → ms_K) (K : ms_K) (raw : Instr) (x : ms_X) : ms_K := match x with
  | (c, a, b, d, t, _) => match raw with
    | .iconst _ => fun L st G h => K L (mI c :: st) G h
    | .bipush _ => fun L st G h => K L (mI c :: st) G h
    | .sipush _ => fun L st G h => K L (mI c :: st) G h
    | .ldc _ => fun L st G h => K L (mI c :: st) G h
    | .ldc_w _ => fun L st G h => K L (mI c :: st) G h
    | .iload _ => o_iload a K
    | .iload_n _ => o_iload a K
    | .aload _ => o_aload a K
    | .aload_n _ => o_aload a K
    | .istore _ => o_istore a K
    | .istore_n _ => o_istore a K
    | .astore _ => o_astore a K
    | .astore_n _ => o_astore a K
    | .iinc _ _ => o_iinc a c K
    | .iadd => o_bin (fun x y => x + y) K
    | .isub => o_bin (fun x y => x - y) K
    | .imul => o_bin (fun x y => x * y) K
    | .idiv => o_div K
    | .irem => o_rem K
    | .ineg => o_neg K
    | .iand => o_and K
    | .ishl => o_shl K
    | .ishr => o_shr K
    | .iushr => o_shr K
    | .dup => o_dup K
    | .pop => o_pop K
    | .dup2 => o_dup2 K
    | .ifCond q _ => o_if q (J a) K
    | .if_icmp q _ => o_icmp q (J a) K
    | .goto _ => J a
    | .nop => J a
    | .tableswitch _ _ _ _ => o_switch t a J
    | .lookupswitch _ _ => o_switch t a J
    | .getfield _ => o_get c a b K
    | .putfield _ => o_put c a b K
    | .iaload => o_iald X K
    | .iastore => o_iast K
    | .baload => o_zald K
    | .bastore => o_zast K
    | .aaload => o_aald K
    | .aastore => o_aast K
    | .arraylength => o_len X K
    | .getstatic _ => fun L st G h => K L (mE 1 :: st) G h
    | .invokevirtual _ => o_call O mc ms a b d t K
    | .invokestatic _ => if a = 1000 then o_max K else if a = 1001 then o_min K else if a = 1002 then o_copy K else o_call O mc ms a b d t K
    | .invokespecial _ => if a = 1003 then o_obj K else o_call O mc ms a b d t K
    | .lconst _ => o_lpush c K
    | .ldc2_w _ => o_lpush c K
    | .ladd => o_ladd K
    | .lcmp => o_lcmp K
    | .new _ => o_new mc ms a K
    | .newarray _ => o_newa mc ms b K
    | .anewarray _ => o_newa mc ms b K
    | .ireturn => o_iret mc ms b Q
    | .lreturn => o_lret mc ms Q
    | .return_ => o_vret mc ms Q
    | _ => fun _ _ _ _ => False
end
section
/-! The small machine is monotone; blocks, runs, what a method is owed. -/
section
variable {K K' : ms_K} {L st : List ms_V} {G : ms_G} {h : ms_H}
theorem o_iload_m {a : Nat} (hK : ∀ L st G h, K L st G h → K' L st G h) (q : o_iload a K L st G h) : o_iload a K' L st G h := by
  unfold o_iload at q ⊢
  split at q
  · exact hK _ _ _ _ q
  · exact q.elim
theorem o_aload_m {a : Nat} (hK : ∀ L st G h, K L st G h → K' L st G h) (q : o_aload a K L st G h) : o_aload a K' L st G h := by
  unfold o_aload at q ⊢
  split at q
  · exact hK _ _ _ _ q
  · exact q.elim
theorem o_iinc_m {a : Nat} {c : Int} (hK : ∀ L st G h, K L st G h → K' L st G h) (q : o_iinc a c K L st G h) : o_iinc a c K' L st G h := by
  unfold o_iinc at q ⊢
  split at q
  · exact ⟨q.1, hK _ _ _ _ q.2⟩
  · exact q.elim
theorem o_dup_m (hK : ∀ L st G h, K L st G h → K' L st G h) (q : o_dup K L st G h) : o_dup K' L st G h := by
  unfold o_dup at q ⊢
  split at q
  · exact hK _ _ _ _ q
  · exact hK _ _ _ _ q
  · exact q.elim
theorem o_if_m {q : ClassFile.Cond} {J J' : ms_K} (hJ : ∀ L st G h, J L st G h → J' L st G h) (hK : ∀ L st G h, K L st G h → K' L st G h) (x : o_if q J K L st G h) : o_if q J' K' L st G h := by
  refine i1_m (fun z r => ?_) x
  cases q <;> exact fun w => ⟨fun u => hJ _ _ _ _ (w.1 u), fun u => hK _ _ _ _ (w.2 u)⟩
theorem o_icmp_m {q : ClassFile.Cond} {J J' : ms_K} (hJ : ∀ L st G h, J L st G h → J' L st G h) (hK : ∀ L st G h, K L st G h → K' L st G h) (x : o_icmp q J K L st G h) : o_icmp q J' K' L st G h := by
  refine i1_m (fun z r => i1_m (fun z2 r => ?_)) x
  cases q <;> exact fun w => ⟨fun u => hJ _ _ _ _ (w.1 u), fun u => hK _ _ _ _ (w.2 u)⟩
theorem o_sw_m {x : Int} {d : Nat} {k k' : Nat → Prop} (hk : ∀ t, k t → k' t) : ∀ (t : List (Int × Nat)), o_sw t d x k → o_sw t d x k'
  | [], q => hk _ q
  | (_, _) :: t, q => ⟨fun u => hk _ (q.1 u), fun u => o_sw_m hk t (q.2 u)⟩
theorem o_switch_m {t : List (Int × Nat)} {d : Nat} {J J' : Nat → ms_K} (hJ : ∀ t L st G h, J t L st G h → J' t L st G h) (x : o_switch t d J L st G h) : o_switch t d J' L st G h :=
  i1_m (fun _ _ q => o_sw_m (fun t => hJ t _ _ _ _) _ q) x
theorem o_and_m (hK : ∀ L st G h, K L st G h → K' L st G h) (q : o_and K L st G h) : o_and K' L st G h := by
  refine i1_m (fun y r => i1_m (fun x r => ?_)) q
  split
  · exact hK _ _ _ _
  · split
    · exact hK _ _ _ _
    · exact fun w => ⟨w.1, w.2.1, hK _ _ _ _ w.2.2⟩
theorem o_get_m {c : Int} {a b : Nat} (hK : ∀ L st G h, K L st G h → K' L st G h) (q : o_get c a b K L st G h) : o_get c a b K' L st G h := by
  refine r1_m (fun z r w => ⟨w.1, ?_⟩) q
  have w2 := w.2
  split
  · rename_i hb; rw [if_pos hb] at w2; exact ⟨w2.1, hK _ _ _ _ w2.2⟩
  · rename_i hb; rw [if_neg hb] at w2
    split
    · rename_i hb; rw [if_pos hb] at w2; exact hK _ _ _ _ w2
    · rename_i hb; rw [if_neg hb] at w2; exact hK _ _ _ _ w2
theorem o_put_m {c : Int} {a b : Nat} (hK : ∀ L st G h, K L st G h → K' L st G h) (q : o_put c a b K L st G h) : o_put c a b K' L st G h := by
  unfold o_put at q ⊢
  split
  · rename_i hb; rw [if_pos hb] at q; exact r1_m (fun v r => r1_m (fun z r w => ⟨w.1, hK _ _ _ _ w.2⟩)) q
  · rename_i hb; rw [if_neg hb] at q
    split
    · rename_i hb; rw [if_pos hb] at q; exact l1_m (fun v r => r1_m (fun z r w => ⟨w.1, hK _ _ _ _ w.2⟩)) q
    · rename_i hb; rw [if_neg hb] at q
      split
      · rename_i hb; rw [if_pos hb] at q; exact i1_m (fun v r => r1_m (fun z r w => ⟨w.1, w.2.1, hK _ _ _ _ w.2.2⟩)) q
      · rename_i hb; rw [if_neg hb] at q; exact i1_m (fun v r => r1_m (fun z r w => ⟨w.1, hK _ _ _ _ w.2⟩)) q
theorem o_iald_m {X : ms_Z} (hK : ∀ L st G h, K L st G h → K' L st G h) (q : o_iald X K L st G h) : o_iald X K' L st G h := by
  refine i1_m (fun i r w => ?_) q
  split at w
  · exact ms_ar_m (hK _ _ _ _) w
  · obtain ⟨x, w1, w2, w3, w4⟩ := w
    exact ⟨x, w1, w2, w3, hK _ _ _ _ w4⟩
  · exact w.elim
theorem o_len_m {X : ms_Z} (hK : ∀ L st G h, K L st G h → K' L st G h) (q : o_len X K L st G h) : o_len X K' L st G h := by
  unfold o_len at q ⊢
  split at q
  · obtain ⟨x, w1, w2⟩ := q
    exact ⟨x, w1, hK _ _ _ _ w2⟩
  · exact q.elim
theorem o_back_m {kc ks : Nat} {r : List ms_V} (hK : ∀ L st G h, K L st G h → K' L st G h) (v : Option ms_V) (S : ms_S) (h : ms_H) (q : o_back kc ks K L r G v S h) : o_back kc ks K' L r G v S h := by
  cases v <;> exact hK _ _ _ _ q
def ms_mono (O : ms_O) : Prop := ∀ y args S h Q Q', (∀ v S h, Q v S h → Q' v S h) → O y args S h Q → O y args S h Q'
theorem o_call_m {O : ms_O} {mc ms a b d : Nat} {t : List (Int × Nat)} (hO : ms_mono O) (hK : ∀ L st G h, K L st G h → K' L st G h) (q : o_call O mc ms a b d t K L st G h) : o_call O mc ms a b d t K' L st G h := by
  refine ⟨q.1, q.2.1, q.2.2.1, q.2.2.2.1, ?_⟩
  have w := q.2.2.2.2
  split at w
  · exact hO _ _ _ _ _ _ (o_back_m hK) w
  · exact ⟨w.1, w.2.1, hO _ _ _ _ _ _ (o_back_m hK) w.2.2⟩
end
section
variable {O : ms_O} {X : ms_Z} {mc ms : Nat} {Q Q' : ms_Q} {J J' : Nat → ms_K} {K K' : ms_K} {L st : List ms_V} {G : ms_G} {h : ms_H}
theorem o_iret_m {b : Nat} (hQ : ∀ v S h, Q v S h → Q' v S h) (q : o_iret mc ms b Q L st G h) : o_iret mc ms b Q' L st G h := by
  unfold o_iret at q ⊢
  split at q
  · exact ⟨q.1, q.2.1, q.2.2.1, hQ _ _ _ q.2.2.2⟩
  · exact q.elim
theorem o_lret_m (hQ : ∀ v S h, Q v S h → Q' v S h) (q : o_lret mc ms Q L st G h) : o_lret mc ms Q' L st G h := by
  unfold o_lret at q ⊢
  split at q
  · exact ⟨q.1, q.2.1, hQ _ _ _ q.2.2⟩
  · exact q.elim
theorem o_vret_m (hQ : ∀ v S h, Q v S h → Q' v S h) (q : o_vret mc ms Q L st G h) : o_vret mc ms Q' L st G h := by
  unfold o_vret at q ⊢
  split at q
  · exact ⟨q.1, q.2.1, hQ _ _ _ q.2.2⟩
  · exact q.elim
set_option maxHeartbeats 4000000 in
theorem ms_ex_m (hO : ms_mono O) (hQ : ∀ v S h, Q v S h → Q' v S h) (hJ : ∀ t L st G h, J t L st G h → J' t L st G h) (hK : ∀ L st G h, K L st G h → K' L st G h) (raw : Instr) (x : ms_X)
    (q : ms_ex O X mc ms Q J K raw x L st G h) : ms_ex O X mc ms Q' J' K' raw x L st G h := by
  obtain ⟨c, a, b, d, t, w⟩ := x
  cases raw
  case iconst => exact hK _ _ _ _ q
  case bipush => exact hK _ _ _ _ q
  case sipush => exact hK _ _ _ _ q
  case ldc => exact hK _ _ _ _ q
  case ldc_w => exact hK _ _ _ _ q
  case iload => exact o_iload_m hK q
  case iload_n => exact o_iload_m hK q
  case aload => exact o_aload_m hK q
  case aload_n => exact o_aload_m hK q
  case istore => exact ⟨q.1, i1_m (fun _ _ => hK _ _ _ _) q.2⟩
  case istore_n => exact ⟨q.1, i1_m (fun _ _ => hK _ _ _ _) q.2⟩
  case astore => exact ⟨q.1, r1_m (fun _ _ => hK _ _ _ _) q.2⟩
  case astore_n => exact ⟨q.1, r1_m (fun _ _ => hK _ _ _ _) q.2⟩
  case iinc => exact o_iinc_m hK q
  case iadd => exact i1_m (fun _ _ => i1_m (fun _ _ w => ⟨w.1, hK _ _ _ _ w.2⟩)) q
  case isub => exact i1_m (fun _ _ => i1_m (fun _ _ w => ⟨w.1, hK _ _ _ _ w.2⟩)) q
  case imul => exact i1_m (fun _ _ => i1_m (fun _ _ w => ⟨w.1, hK _ _ _ _ w.2⟩)) q
  case idiv => exact i1_m (fun _ _ => i1_m (fun _ _ w => ⟨w.1, w.2.1, hK _ _ _ _ w.2.2⟩)) q
  case irem => exact i1_m (fun _ _ => i1_m (fun _ _ w => ⟨w.1, hK _ _ _ _ w.2⟩)) q
  case ineg => exact i1_m (fun _ _ w => ⟨w.1, hK _ _ _ _ w.2⟩) q
  case iand => exact o_and_m hK q
  case ishl => exact i1_m (fun _ _ => i1_m (fun _ _ w => ⟨w.1, w.2.1, w.2.2.1, w.2.2.2.1, hK _ _ _ _ w.2.2.2.2⟩)) q
  case ishr => exact i1_m (fun _ _ => i1_m (fun _ _ w => ⟨w.1, w.2.1, w.2.2.1, hK _ _ _ _ w.2.2.2⟩)) q
  case iushr => exact i1_m (fun _ _ => i1_m (fun _ _ w => ⟨w.1, w.2.1, w.2.2.1, hK _ _ _ _ w.2.2.2⟩)) q
  case dup => exact o_dup_m hK q
  case pop => exact i1_m (fun _ _ => hK _ _ _ _) q
  case dup2 => exact i1_m (fun _ _ => r1_m (fun _ _ => hK _ _ _ _)) q
  case ifCond => exact o_if_m (hJ _) hK q
  case if_icmp => exact o_icmp_m (hJ _) hK q
  case goto => exact hJ _ _ _ _ _ q
  case nop => exact hJ _ _ _ _ _ q
  case tableswitch => exact o_switch_m hJ q
  case lookupswitch => exact o_switch_m hJ q
  case getfield => exact o_get_m hK q
  case putfield => exact o_put_m hK q
  case iaload => exact o_iald_m hK q
  case iastore => exact i1_m (fun _ _ => i1_m (fun _ _ => r1_m (fun _ _ => ms_ar_m (hK _ _ _ _)))) q
  case baload => exact i1_m (fun _ _ => r1_m (fun _ _ => ms_ar_m (hK _ _ _ _))) q
  case bastore => exact i1_m (fun _ _ => i1_m (fun _ _ => r1_m (fun _ _ w => ⟨w.1, ms_ar_m (hK _ _ _ _) w.2⟩))) q
  case aaload => exact i1_m (fun _ _ => r1_m (fun _ _ => ms_ar_m (fun w => ⟨w.1, hK _ _ _ _ w.2⟩))) q
  case aastore => exact r1_m (fun _ _ => i1_m (fun _ _ => r1_m (fun _ _ w => ⟨w.1, ms_ar_m (hK _ _ _ _) w.2⟩))) q
  case arraylength => exact o_len_m hK q
  case getstatic => exact hK _ _ _ _ q
  case invokevirtual => exact o_call_m hO hK q
  case invokestatic =>
    simp only [ms_ex] at q ⊢
    split
    · rename_i hb; rw [if_pos hb] at q; exact i1_m (fun _ _ => i1_m (fun _ _ w => ⟨w.1, hK _ _ _ _ w.2⟩)) q
    · rename_i hb; rw [if_neg hb] at q
      split
      · rename_i hb; rw [if_pos hb] at q; exact i1_m (fun _ _ => i1_m (fun _ _ w => ⟨w.1, hK _ _ _ _ w.2⟩)) q
      · rename_i hb; rw [if_neg hb] at q
        split
        · rename_i hb; rw [if_pos hb] at q
          refine i1_m (fun _ _ => i1_m (fun _ _ => r1_m (fun _ _ => i1_m (fun _ _ => r1_m (fun _ _ w => ?_))))) q
          obtain ⟨w1, w2, w3, w4, n0, n1, w5, w6, w7, w8, w9⟩ := w
          exact ⟨w1, w2, w3, w4, n0, n1, w5, w6, w7, w8, hK _ _ _ _ w9⟩
        · rename_i hb; rw [if_neg hb] at q; exact o_call_m hO hK q
  case invokespecial =>
    simp only [ms_ex] at q ⊢
    split
    · rename_i hb; rw [if_pos hb] at q; exact r1_m (fun _ _ w => ⟨w.1, hK _ _ _ _ w.2⟩) q
    · rename_i hb; rw [if_neg hb] at q; exact o_call_m hO hK q
  case lconst => exact hK _ _ _ _ q
  case ldc2_w => exact hK _ _ _ _ q
  case ladd => exact l1_m (fun _ _ => l1_m (fun _ _ w => ⟨w.1, hK _ _ _ _ w.2⟩)) q
  case lcmp => exact l1_m (fun _ _ => l1_m (fun _ _ w => ⟨w.1, hK _ _ _ _ w.2⟩)) q
  case new => exact ⟨q.1, q.2.1, q.2.2.1, hK _ _ _ _ q.2.2.2⟩
  case newarray => exact i1_m (fun _ _ w => ⟨w.1, w.2.1, w.2.2.1, w.2.2.2.1, hK _ _ _ _ w.2.2.2.2⟩) q
  case anewarray => exact i1_m (fun _ _ w => ⟨w.1, w.2.1, w.2.2.1, w.2.2.2.1, hK _ _ _ _ w.2.2.2.2⟩) q
  case ireturn => exact o_iret_m (L := L) hQ q
  case lreturn => exact o_lret_m (L := L) hQ q
  case return_ => exact o_vret_m (L := L) hQ q
  all_goals exact q.elim
end
/-- a method: name, bytes, locals, answer, (cells, slots), (kind: 0 virtual, 1 static, 2 <init>; arguments), places of its words, blocks, heads of loops -/
abbrev ms_M : Type := MethodName × ByteArray × Nat × Option FieldType × (Nat × Nat) × (Nat × Nat) × List Nat × List ms_B × List ms_B
def M_nm (M : ms_M) : MethodName := M.1
def M_by (M : ms_M) : ByteArray := M.2.1
def M_ml (M : ms_M) : Nat := M.2.2.1
def M_rt (M : ms_M) : Option FieldType := M.2.2.2.1
def M_mc (M : ms_M) : Nat := M.2.2.2.2.1.1
def M_ms (M : ms_M) : Nat := M.2.2.2.2.1.2
def M_kd (M : ms_M) : Nat := M.2.2.2.2.2.1.1
def M_na (M : ms_M) : Nat := M.2.2.2.2.2.1.2
def M_pl (M : ms_M) : List Nat := M.2.2.2.2.2.2.1
def M_bl (M : ms_M) (t : Nat) : ms_B := if 100 ≤ t then M.2.2.2.2.2.2.2.2.getD (t - 100) [] else M.2.2.2.2.2.2.2.1.getD t []
/-- a relation on states that holds where one instruction leads into it -/
def ms_cl (O : ms_O) (X : ms_Z) (M : ms_M) (Q : ms_Q) (R : ms_B → ms_K) : Prop :=
  ∀ pc raw len x rest L st G h, ms_ex O X (M_mc M) (M_ms M) Q (fun t => R (M_bl M t)) (R rest) raw x L st G h → R ((pc, raw, len, x) :: rest) L st G h
def ms_WP (O : ms_O) (X : ms_Z) (M : ms_M) (Q : ms_Q) (B : ms_B) : ms_K := fun L st G h => ∀ R : ms_B → ms_K, ms_cl O X M Q R → R B L st G h
def ms_seq (O : ms_O) (X : ms_Z) (M : ms_M) (Q : ms_Q) (J : Nat → ms_K) : ms_B → ms_K
  | [] => fun _ _ _ _ => False
  | (_, raw, _, x) :: rest => ms_ex O X (M_mc M) (M_ms M) Q J (ms_seq O X M Q J rest) raw x
def ms_run (O : ms_O) (X : ms_Z) (M : ms_M) (Q : ms_Q) (R : Nat → ms_K) : Nat → Nat → ms_K
  | 0, t => R t
  | k + 1, t => if 100 ≤ t then R t else ms_seq O X M Q (ms_run O X M Q R k) (M_bl M t)
section
variable {O : ms_O} {X : ms_Z} {M : ms_M} {Q : ms_Q}
theorem ms_seq_R {R : ms_B → ms_K} {J : Nat → ms_K} (hO : ms_mono O) (hR : ms_cl O X M Q R) (hJ : ∀ t L st G h, J t L st G h → R (M_bl M t) L st G h) : ∀ (B : ms_B) (L st : List ms_V) (G : ms_G) (h : ms_H), ms_seq O X M Q J B L st G h → R B L st G h
  | [], _, _, _, _, q => q.elim
  | (pc, raw, len, x) :: rest, L, st, G, h, q => hR pc raw len x rest L st G h (ms_ex_m hO (fun _ _ _ u => u) hJ (fun L st G h => ms_seq_R hO hR hJ rest L st G h) raw x q)
theorem ms_run_R {R : ms_B → ms_K} (hO : ms_mono O) (hR : ms_cl O X M Q R) : ∀ (k t : Nat) (L st : List ms_V) (G : ms_G) (h : ms_H), ms_run O X M Q (fun t => R (M_bl M t)) k t L st G h → R (M_bl M t) L st G h
  | 0, t, L, st, G, h, q => q
  | k + 1, t, L, st, G, h, q => by
    unfold ms_run at q
    split at q
    · exact q
    · exact ms_seq_R hO hR (ms_run_R hO hR k) _ _ _ _ _ q
/-- what is owed of a state closes it: from the block's instructions, or from a walk over blocks -/
theorem ms_WP_cl (hO : ms_mono O) : ms_cl O X M Q (fun B => ms_WP O X M Q B) := by
  intro pc raw len x rest L st G h q R hR
  exact hR pc raw len x rest L st G h (ms_ex_m hO (fun _ _ _ u => u) (fun t L st G h u => u R hR) (fun L st G h u => u R hR) raw x q)
theorem ms_go (hO : ms_mono O) (k t : Nat) {L st : List ms_V} {G : ms_G} {h : ms_H} (q : ms_seq O X M Q (ms_run O X M Q (fun t => ms_WP O X M Q (M_bl M t)) k) (M_bl M t) L st G h) : ms_WP O X M Q (M_bl M t) L st G h :=
  ms_seq_R (R := fun B => ms_WP O X M Q B) hO (ms_WP_cl hO) (ms_run_R (R := fun B => ms_WP O X M Q B) hO (ms_WP_cl hO) k) _ _ _ _ _ q
theorem ms_WP_m {Q' : ms_Q} (hO : ms_mono O) (hQ : ∀ v S h, Q v S h → Q' v S h) {B : ms_B} {L st : List ms_V} {G : ms_G} {h : ms_H} (q : ms_WP O X M Q B L st G h) : ms_WP O X M Q' B L st G h := by
  intro R hR
  refine q R (fun pc raw len x rest L st G h w => hR pc raw len x rest L st G h ?_)
  exact ms_ex_m hO hQ (fun _ _ _ _ _ u => u) (fun _ _ _ _ u => u) raw x w
end
/-- the static array of orders -/
def ms_ord (i : Int) : Int := if i = 0 then 1 else if i = 1 then 1 else if i = 2 then 2 else if i = 3 then 6 else if i = 4 then 24 else if i = 5 then 120 else 720
def ms_X1 : ms_Z := fun n => if n = 1 then some (7, ms_ord) else none
def ms_pad (n : Nat) (vs : List ms_V) : List ms_V := vs ++ List.replicate (n - vs.length) (mL 0)
/-- method y, called with these arguments in this heap, comes back with Q, within d frames -/
def ms_Ok (P : List ms_M) : Nat → ms_O
  | 0 => fun _ _ _ _ _ => False
  | d + 1 => fun y args S h Q => ∃ M, P[y]? = some M ∧ args.length = M_na M ∧ ms_WP (ms_Ok P d) ms_X1 M Q (M_bl M 0) (ms_pad (M_ml M) args) [] (S, 0, 0) h
theorem ms_Ok_m (P : List ms_M) : ∀ d, ms_mono (ms_Ok P d)
  | 0, _, _, _, _, _, _, _, q => q.elim
  | d + 1, y, args, S, h, Q, Q', hQ, q => by
    obtain ⟨M, h1, h2, h3⟩ := q
    exact ⟨M, h1, h2, ms_WP_m (ms_Ok_m P d) hQ h3⟩
end
section
/-! Numbers, cells, locals: what the small machine's state stands for. -/
theorem rg_toInt {z : Int} (h : rg z) : (Int32.ofInt z).toInt = z := by
  unfold rg at h
  exact Int32.toInt_ofInt_of_le (by omega) (by omega)
theorem rg_inj {x y : Int} (hx : rg x) (hy : rg y) : Int32.ofInt x = Int32.ofInt y ↔ x = y := ⟨fun h => by rw [← rg_toInt hx, ← rg_toInt hy, h], fun h => by rw [h]⟩
theorem rg_lt {x y : Int} (hx : rg x) (hy : rg y) : Int32.ofInt x < Int32.ofInt y ↔ x < y := by rw [Int32.lt_iff_toInt_lt, rg_toInt hx, rg_toInt hy]
theorem rg_le {x y : Int} (hx : rg x) (hy : rg y) : Int32.ofInt x ≤ Int32.ofInt y ↔ x ≤ y := by rw [Int32.le_iff_toInt_le, rg_toInt hx, rg_toInt hy]
theorem rg_0 : rg 0 := by unfold rg; omega
theorem of_0 : Int32.ofInt 0 = 0 := rfl
theorem rg_div {x y : Int} (hx : rg x) (hy : rg y) (h : rg (x.tdiv y)) : Int32.ofInt x / Int32.ofInt y = Int32.ofInt (x.tdiv y) := by
  rw [← Int32.toInt_inj, Int32.toInt_div, rg_toInt hx, rg_toInt hy, rg_toInt h]
  unfold rg at h
  exact Int.bmod_eq_of_le (by omega) (by omega)
theorem rg_rem1 {x y : Int} (hx : rg x) : rg (x.tmod y) := by
  have h := Int.natAbs_tmod x y
  have h2 : x.natAbs % y.natAbs ≤ x.natAbs := Nat.mod_le _ _
  unfold rg at hx ⊢
  by_cases hp : 0 ≤ x
  · have := Int.tmod_nonneg y hp
    omega
  · have : (x.tmod y) ≤ 0 := by
      have h3 := Int.tmod_nonneg y (show 0 ≤ -x by omega)
      rw [Int.neg_tmod] at h3
      omega
    omega
theorem rg_cl {z : Int} (h : rg z) : (Int32.ofInt z).toNatClampNeg = z.toNat := by
  show (Int32.ofInt z).toInt.toNat = z.toNat
  rw [rg_toInt h]
theorem rg_in {z : Int} {n : Nat} (h : rg z) (h0 : 0 ≤ z) (h1 : z < n) : vp_in (Int32.ofInt z) n := by
  rw [vp_in_iff, rg_toInt h]
  exact ⟨h0, h1⟩
theorem of_nI {z : Int} (h : 0 ≤ z) : Int32.ofInt z = nI z.toNat := by
  show _ = Int32.ofNat z.toNat
  rw [← Int32.ofInt_eq_ofNat, Int.toNat_of_nonneg h]
theorem nI_of_cast (n : Nat) : nI n = Int32.ofInt (n : Int) := by
  show Int32.ofNat n = _
  rw [Int32.ofInt_eq_ofNat]
theorem of_tn (z : Int) : (Int32.ofInt z).toBitVec.toNat = (z % 4294967296).toNat := by
  show (BitVec.ofInt 32 z).toNat = _
  rw [BitVec.toNat_ofInt]
  rfl
theorem of_and1 (x : Int) : Int32.ofInt x &&& 1 = Int32.ofInt (x % 2) := by
  rw [pk_and (Int32.ofInt x) (m := 1) 1 (by decide), of_tn, nI_of_cast]
  congr 1
  omega
theorem of_and31 (x : Int) : Int32.ofInt x &&& 31 = Int32.ofInt (x % 32) := by
  rw [pk_and (Int32.ofInt x) (m := 31) 5 (by decide), of_tn, nI_of_cast]
  congr 1
  omega
theorem nb_and (a b : Nat) : nI a &&& nI b = nI (a &&& b) := by
  rw [← Int32.toBitVec_inj]
  show (BitVec.ofNat 32 a) &&& (BitVec.ofNat 32 b) = BitVec.ofNat 32 (a &&& b)
  rw [BitVec.ofNat_and]
theorem of_and {x y : Int} (hx : 0 ≤ x) (hy : 0 ≤ y) : Int32.ofInt x &&& Int32.ofInt y = Int32.ofInt ((x.toNat &&& y.toNat : Nat) : Int) := by
  rw [of_nI hx, of_nI hy, nb_and, nI_of_cast]
theorem sh_l : ∀ n, n < 31 → ((nI n &&& 31).toBitVec.smod 32).toNat = n := by decide +kernel
theorem sh_u : ∀ n, n < 31 → (((nI n).toUInt32 &&& Int32.toUInt32 31).toBitVec % 32).toNat = n := by decide +kernel
theorem cast_pow (k : Nat) : ((2 ^ k : Nat) : Int) = (2 : Int) ^ k := by
  rw [Int.natCast_pow]; rfl
theorem of_shl {x y : Int} (hx : 0 ≤ x) (hy : 0 ≤ y) (hy2 : y ≤ 30) (h : rg (x * 2 ^ y.toNat)) : Int32.ofInt x <<< (Int32.ofInt y &&& 31) = Int32.ofInt (x * 2 ^ y.toNat) := by
  have e : ((x.toNat * 2 ^ y.toNat : Nat) : Int) = x * 2 ^ y.toNat := by
    rw [Int.natCast_mul, cast_pow, Int.toNat_of_nonneg hx]
  rw [of_nI hx, of_nI hy, pk_shlN _ y.toNat (sh_l _ (by omega)) (by unfold rg at h; omega), nI_of_cast, e]
theorem of_shr {x y : Int} (hr : rg x) (hx : 0 ≤ x) (hy : 0 ≤ y) (hy2 : y ≤ 30) : Int32.ofInt x >>> (Int32.ofInt y &&& 31) = Int32.ofInt (x / 2 ^ y.toNat) := by
  have e : ((x.toNat / 2 ^ y.toNat : Nat) : Int) = x / 2 ^ y.toNat := by
    rw [Int.natCast_ediv, cast_pow, Int.toNat_of_nonneg hx]
  rw [of_nI hx, of_nI hy, pk_shrN (by unfold rg at hr; omega) _ y.toNat (sh_l _ (by omega)), nI_of_cast, e]
theorem of_ushr {x y : Int} (hr : rg x) (hx : 0 ≤ x) (hy : 0 ≤ y) (hy2 : y ≤ 30) : ((Int32.ofInt x).toUInt32 >>> ((Int32.ofInt y).toUInt32 &&& Int32.toUInt32 31)).toInt32 = Int32.ofInt (x / 2 ^ y.toNat) := by
  have e : ((x.toNat / 2 ^ y.toNat : Nat) : Int) = x / 2 ^ y.toNat := by
    rw [Int.natCast_ediv, cast_pow, Int.toNat_of_nonneg hx]
  rw [of_nI hx, of_nI hy, pk_ushrN (by unfold rg at hr; omega) _ y.toNat (sh_u _ (by omega)), nI_of_cast, e]
theorem rg_shr {x : Int} {k : Nat} (hr : rg x) (hx : 0 ≤ x) : rg (x / 2 ^ k) := by
  have h1 : 0 ≤ x / 2 ^ k := Int.ediv_nonneg hx (Int.pow_nonneg (by omega))
  have h2 : x / 2 ^ k ≤ x := Int.ediv_le_self _ hx
  unfold rg at hr ⊢
  omega
theorem rg_and {x y : Int} (hr : rg x) (hx : 0 ≤ x) : rg ((x.toNat &&& y.toNat : Nat) : Int) := by
  have h := Nat.and_le_left (n := x.toNat) (m := y.toNat)
  unfold rg at hr ⊢
  omega
theorem rg_max {x y : Int} (hx : rg x) (hy : rg y) : (if Int32.ofInt x < Int32.ofInt y then Int32.ofInt y else Int32.ofInt x) = Int32.ofInt (max x y) := by
  by_cases h : x < y
  · rw [if_pos ((rg_lt hx hy).mpr h), Int.max_eq_right (by omega)]
  · rw [if_neg (fun q => h ((rg_lt hx hy).mp q)), Int.max_eq_left (by omega)]
theorem rg_min {x y : Int} (hx : rg x) (hy : rg y) : (if Int32.ofInt y < Int32.ofInt x then Int32.ofInt y else Int32.ofInt x) = Int32.ofInt (min x y) := by
  by_cases h : y < x
  · rw [if_pos ((rg_lt hy hx).mpr h), Int.min_eq_right (by omega)]
  · rw [if_neg (fun q => h ((rg_lt hy hx).mp q)), Int.min_eq_left (by omega)]
/-- values -/
def ms_c (ad ex : Nat → Nat) : ms_V → Value
  | Sum.inl z => .int (Int32.ofInt z)
  | Sum.inr (Sum.inl z) => .long (Int64.ofInt z)
  | Sum.inr (Sum.inr (Sum.inl z)) => .ref (ad z.toNat)
  | Sum.inr (Sum.inr (Sum.inr n)) => .ref (ex n)
def ms_vok (S : ms_S) : ms_V → Prop
  | Sum.inl z => rg z
  | Sum.inr (Sum.inl z) => rg z
  | Sum.inr (Sum.inr (Sum.inl z)) => rg z ∧ 0 ≤ z ∧ z < S.length
  | Sum.inr (Sum.inr (Sum.inr _)) => True
theorem ms_c_cat {ad ex : Nat → Nat} {v : ms_V} (h : ms_nl v = true) : (ms_c ad ex v).category = 1 := by
  rcases v with z | z | z | z
  · rfl
  · cases h
  · rfl
  · rfl
theorem ms_c_cat2 (ad ex : Nat → Nat) (v : ms_V) : (ms_c ad ex v).category ≤ 2 := by
  rcases v with z | z | z | z <;> simp [ms_c, Value.category]
theorem ms_sum (ad ex : Nat → Nat) : ∀ (st : List ms_V), (((st.map (ms_c ad ex)).map fun v => v.category).sum) ≤ 2 * st.length
  | [] => by simp
  | v :: st => by
    have h1 := ms_sum ad ex st
    have h2 := ms_c_cat2 ad ex v
    simp only [List.map_cons, List.sum_cons, List.length_cons]
    omega
theorem ms_vok_mono {S S' : ms_S} (h : S.length ≤ S'.length) {v : ms_V} (hv : ms_vok S v) : ms_vok S' v := by
  rcases v with z | z | z | z
  · exact hv
  · exact hv
  · exact ⟨hv.1, hv.2.1, by have := hv.2.2; omega⟩
  · trivial
theorem ms_c_ext {S : ms_S} {ad ad' ex : Nat → Nat} (h : ∀ k, k < S.length → ad' k = ad k) {v : ms_V} (hv : ms_vok S v) : ms_c ad' ex v = ms_c ad ex v := by
  rcases v with z | z | z | z
  · rfl
  · rfl
  · show Value.ref _ = Value.ref _
    rw [h z.toNat (by have := hv.2; omega)]
  · rfl
theorem ms_c_exts {S : ms_S} {ad ad' ex : Nat → Nat} (h : ∀ k, k < S.length → ad' k = ad k) {vs : List ms_V} (hv : ∀ v ∈ vs, ms_vok S v) : vs.map (ms_c ad' ex) = vs.map (ms_c ad ex) :=
  List.map_congr_left (fun v hm => ms_c_ext h (hv v hm))
/-- locals -/
def lv1 (ad ex : Nat → Nat) (L : List ms_V) (i : Nat) : Option (Nat × Value) := match L[i]? with
  | some v => if ms_nl v = true then some (i, ms_c ad ex v) else none
  | none => none
def lvl (ad ex : Nat → Nat) (L : List ms_V) : List (Nat × Value) := (List.range L.length).filterMap (lv1 ad ex L)
theorem lvl_mem {ad ex : Nat → Nat} {L : List ms_V} {q : Nat × Value} : q ∈ lvl ad ex L ↔ ∃ v, L[q.1]? = some v ∧ ms_nl v = true ∧ q.2 = ms_c ad ex v := by
  unfold lvl
  rw [List.mem_filterMap]
  constructor
  · rintro ⟨i, hi, h⟩
    unfold lv1 at h
    split at h
    · rename_i v hv
      split at h
      · rename_i hn
        cases h
        exact ⟨v, hv, hn, rfl⟩
      · cases h
    · cases h
  · rintro ⟨v, hv, hn, he⟩
    refine ⟨q.1, List.mem_range.mpr (List.getElem?_eq_some_iff.mp hv).1, ?_⟩
    unfold lv1
    rw [hv]
    simp only [hn, if_true]
    rw [← he]
theorem lvl_at {ad ex : Nat → Nat} {L : List ms_V} {ls : Array Slot} {nL i : Nat} {v : ms_V} (h : lv_has ls nL (lvl ad ex L)) (hv : L[i]? = some v) (hn : ms_nl v = true) : ls[i]? = some (.val (ms_c ad ex v)) :=
  h.2.2 (i, ms_c ad ex v) (lvl_mem.mpr ⟨v, hv, hn, rfl⟩)
theorem lvl_set {ad ex : Nat → Nat} {L : List ms_V} {ls : Array Slot} {nL i : Nat} {v : ms_V} (hi : i < L.length) (h : lv_has ls nL ((i, ms_c ad ex v) :: (lvl ad ex L).filter (fun q => !(q.1 == i) && !(q.1 + 1 == i && q.2.category == 2)))) : lv_has ls nL (lvl ad ex (L.set i v)) := by
  refine ⟨h.1, h.2.1, fun q hq => ?_⟩
  obtain ⟨w, h1, h2, h3⟩ := lvl_mem.mp hq
  by_cases hqi : q.1 = i
  · rw [hqi, List.getElem?_set_self hi] at h1
    cases h1
    refine h.2.2 q (List.mem_cons.mpr (Or.inl ?_))
    rw [← h3, ← hqi]
  · rw [List.getElem?_set_ne (fun z => hqi z.symm)] at h1
    refine h.2.2 q (List.mem_cons.mpr (Or.inr (List.mem_filter.mpr ⟨lvl_mem.mpr ⟨w, h1, h2, h3⟩, ?_⟩)))
    have hc : q.2.category = 1 := by rw [h3]; exact ms_c_cat h2
    simp [hqi, hc]
theorem lvl_ext {S : ms_S} {ad ad' ex : Nat → Nat} {L : List ms_V} (h : ∀ k, k < S.length → ad' k = ad k) (hv : ∀ v ∈ L, ms_vok S v) : lvl ad' ex L = lvl ad ex L := by
  unfold lvl
  have : lv1 ad' ex L = lv1 ad ex L := by
    funext i
    unfold lv1
    split
    · rename_i v hi
      rw [ms_c_ext h (hv v (List.mem_of_getElem? hi))]
    · rfl
  rw [this]
end
section
/-! Cells: what the small machine's heap stands for. -/
abbrev ms_cls : List vw_C := [(RX0, TX0, 7), (RX1, TX1, 7), (RX2, TX2, 9), (RX3, TX3, 11), (RX4, TX4, 11), (RX5, TX5, 37)]
def ms_ty : Nat → Nat → FieldType
  | 0 => tyX0
  | 1 => tyX1
  | 2 => tyX2
  | 3 => tyX3
  | 4 => tyX4
  | _ => tyX5
def ms_tys (cA : Nat → ClassId) : List (ClassId × FieldType) := [(cA 0, .int), (cA 1, .boolean), (cA 2, .object RX1)]
def ms_rf (ad : Nat → Nat) (v : Int) : Option Nat := if v < 0 then none else some (ad v.toNat)
def ms_fv (ad : Nat → Nat) (t : Nat) (v : Int) : Value := if t = 3 then va_rf (ms_rf ad v) else if t = 2 then .long (Int64.ofInt v) else .int (Int32.ofInt v)
def ms_cell (ad : Nat → Nat) (cA : Nat → ClassId) (sh : Nat × Nat) (f : Int → Int) : va_E :=
  if sh.1 < 10 then .inr (sh.1, (List.range sh.2).map (fun k : Nat => ms_fv ad (ms_ft sh.1 k) (f k)))
  else if sh.1 = 12 then .inl (cA 2, sh.2, .inr (.inr (.inr (.inr (fun j => ms_rf ad (f j))))))
  else .inl (cA (sh.1 - 10), sh.2, .inl (fun j => Int32.ofInt (f j)))
def ms_ws (ad : Nat → Nat) (cA : Nat → ClassId) (S : ms_S) (h : ms_H) : va_W := (List.range S.length).map (fun z => (ad z, ms_cell ad cA (S.getD z (0, 0)) (h z)))
def ms_isr (kd : Nat) (b : Int) : Prop := kd = 12 ∨ (kd < 10 ∧ ms_ft kd b = 3)
def ms_hok (S : ms_S) (h : ms_H) : Prop := (∀ a b, rg (h a b)) ∧ ∀ a b kd n, ms_sh S a = some (kd, n) → ms_isr kd b → h a b < S.length
theorem ms_sh_x {S : ms_S} {z : Int} {q : Nat × Nat} (h : ms_sh S z = some q) : 0 ≤ z ∧ z.toNat < S.length ∧ S[z.toNat]? = some q ∧ ((z.toNat : Nat) : Int) = z := by
  unfold ms_sh at h
  split at h
  · cases h
  · exact ⟨by omega, (List.getElem?_eq_some_iff.mp h).1, h, by omega⟩
theorem ms_sh_nat (S : ms_S) (k : Nat) : ms_sh S (k : Int) = S[k]? := by
  unfold ms_sh
  rw [if_neg (by omega)]
  rfl
theorem ms_ws_at {ad : Nat → Nat} {cA : Nat → ClassId} {S : ms_S} {h : ms_H} {z : Int} {q : Nat × Nat} (hs : ms_sh S z = some q) : (ms_ws ad cA S h)[z.toNat]? = some (ad z.toNat, ms_cell ad cA q (h z)) := by
  obtain ⟨h0, h1, h2, h3⟩ := ms_sh_x hs
  unfold ms_ws
  rw [List.getElem?_map, List.getElem?_range h1]
  show some (ad z.toNat, ms_cell ad cA (S.getD z.toNat (0, 0)) (h z.toNat)) = _
  rw [h3, List.getD_eq_getElem?_getD, h2]
  rfl
theorem ms_ws_len {ad : Nat → Nat} {cA : Nat → ClassId} {S : ms_S} {h : ms_H} : (ms_ws ad cA S h).length = S.length := by simp [ms_ws]
theorem ms_ws_nat {ad : Nat → Nat} {cA : Nat → ClassId} {S : ms_S} {h : ms_H} {k : Nat} (hk : k < S.length) : (ms_ws ad cA S h)[k]? = some (ad k, ms_cell ad cA (S.getD k (0, 0)) (h k)) := by
  unfold ms_ws
  rw [List.getElem?_map, List.getElem?_range hk]
  rfl
/-- one cell changed -/
theorem ms_ws_set {ad : Nat → Nat} {cA : Nat → ClassId} {S : ms_S} {h h' : ms_H} {z : Int} {q : Nat × Nat} {e : va_E} (hs : ms_sh S z = some q) (ho : ∀ a, a ≠ z → h' a = h a) (he : ms_cell ad cA q (h' z) = e) : (ms_ws ad cA S h).set z.toNat (ad z.toNat, e) = ms_ws ad cA S h' := by
  obtain ⟨h0, h1, h2, h3⟩ := ms_sh_x hs
  apply List.ext_getElem?
  intro k
  by_cases hk : k < S.length
  · by_cases hkz : k = z.toNat
    · subst hkz
      rw [List.getElem?_set_self (by rw [ms_ws_len]; exact hk), ms_ws_at hs, he]
    · rw [List.getElem?_set_ne (fun q => hkz q.symm), ms_ws_nat hk, ms_ws_nat hk, ho (k : Int) (by omega)]
  · rw [List.getElem?_eq_none (by rw [List.length_set, ms_ws_len]; omega), List.getElem?_eq_none (by rw [ms_ws_len]; omega)]
theorem hs_ne {h : ms_H} {z k v a : Int} (ha : a ≠ z) : hs h z k v a = h a := by
  funext b
  unfold hs
  rw [if_neg (fun q => ha q.1)]
theorem ms_obj_cell {ad : Nat → Nat} {cA : Nat → ClassId} {ci n : Nat} {f : Int → Int} (hc : ci < 10) : ms_cell ad cA (ci, n) f = .inr (ci, (List.range n).map (fun k : Nat => ms_fv ad (ms_ft ci k) (f k))) := by
  unfold ms_cell
  rw [if_pos hc]
theorem ms_int_cell {ad : Nat → Nat} {cA : Nat → ClassId} {n : Nat} {f : Int → Int} : ms_cell ad cA (10, n) f = .inl (cA 0, n, .inl (fun j => Int32.ofInt (f j))) := rfl
theorem ms_bool_cell {ad : Nat → Nat} {cA : Nat → ClassId} {n : Nat} {f : Int → Int} : ms_cell ad cA (11, n) f = .inl (cA 1, n, .inl (fun j => Int32.ofInt (f j))) := rfl
theorem ms_ref_cell {ad : Nat → Nat} {cA : Nat → ClassId} {n : Nat} {f : Int → Int} : ms_cell ad cA (12, n) f = .inl (cA 2, n, .inr (.inr (.inr (.inr (fun j => ms_rf ad (f j)))))) := rfl
/-- a field written -/
theorem ms_ws_put {ad : Nat → Nat} {cA : Nat → ClassId} {S : ms_S} {h : ms_H} {z v : Int} {ci n k : Nat} (hs0 : ms_sh S z = some (ci, n)) (hc : ci < 10) :
    (ms_ws ad cA S h).set z.toNat (ad z.toNat, .inr (ci, ((List.range n).map (fun k : Nat => ms_fv ad (ms_ft ci k) (h z k))).set k (ms_fv ad (ms_ft ci k) v))) = ms_ws ad cA S (hs h z k v) := by
  refine ms_ws_set hs0 (fun a ha => hs_ne ha) ?_
  rw [ms_obj_cell hc]
  congr 2
  apply List.ext_getElem?
  intro j
  by_cases hj : j < n
  · by_cases hjk : j = k
    · subst hjk
      rw [List.getElem?_set_self (by simpa using hj), List.getElem?_map, List.getElem?_range hj]
      show some (ms_fv ad (ms_ft ci j) (hs h z j v z j)) = _
      unfold hs
      rw [if_pos ⟨rfl, rfl⟩]
    · rw [List.getElem?_set_ne (fun q => hjk q.symm), List.getElem?_map, List.getElem?_map, List.getElem?_range hj]
      show some (ms_fv ad (ms_ft ci j) (hs h z k v z j)) = some (ms_fv ad (ms_ft ci j) (h z j))
      unfold hs
      rw [if_neg (fun q => hjk (by have := q.2; omega))]
  · rw [List.getElem?_eq_none (by simpa using hj), List.getElem?_eq_none (by simpa using hj)]
/-- an element written -/
theorem ms_upd {f : Int → Int} {i v : Int} (hi : 0 ≤ i) (g : Int → Int) (hg : ∀ b, g b = if b = i then v else f b) : (fun j : Nat => Int32.ofInt (g j)) = upd (fun j : Nat => Int32.ofInt (f j)) i.toNat (Int32.ofInt v) := by
  funext j
  show _ = if j = i.toNat then _ else _
  rw [hg]
  by_cases hj : (j : Int) = i
  · rw [if_pos hj, if_pos (by omega)]
  · rw [if_neg hj, if_neg (by omega)]
theorem hs_at (h : ms_H) (z i v b : Int) : hs h z i v z b = if b = i then v else h z b := by
  unfold hs
  by_cases hb : b = i
  · rw [if_pos ⟨rfl, hb⟩, if_pos hb]
  · rw [if_neg (fun q => hb q.2), if_neg hb]
theorem ms_ws_int {ad : Nat → Nat} {cA : Nat → ClassId} {S : ms_S} {h : ms_H} {z i v : Int} {n : Nat} (hs0 : ms_sh S z = some (10, n)) (hi : 0 ≤ i) :
    (ms_ws ad cA S h).set z.toNat (ad z.toNat, .inl (cA 0, n, .inl (upd (fun j : Nat => Int32.ofInt (h z j)) i.toNat (Int32.ofInt v)))) = ms_ws ad cA S (hs h z i v) := by
  refine ms_ws_set hs0 (fun a ha => hs_ne ha) ?_
  rw [ms_int_cell, ms_upd hi (hs h z i v z) (hs_at h z i v)]
theorem ms_ws_bool {ad : Nat → Nat} {cA : Nat → ClassId} {S : ms_S} {h : ms_H} {z i v : Int} {n : Nat} (hs0 : ms_sh S z = some (11, n)) (hi : 0 ≤ i) :
    (ms_ws ad cA S h).set z.toNat (ad z.toNat, .inl (cA 1, n, .inl (upd (fun j : Nat => Int32.ofInt (h z j)) i.toNat (Int32.ofInt v)))) = ms_ws ad cA S (hs h z i v) := by
  refine ms_ws_set hs0 (fun a ha => hs_ne ha) ?_
  rw [ms_bool_cell, ms_upd hi (hs h z i v z) (hs_at h z i v)]
theorem ms_ws_ref {ad : Nat → Nat} {cA : Nat → ClassId} {S : ms_S} {h : ms_H} {z i v : Int} {n : Nat} (hs0 : ms_sh S z = some (12, n)) (hi : 0 ≤ i) (hv : 0 ≤ v) :
    (ms_ws ad cA S h).set z.toNat (ad z.toNat, .inl (cA 2, n, .inr (.inr (.inr (.inr (va_up (fun j : Nat => ms_rf ad (h z j)) i.toNat (some (ad v.toNat)))))))) = ms_ws ad cA S (hs h z i v) := by
  refine ms_ws_set hs0 (fun a ha => hs_ne ha) ?_
  rw [ms_ref_cell]
  congr 6
  apply congrArg Sum.inr
  funext j
  show ms_rf ad (hs h z i v z j) = if j = i.toNat then _ else _
  rw [hs_at]
  by_cases hj : (j : Int) = i
  · rw [if_pos hj, if_pos (by omega)]
    unfold ms_rf
    rw [if_neg (by omega)]
  · rw [if_neg hj, if_neg (by omega)]
theorem ms_cpy_ne {h : ms_H} {s sp d dp n a : Int} (ha : a ≠ d) : ms_cpy h s sp d dp n a = h a := by
  funext b
  unfold ms_cpy
  rw [if_neg (fun q => ha q.1)]
theorem ms_ws_cpy {ad : Nat → Nat} {cA : Nat → ClassId} {S : ms_S} {h : ms_H} {s sp d dp n : Int} {n1 : Nat} (hs1 : ms_sh S d = some (10, n1)) (h1 : 0 ≤ sp) (h2 : 0 ≤ dp) (h3 : 0 ≤ n) :
    (ms_ws ad cA S h).set d.toNat (ad d.toNat, .inl (cA 0, n1, .inl (va_cpy (fun j : Nat => Int32.ofInt (h s j)) (fun j : Nat => Int32.ofInt (h d j)) sp.toNat dp.toNat n.toNat))) = ms_ws ad cA S (ms_cpy h s sp d dp n) := by
  refine ms_ws_set hs1 (fun a ha => ms_cpy_ne ha) ?_
  rw [ms_int_cell]
  congr 3
  apply congrArg Sum.inl
  funext j
  unfold va_cpy ms_cpy
  by_cases hj : dp ≤ (j : Int) ∧ (j : Int) < dp + n
  · rw [if_pos ⟨rfl, hj.1, hj.2⟩, if_pos (by omega)]
    congr 2
    omega
  · rw [if_neg (fun q => hj q.2), if_neg (by omega)]
/-- a cell made -/
def ms_ad (ad : Nat → Nat) (n q : Nat) : Nat → Nat := fun k => if k = n then q else ad k
theorem ms_ad_lt {ad : Nat → Nat} {n q k : Nat} (h : k < n) : ms_ad ad n q k = ad k := by
  unfold ms_ad
  rw [if_neg (by omega)]
theorem ms_ad_self {ad : Nat → Nat} {n q : Nat} : ms_ad ad n q n = q := by
  unfold ms_ad
  rw [if_pos rfl]
theorem ms_rf_ext {S : ms_S} {ad ad' : Nat → Nat} (h : ∀ k, k < S.length → ad' k = ad k) {v : Int} (hv : v < S.length) : ms_rf ad' v = ms_rf ad v := by
  unfold ms_rf
  split
  · rfl
  · rw [h _ (by omega)]
theorem ms_cell_ext {S : ms_S} {ad ad' : Nat → Nat} {cA : Nat → ClassId} (h : ∀ k, k < S.length → ad' k = ad k) {q : Nat × Nat} {f : Int → Int} (hf : ∀ b, ms_isr q.1 b → f b < S.length) : ms_cell ad' cA q f = ms_cell ad cA q f := by
  unfold ms_cell
  split
  · rename_i hc
    congr 2
    apply List.map_congr_left
    intro k _
    unfold ms_fv
    split
    · rename_i h3
      rw [ms_rf_ext h (hf k (Or.inr ⟨hc, h3⟩))]
    · rfl
  · split
    · rename_i hc
      congr 6
      apply congrArg Sum.inr
      funext j
      exact ms_rf_ext h (hf j (Or.inl hc))
    · rfl
theorem ms_ws_push {ad : Nat → Nat} {cA : Nat → ClassId} {S : ms_S} {h : ms_H} {q : Nat × Nat} {a : Nat} {e : va_E} (hh : ms_hok S h) (he : ms_cell (ms_ad ad S.length a) cA q (ms_nw h S.length q.1 S.length) = e) :
    ms_ws ad cA S h ++ [(a, e)] = ms_ws (ms_ad ad S.length a) cA (S ++ [q]) (ms_nw h S.length q.1) := by
  apply List.ext_getElem?
  intro k
  by_cases hk : k < S.length
  · rw [List.getElem?_append_left (by rw [ms_ws_len]; exact hk), ms_ws_nat hk, ms_ws_nat (by simp; omega), ms_ad_lt hk]
    have h1 : (S ++ [q]).getD k (0, 0) = S.getD k (0, 0) := by
      rw [List.getD_eq_getElem?_getD, List.getD_eq_getElem?_getD, List.getElem?_append_left hk]
    have h2 : ms_nw h S.length q.1 k = h k := by
      funext b
      unfold ms_nw
      rw [if_neg (by omega)]
    rw [h1, h2, ms_cell_ext (S := S) (fun j hj => ms_ad_lt hj)]
    intro b hb
    refine hh.2 k b (S.getD k (0, 0)).1 (S.getD k (0, 0)).2 ?_ hb
    rw [ms_sh_nat, List.getD_eq_getElem?_getD, List.getElem?_eq_getElem hk]
    rfl
  · by_cases hk2 : k = S.length
    · subst hk2
      rw [List.getElem?_append_right (by rw [ms_ws_len]; omega), ms_ws_nat (by simp)]
      have h1 : (S ++ [q]).getD S.length (0, 0) = q := by
        rw [List.getD_eq_getElem?_getD]
        simp
      rw [h1, ms_ad_self, he, ms_ws_len]
      simp
    · rw [List.getElem?_eq_none (by simp [ms_ws_len]; omega), List.getElem?_eq_none (by rw [ms_ws_len]; simp; omega)]
-- the heap stays as it must be
theorem hok_set {S : ms_S} {h : ms_H} {z k v : Int} (hh : ms_hok S h) (hv : rg v) (hr : ∀ kd n, ms_sh S z = some (kd, n) → ms_isr kd k → v < S.length) : ms_hok S (hs h z k v) := by
  refine ⟨fun a b => ?_, fun a b kd n hs1 hi => ?_⟩
  · unfold hs
    split
    · exact hv
    · exact hh.1 a b
  · unfold hs
    split
    · rename_i hq
      obtain ⟨rfl, rfl⟩ := hq
      exact hr kd n hs1 hi
    · exact hh.2 a b kd n hs1 hi
theorem hok_cpy {S : ms_S} {h : ms_H} {s sp d dp n : Int} {n1 : Nat} (hh : ms_hok S h) (hd : ms_sh S d = some (10, n1)) : ms_hok S (ms_cpy h s sp d dp n) := by
  refine ⟨fun a b => ?_, fun a b kd n hs1 hi => ?_⟩
  · unfold ms_cpy
    split
    · exact hh.1 _ _
    · exact hh.1 a b
  · unfold ms_cpy
    split
    · rename_i hq
      obtain ⟨rfl, -⟩ := hq
      rw [hd] at hs1
      cases hs1
      rcases hi with hi | hi
      · cases hi
      · exact absurd hi.1 (by decide)
    · exact hh.2 a b kd n hs1 hi
theorem hok_new {S : ms_S} {h : ms_H} {q : Nat × Nat} (hh : ms_hok S h) : ms_hok (S ++ [q]) (ms_nw h S.length q.1) := by
  refine ⟨fun a b => ?_, fun a b kd n hs1 hi => ?_⟩
  · unfold ms_nw
    split
    · split
      · unfold rg; omega
      · unfold rg; omega
    · exact hh.1 a b
  · unfold ms_nw
    split
    · rw [List.length_append]
      split <;> simp <;> omega
    · rename_i hq
      have h1 := ms_sh_x hs1
      have h2 : ms_sh S a = some (kd, n) := by
        unfold ms_sh
        rw [if_neg (by omega)]
        have h3 := h1.2.2.1
        rw [List.getElem?_append_left (by have h4 := h1.2.1; rw [List.length_append] at h4; simp at h4; omega)] at h3
        exact h3
      have h5 := hh.2 a b kd n h2 hi
      rw [List.length_append]
      simp
      omega
end
section
/-! What a program decides about the methods: their bytes, links, words. -/
def gw : List Cond := lw_tbl.filter goodWord
def wd (i : Nat) (w : Cond) : Bool := decide (lw_tbl[i]? = some w) && goodWord w
theorem wd_in {i : Nat} {w : Cond} (h : wd i w = true) : w ∈ gw := by
  unfold wd at h
  rw [Bool.and_eq_true, decide_eq_true_eq] at h
  exact List.mem_filter.mpr ⟨List.mem_of_getElem? h.1, h.2⟩
theorem gw_good {w : Cond} (h : w ∈ gw) : (w.onTables && w.keeps) = true ∨ ∃ ty, w = .arrayClass ty := good_of_word (List.mem_filter.mp h).2
def ms_tc : FieldType → Nat
  | .boolean => 1
  | .long => 2
  | .int => 0
  | .object _ => 3
  | .array _ => 3
  | _ => 4
def ms_clok (q : vw_C) (ty : Nat → FieldType) (ci : Nat) : Bool := decide (∀ k, k < q.2.2 → (q.2.1 k).1 = q.1) && decide (∀ k, k < q.2.2 → ms_tc (ty k) = ms_ft ci k) && decide (q.2.2 = ms_N ci) && ((List.range q.2.2).all fun k => gw.contains (u_lay q.1 q.2.1 k))
set_option maxRecDepth 100000 in
theorem ms_cl0 : ms_clok (RX0, TX0, 7) tyX0 0 = true := by decide +kernel
set_option maxRecDepth 100000 in
theorem ms_cl1 : ms_clok (RX1, TX1, 7) tyX1 1 = true := by decide +kernel
set_option maxRecDepth 100000 in
theorem ms_cl2 : ms_clok (RX2, TX2, 9) tyX2 2 = true := by decide +kernel
set_option maxRecDepth 100000 in
theorem ms_cl3 : ms_clok (RX3, TX3, 11) tyX3 3 = true := by decide +kernel
set_option maxRecDepth 100000 in
theorem ms_cl4 : ms_clok (RX4, TX4, 11) tyX4 4 = true := by decide +kernel
set_option maxRecDepth 100000 in
theorem ms_cl5 : ms_clok (RX5, TX5, 37) tyX5 5 = true := by decide +kernel
theorem ms_clx {q : vw_C} {ty : Nat → FieldType} {ci : Nat} (h : ms_clok q ty ci = true) : (∀ k, k < q.2.2 → (q.2.1 k).1 = q.1) ∧ (∀ k, k < q.2.2 → ms_tc (ty k) = ms_ft ci k) ∧ q.2.2 = ms_N ci ∧ ∀ w ∈ u_ws q.1 q.2.1 q.2.2, w ∈ gw := by
  unfold ms_clok at h
  simp only [Bool.and_eq_true, decide_eq_true_eq, List.all_eq_true, List.mem_range, List.contains_iff_mem] at h
  refine ⟨h.1.1.1, h.1.1.2, h.1.2, fun w hw => ?_⟩
  obtain ⟨k, hk, rfl⟩ := List.mem_map.mp hw
  exact h.2 k (List.mem_range.mp hk)
/-- what is known of a class of the worlds -/
theorem ms_cls_ok {ci : Nat} {q : vw_C} (h : ms_cls[ci]? = some q) : ci < 6 ∧ (∀ k, k < q.2.2 → (q.2.1 k).1 = q.1) ∧ (∀ k, k < q.2.2 → ms_tc (ms_ty ci k) = ms_ft ci k) ∧ q.2.2 = ms_N ci ∧ (∀ w ∈ u_ws q.1 q.2.1 q.2.2, w ∈ gw) ∧ (∀ k, k < q.2.2 → parseFieldDescriptor (q.2.1 k).2.2.1 = some (ms_ty ci k)) ∧ (∀ a, a < q.2.2 → ∀ b, b < q.2.2 → a ≠ b → (q.2.1 a).2.1 ≠ (q.2.1 b).2.1) := by
  match ci, h with
  | 0, h => cases h; obtain ⟨a, b, c, d⟩ := ms_clx ms_cl0; exact ⟨by decide, a, b, c, d, tyX0_ok, nmX0⟩
  | 1, h => cases h; obtain ⟨a, b, c, d⟩ := ms_clx ms_cl1; exact ⟨by decide, a, b, c, d, tyX1_ok, nmX1⟩
  | 2, h => cases h; obtain ⟨a, b, c, d⟩ := ms_clx ms_cl2; exact ⟨by decide, a, b, c, d, tyX2_ok, nmX2⟩
  | 3, h => cases h; obtain ⟨a, b, c, d⟩ := ms_clx ms_cl3; exact ⟨by decide, a, b, c, d, tyX3_ok, nmX3⟩
  | 4, h => cases h; obtain ⟨a, b, c, d⟩ := ms_clx ms_cl4; exact ⟨by decide, a, b, c, d, tyX4_ok, nmX4⟩
  | 5, h => cases h; obtain ⟨a, b, c, d⟩ := ms_clx ms_cl5; exact ⟨by decide, a, b, c, d, tyX5_ok, nmX5⟩
  | n + 6, h => simp [ms_cls] at h
def rgb (c : Int) : Bool := decide (-2147483648 ≤ c ∧ c ≤ 2147483647)
theorem rgb_x {c : Int} (h : rgb c = true) : rg c := by
  have h2 : -2147483648 ≤ c ∧ c ≤ 2147483647 := of_decide_eq_true h
  exact h2
def B_pc : ms_B → Nat
  | [] => 0
  | (pc, _) :: _ => pc
/-- links between the classes of the nest -/
def ms_nest : List (String × Nat × MethodName) := [(RX4, 9, yX2_init), (RX4, 18, yX3_init), (RX4, 28, yX0_init), (RX4, 35, yX1_init), (RX2, 103, yX4_within)]
def ms_cktab (M : ms_M) (pc : Nat) (lo : Int) : List Int → List (Int × Nat) → Bool
  | [], [] => true
  | o :: os, (v, tg) :: t => decide (v = lo) && decide ((pc : Int) + o = (B_pc (M_bl M tg) : Int)) && ms_cktab M pc (lo + 1) os t
  | _, _ => false
def ms_cklk (M : ms_M) (pc : Nat) : List (Int × Int) → List (Int × Nat) → Bool
  | [], [] => true
  | (v', o) :: os, (v, tg) :: t => decide (v = v') && decide ((pc : Int) + o = (B_pc (M_bl M tg) : Int)) && ms_cklk M pc os t
  | _, _ => false
def ms_ckf (M : ms_M) (i : Nat) (x : ms_X) : Bool := match x with
  | (c, a, b, _, _, w) => match ms_cls[a]? with
    | some (C, T, N) => decide (0 ≤ c) && decide (c.toNat < N) && decide (ms_ft a c = b) && wd w (.fieldLink (M_nm M).cls i C (T c.toNat).2.1 (T c.toNat).2.2.1)
    | none => false
def ms_ckw (M : ms_M) (x : ms_X) : Bool := match x with
  | (c, a, b, _, _, _) => match ms_cls[a]? with
    | some (C, T, _) => decide ((T c.toNat).2.2.2 = false) || (decide ((M_nm M).name = "<init>") && decide (C = (M_nm M).cls) && decide (b = 3))
    | none => false
def ms_ckc (P : List ms_M) (M : ms_M) (i kd : Nat) (x : ms_X) : Bool := match x with
  | (_, a, b, d, t, w) => match P[a]? with
    | none => false
    | some M' => decide (M_kd M' = kd) && decide (M_na M' = b) && (wd w (.methodLink (M_nm M).cls i (M_nm M')) || decide (((M_nm M).cls, i, M_nm M') ∈ ms_nest)) &&
      (match d with | 0 => decide (kd = 1) | ci + 1 => decide (kd ≠ 1) && (match ms_cls[ci]? with | some q => decide (q.1 = (M_nm M').cls) | none => false)) &&
      (match t with | [] => decide (M_mc M' = 0) && decide (M_ms M' = 0) | (kc, ks) :: _ => decide (kc.toNat = M_mc M') && decide (ks = M_ms M'))
def ms_cke (M : ms_M) (i : Nat) (x : ms_X) (y : MethodName) : Bool := match x with
  | (_, _, _, _, _, w) => wd w (.methodLink (M_nm M).cls i y)
/-- one instruction's data against its code -/
def ms_ckx (P : List ms_M) (M : ms_M) (pc : Nat) (raw : Instr) (x : ms_X) : Bool := match raw with
  | .iconst n => decide (n = x.1) && rgb x.1
  | .bipush n => decide ((Int8.ofInt n).toInt32 = Int32.ofInt x.1) && rgb x.1
  | .sipush n => decide ((Int16.ofInt n).toInt32 = Int32.ofInt x.1) && rgb x.1
  | .ldc i => wd x.2.2.2.2.2 (.constant (M_nm M).cls i (Int32.ofInt x.1)) && rgb x.1
  | .ldc_w i => wd x.2.2.2.2.2 (.constant (M_nm M).cls i (Int32.ofInt x.1)) && rgb x.1
  | .iload i => decide (i = x.2.1)
  | .iload_n k => decide (k.val = x.2.1)
  | .aload i => decide (i = x.2.1)
  | .aload_n k => decide (k.val = x.2.1)
  | .istore i => decide (i = x.2.1)
  | .istore_n k => decide (k.val = x.2.1)
  | .astore i => decide (i = x.2.1)
  | .astore_n k => decide (k.val = x.2.1)
  | .iinc i n => decide (i = x.2.1) && decide (n = x.1)
  | .ifCond _ off => decide ((pc : Int) + off = (B_pc (M_bl M x.2.1) : Int))
  | .if_icmp _ off => decide ((pc : Int) + off = (B_pc (M_bl M x.2.1) : Int))
  | .goto off => decide ((pc : Int) + off = (B_pc (M_bl M x.2.1) : Int))
  | .nop => decide (pc = B_pc (M_bl M x.2.1))
  | .tableswitch dflt lo hi offs => decide ((pc : Int) + dflt = (B_pc (M_bl M x.2.1) : Int)) && decide (hi = lo + offs.toList.length - 1) && ms_cktab M pc lo offs.toList x.2.2.2.2.1
  | .lookupswitch dflt ps => decide ((pc : Int) + dflt = (B_pc (M_bl M x.2.1) : Int)) && (ps.toList.zip (ps.toList.drop 1)).all (fun (a, next) => a.1 < next.1) && ms_cklk M pc ps.toList x.2.2.2.2.1
  | .getfield i => ms_ckf M i x
  | .putfield i => ms_ckf M i x && ms_ckw M x
  | .getstatic i => wd x.2.2.2.2.2 (.fieldLink (M_nm M).cls i "SleetLine" "ORDERS" "[I")
  | .invokevirtual i => ms_ckc P M i 0 x
  | .invokestatic i => if x.2.1 = 1000 then ms_cke M i x Lib.Math.max.name else if x.2.1 = 1001 then ms_cke M i x Lib.Math.min.name else if x.2.1 = 1002 then ms_cke M i x arraycopyName else ms_ckc P M i 1 x
  | .invokespecial i => if x.2.1 = 1003 then ms_cke M i x Lib.objectInit else ms_ckc P M i 2 x
  | .lconst n => decide (Int64.ofNat (n : Nat) = Int64.ofInt x.1) && rgb x.1
  | .ldc2_w i => wd x.2.2.2.2.2 (.constantLong (M_nm M).cls i (Int64.ofInt x.1)) && rgb x.1
  | .new i => (match ms_cls[x.2.1]? with | some (C, _, N) => wd x.2.2.2.2.2 (.classLink (M_nm M).cls i C) && wd x.2.2.1 (.instantiable C N) && wd x.2.2.2.1 (.initialized C) | none => false)
  | .newarray ty => (match ty with | .int => decide (x.2.2.1 = 10) | .boolean => decide (x.2.2.1 = 11) | _ => false)
  | .anewarray i => decide (x.2.2.1 = 12) && wd x.2.2.2.2.2 (.classLink (M_nm M).cls i RX1)
  | .ireturn => (match M_rt M with | some .int => decide (x.2.2.1 = 0) | some .boolean => decide (x.2.2.1 = 1) | _ => false)
  | .lreturn => decide (M_rt M = some .long)
  | .return_ => decide (M_rt M = none)
  | _ => true
def ms_falls : Instr → Bool
  | .goto _ => false
  | .nop => false
  | .tableswitch _ _ _ _ => false
  | .lookupswitch _ _ => false
  | .ireturn => false
  | .lreturn => false
  | .return_ => false
  | _ => true
/-- how long an instruction is -/
def ms_ln (raw : Instr) (n : Nat) : Nat := match raw with
  | .bipush _ => 2
  | .sipush _ => 3
  | .ldc _ => 2
  | .ldc_w _ => 3
  | .ldc2_w _ => 3
  | .iload _ => 2
  | .aload _ => 2
  | .istore _ => 2
  | .astore _ => 2
  | .iinc _ _ => 3
  | .ifCond _ _ => 3
  | .if_icmp _ _ => 3
  | .goto _ => 3
  | .tableswitch _ _ _ _ => n
  | .lookupswitch _ _ => n
  | .getfield _ => 3
  | .putfield _ => 3
  | .getstatic _ => 3
  | .invokevirtual _ => 3
  | .invokestatic _ => 3
  | .invokespecial _ => 3
  | .new _ => 3
  | .newarray _ => 2
  | .anewarray _ => 3
  | _ => 1
def ms_ckB (P : List ms_M) (M : ms_M) : ms_B → Bool
  | [] => true
  | (pc, raw, len, x) :: rest => (decide (raw = .nop) || decide (decode (M_by M) pc = .ok (raw, len))) && decide (len = ms_ln raw len) && ms_ckx P M pc raw x && (!ms_falls raw || decide (B_pc rest = pc + len)) && ms_ckB P M rest
/-- a method's own words, and all its blocks -/
def ms_ckM (P : List ms_M) (M : ms_M) : Bool := match M_pl M with
  | [p1, p2, p3, p4] => wd p1 (.code (M_nm M) (M_by M) (M_ml M) (M_rt M)) && wd p4 (.initialized (M_nm M).cls) &&
    (match M_kd M with
      | 0 => wd p2 (.instanceMethod (M_nm M)) && wd p3 (.selects (M_nm M).cls (M_nm M) (M_nm M)) && decide ((parseMethodDescriptor (M_nm M).desc).map (fun d => d.parameters.length + 1) = some (M_na M))
      | 1 => wd p2 (.static (M_nm M)) && decide ((parseMethodDescriptor (M_nm M).desc).map (fun d => d.parameters.length) = some (M_na M))
      | _ => wd p2 (.instanceMethod (M_nm M)) && decide ((M_nm M).name = "<init>") && decide (M_rt M = none) && decide ((parseMethodDescriptor (M_nm M).desc).map (fun d => d.parameters.length + 1) = some (M_na M))) &&
    decide ((M_nm M).cls ≠ "java/lang/invoke/MethodHandle" ∧ (M_nm M).cls ≠ "java/lang/invoke/VarHandle") && plainName (M_nm M).cls && decide (M_ml M ≤ 30) && decide (M_na M ≤ M_ml M) &&
    decide (M_rt M = none ∨ M_rt M = some .int ∨ M_rt M = some .boolean ∨ M_rt M = some .long) && decide (B_pc (M_bl M 0) = 0) &&
    (M.2.2.2.2.2.2.2.1.all (ms_ckB P M)) && (M.2.2.2.2.2.2.2.2.all (ms_ckB P M))
  | _ => false
theorem ms_ckM_bl {P : List ms_M} {M : ms_M} (h1 : M.2.2.2.2.2.2.2.1.all (ms_ckB P M) = true) (h2 : M.2.2.2.2.2.2.2.2.all (ms_ckB P M) = true) (t : Nat) : ms_ckB P M (M_bl M t) = true := by
  have key : ∀ (l : List ms_B) (k : Nat), l.all (ms_ckB P M) = true → ms_ckB P M (l.getD k []) = true := by
    intro l k hl
    rw [List.getD_eq_getElem?_getD]
    cases hk : l[k]? with
    | none => rfl
    | some B => exact List.all_eq_true.mp hl B (List.mem_of_getElem? hk)
  unfold M_bl
  split
  · exact key _ _ h2
  · exact key _ _ h1
end
section
/-! How a state of the small machine stands for one of the machine; contracts; calls. -/
def ms_nestok (U : State) : Prop := ∀ q ∈ ms_nest, va_Nw (.methodLinkNest q.1 q.2.1 q.2.2 "SleetLine") U
/-- what of the tables and statics the methods read, beside words -/
def ms_stat (ex : Nat → Nat) (A : Nat → Prop) (U : State) : Prop := va_Z "SleetLine" "ORDERS" "[I" (.ref (ex 1)) A U U.heap ∧ va_T .int (ex 1) 7 (fun j => .int (Int32.ofInt (ms_ord j))) A U U.heap ∧ va_AO RX1 U ∧ ms_nestok U
theorem ms_stat_to {ex : Nat → Nat} {A B : Nat → Prop} {s U : State} {locs : List Loc} (h : ms_stat ex A s) (hS : va_S A s.heap U.heap locs) (hAB : ∀ q, B q → A q) (hW : s.WarmedH U.vm) : ms_stat ex B U := by
  obtain ⟨h1, h2, h3, h4⟩ := h
  refine ⟨?_, ?_, va_AO.moved hW.alike h3, fun q hq => va_Nw.warmM hW (h4 q hq)⟩
  · exact ((h1.kept (fun a h5 h6 => hS.2.1 a h5 h6)).narrow hAB).moved hW.alike
  · exact ((h2.kept (fun a h5 h6 => hS.2.1 a h5 h6)).narrow hAB).moved hW.alike
theorem ms_stat_calling {ex : Nat → Nat} {A : Nat → Prop} {U : State} {g : JFrame} {mk : MethodId} {a : Array Value} (h : ms_stat ex A U) : ms_stat ex A (U.calling g mk a) := by
  obtain ⟨h1, h2, h3, h4⟩ := h
  refine ⟨?_, ?_, va_AO.moved (u := U) (U := U.calling g mk a) (Vm.Alike.refl U.vm) h3, fun q hq => va_Nw.same rfl (u := U) (U := U.calling g mk a) rfl (h4 q hq)⟩
  · exact va_Z.moved (u := U) (U := U.calling g mk a) (Vm.Alike.refl U.vm) h1
  · exact va_T.moved (u := U) (U := U.calling g mk a) (Vm.Alike.refl U.vm) h2
def ms_rm (d : Nat) (M : ms_M) : Room := { frames := d, cells := M_mc M, slots := M_ms M, locals := 60 * d }
def ms_wsM (M : ms_M) : List Cond := .code (M_nm M) (M_by M) (M_ml M) (M_rt M) :: gw
abbrev ms_U : Type := ms_S × ms_H × (Nat → Nat)
def ms_pre (D : va_G) (cA : Nat → ClassId) (ex ad : Nat → Nat) (S : ms_S) (h : ms_H) (sz : Nat) (U : State) : Prop :=
  U.heap.size = sz ∧ va_P D ms_cls (ms_ws ad cA S h) U.heap ∧ va_K D ms_cls (ms_tys cA) U ∧ va_D (fun _ => True) (ms_ws ad cA S h) ∧ ms_stat ex (va_A (ms_ws ad cA S h) sz) U
def ms_ps (ad : Nat → Nat) (S : ms_S) (Q : ms_Q) (r : Option ms_V) (u : ms_U) : Prop := Q r u.1 u.2.1 ∧ S.length ≤ u.1.length ∧ (∀ k, k < S.length → u.2.2 k = ad k) ∧ ms_hok u.1 u.2.1
def ms_wd (D : va_G) (cA : Nat → ClassId) (A : Nat → Prop) (u : ms_U) (t : State) : Prop := va_P D ms_cls (ms_ws u.2.2 cA u.1 u.2.1) t.heap ∧ va_K D ms_cls (ms_tys cA) t ∧ va_D A (ms_ws u.2.2 cA u.1 u.2.1)
def ms_Qc (rt : Option FieldType) (D : va_G) (cA : Nat → ClassId) (A : Nat → Prop) (ad : Nat → Nat) (S : ms_S) (Q : ms_Q) : Array Value → State → Outcome → State → Prop := match rt with
  | none => va_Qv (ms_ps ad S Q none) (ms_wd D cA A) A
  | some .long => va_Ql (fun r u => ∃ z, r = Int64.ofInt z ∧ rg z ∧ ms_ps ad S Q (some (mL z)) u) (ms_wd D cA A) A
  | some _ => va_Qi (fun r u => ∃ z, r = Int32.ofInt z ∧ rg z ∧ ms_ps ad S Q (some (mI z)) u) (ms_wd D cA A) A
def ms_met (l : Launch) (D : va_G) (cA : Nat → ClassId) (ex : Nat → Nat) (d : Nat) (M : ms_M) (Q : ms_Q) (vs : List ms_V) (S : ms_S) (h : ms_H) (ad : Nat → Nat) (sz : Nat) : Prop :=
  Met l (M_nm M) (ms_wsM M) (ms_rm d M) (va_Pc (vs.map (ms_c ad ex)) (ms_pre D cA ex ad S h sz)) (ms_Qc (M_rt M) D cA (va_A (ms_ws ad cA S h) sz) ad S Q) (M_mc M) (M_ms M) (va_A (ms_ws ad cA S h) sz)
/-- what the oracle says of a method is met -/
def ms_os (l : Launch) (D : va_G) (cA : Nat → ClassId) (ex : Nat → Nat) (P : List ms_M) (d : Nat) (O : ms_O) : Prop :=
  ∀ y M vs S h Q, P[y]? = some M → O y vs S h Q → (∀ v ∈ vs, ms_vok S v) → (∀ v ∈ vs, ms_nl v = true) → ms_hok S h → ∀ ad sz, ms_met l D cA ex d M Q vs S h ad sz
theorem ms_blind (vs : List Value) {D : va_G} {cA : Nat → ClassId} {ex ad : Nat → Nat} {S : ms_S} {h : ms_H} {sz : Nat} : FrameBlind (va_Pc vs (ms_pre D cA ex ad S h sz)) := by
  intro a U g mk q
  obtain ⟨q0, q1, q2, q3, q4, q5⟩ := q
  exact ⟨q0, q1, q2, va_K.moved (u := U) (U := U.calling g mk a) (Vm.Alike.refl U.vm) q3, q4, ms_stat_calling q5⟩
/-- the heap's part of a state -/
def ms_rh (D : va_G) (cA : Nat → ClassId) (A : Nat → Prop) (s : State) (S0 : ms_S) (ad0 : Nat → Nat) (M : ms_M) (ad : Nat → Nat) (G : ms_G) (h : ms_H) (H : Heap) (locs : List Loc) : Prop :=
  va_P D ms_cls (ms_ws ad cA G.1 h) H ∧ va_D A (ms_ws ad cA G.1 h) ∧ va_S A s.heap H locs ∧ ms_hok G.1 h ∧ (G.2.1 ≤ M_mc M ∧ G.2.2 ≤ M_ms M) ∧ S0.length ≤ G.1.length ∧ ∀ k, k < S0.length → ad k = ad0 k
def ms_rl (ad ex : Nat → Nat) (nL : Nat) (S : ms_S) (L : List ms_V) (ls : Array Slot) : Prop := lv_has ls nL (lvl ad ex L) ∧ L.length = nL ∧ ∀ v ∈ L, ms_vok S v
def ms_RW (p : Program) (l : Launch) (e : Env) (R : Room) (s : State) (m : MethodId) (args : Array Value) (below : List Frame) (meth : Method) (c : Code) (Qf : State → Prop) (D : va_G) (cA : Nat → ClassId) (ex : Nat → Nat) (A : Nat → Prop) (S0 : ms_S) (ad0 : Nat → Nat) (P : List ms_M) (M : ms_M) (B : ms_B) : ms_K := fun L st G h =>
  ms_ckB P M B = true → ∀ (ad : Nat → Nat) (H : Heap) (locs : List Loc) (ls : Array Slot), ms_rh D cA A s S0 ad0 M ad G h H locs → ms_rl ad ex (M_ml M) G.1 L ls → (∀ v ∈ st, ms_vok G.1 v) → W p l e R s m args below meth c H locs G.2.1 G.2.2 Qf (F0 m (B_pc B) ls (st.map (ms_c ad ex)))
/-- the end of a method -/
def ms_fin (p : Program) (l : Launch) (e : Env) (R : Room) (s : State) (m : MethodId) (args : Array Value) (below : List Frame) (meth : Method) (c : Code) (Qf : State → Prop) (D : va_G) (cA : Nat → ClassId) (ex : Nat → Nat) (A : Nat → Prop) (S0 : ms_S) (ad0 : Nat → Nat) (M : ms_M) (Q : ms_Q) : Prop :=
  ∀ (pc : Nat) (ls : Array Slot) (ad : Nat → Nat) (G : ms_G) (h : ms_H) (H : Heap) (locs : List Loc), ms_rh D cA A s S0 ad0 M ad G h H locs →
    (∀ z : Int, Q (some (mI z)) G.1 h → rg z → decode (M_by M) pc = .ok (.ireturn, 1) → (M_rt M = some .int ∨ (M_rt M = some .boolean ∧ (z = 0 ∨ z = 1))) → W p l e R s m args below meth c H locs G.2.1 G.2.2 Qf (F0 m pc ls [.int (Int32.ofInt z)])) ∧
    (∀ z : Int, Q (some (mL z)) G.1 h → rg z → decode (M_by M) pc = .ok (.lreturn, 1) → M_rt M = some .long → W p l e R s m args below meth c H locs G.2.1 G.2.2 Qf (F0 m pc ls [.long (Int64.ofInt z)])) ∧
    (Q none G.1 h → decode (M_by M) pc = .ok (.return_, 1) → M_rt M = none → W p l e R s m args below meth c H locs G.2.1 G.2.2 Qf (F0 m pc ls []))
/-- all that a walk stands on -/
def ms_cx (p : Program) (l : Launch) (e : Env) (R : Room) (s : State) (m : MethodId) (args : Array Value) (below : List Frame) (meth : Method) (c : Code) (Qf : State → Prop) (D : va_G) (cA : Nat → ClassId) (ex : Nat → Nat) (A : Nat → Prop) (S0 : ms_S) (ad0 : Nat → Nat) (P : List ms_M) (M : ms_M) (d : Nat) (O : ms_O) (X : ms_Z) (Q : ms_Q) : Prop :=
  p.tables.exec = Jvm.exec ∧ c.code = M_by M ∧ c.maxLocals = M_ml M ∧ s.vm.findClass (M_nm M).cls = some m.cls ∧ (∀ w ∈ gw, w.before args s = true) ∧ va_K D ms_cls (ms_tys cA) s ∧ (∀ q, s.heap.size ≤ q → A q) ∧
  ((M_nm M).name = "<init>" → meth.name = "<init>") ∧ ms_stat ex A s ∧ (d + 1 ≤ R.frames ∧ 60 * d + 60 ≤ R.locals ∧ M_mc M ≤ R.cells ∧ M_ms M ≤ R.slots) ∧ ms_os l D cA ex P d O ∧ (∀ M' ∈ P, ms_ckM P M' = true) ∧ (∀ t, ms_ckB P M (M_bl M t) = true) ∧
  (∀ n q, X n = some q → va_T .int (ex n) q.1 (fun j => .int (Int32.ofInt (q.2 j))) A s s.heap ∧ q.1 < 2 ^ 31 ∧ ∀ i : Int, 0 ≤ i → i < q.1 → rg (q.2 i)) ∧ ms_fin p l e R s m args below meth c Qf D cA ex A S0 ad0 M Q
theorem ms_cells_in {D : va_G} {cA : Nat → ClassId} {A : Nat → Prop} {s : State} {S : ms_S} {h : ms_H} {ad : Nat → Nat} {H : Heap} {locs : List Loc} (hD : va_D A (ms_ws ad cA S h)) (hS : va_S A s.heap H locs) (hA : ∀ q, s.heap.size ≤ q → A q) : ∀ q, va_A (ms_ws ad cA S h) H.size q → A q := by
  intro q hq
  rcases hq with ⟨k, e, hk⟩ | hq
  · exact hD.2 k (q, e) hk
  · exact hA q (Nat.le_trans hS.1 hq)
section
variable {p : Program} {l : Launch} {e : Env} {R : Room} {s : State} {m : MethodId} {args : Array Value} {below : List Frame} {meth : Method} {c : Code} {Qf : State → Prop}
variable {D : va_G} {cA : Nat → ClassId} {ex : Nat → Nat} {A : Nat → Prop} {S0 : ms_S} {ad0 : Nat → Nat} {P : List ms_M} {M : ms_M}
/-- behind a call -/
theorem ms_after {kc ks : Nat} {rest : ms_B} {L r : List ms_V} {G : ms_G} {h : ms_H} {ad : Nat → Nat} {H : Heap} {locs : List Loc} {ls : Array Slot} {v : Option ms_V} {u : ms_U} {t : State} {H1 : Heap} {locs1 : List Loc}
    (hA : ∀ q, s.heap.size ≤ q → A q) (hck : ms_ckB P M rest = true) (hr : ms_rh D cA A s S0 ad0 M ad G h H locs) (hl : ms_rl ad ex (M_ml M) G.1 L ls) (hst : ∀ v ∈ r, ms_vok G.1 v) (hk : G.2.1 + kc ≤ M_mc M ∧ G.2.2 + ks ≤ M_ms M)
    (hp : ms_ps ad G.1 (o_back kc ks (ms_RW p l e R s m args below meth c Qf D cA ex A S0 ad0 P M rest) L r G) v u) (hw : ms_wd D cA (va_A (ms_ws ad cA G.1 h) H.size) u t) (ht : t.heap = H1) (hS : va_S A s.heap H1 locs1) (hv : ∀ x, v = some x → ms_vok u.1 x) :
    W p l e R s m args below meth c H1 locs1 (G.2.1 + kc) (G.2.2 + ks) Qf (F0 m (B_pc rest) ls ((v.toList.map (ms_c u.2.2 ex)) ++ r.map (ms_c ad ex))) := by
  obtain ⟨hP, hD, hS0, hh, hg, he1, he2⟩ := hr
  obtain ⟨q1, q2, q3, q4⟩ := hp
  obtain ⟨w1, w2, w3⟩ := hw
  have hin := ms_cells_in (h := h) (ad := ad) (D := D) hD hS0 hA
  have hr' : ms_rh D cA A s S0 ad0 M u.2.2 (u.1, G.2.1 + kc, G.2.2 + ks) u.2.1 H1 locs1 :=
    ⟨by rw [← ht]; exact w1, w3.weaken (fun _ q _ hq => hin q.1 hq), hS, q4, hk, Nat.le_trans he1 q2, fun k hk => by rw [q3 k (Nat.lt_of_lt_of_le hk he1)]; exact he2 k hk⟩
  have hl' : ms_rl u.2.2 ex (M_ml M) u.1 L ls := ⟨by rw [lvl_ext q3 hl.2.2]; exact hl.1, hl.2.1, fun v hv => ms_vok_mono q2 (hl.2.2 v hv)⟩
  have hst' : ∀ v ∈ r, ms_vok u.1 v := fun v hv => ms_vok_mono q2 (hst v hv)
  rw [← ms_c_exts q3 hst]
  cases v with
  | none => exact q1 hck u.2.2 H1 locs1 ls hr' hl' hst'
  | some x => exact q1 hck u.2.2 H1 locs1 ls hr' hl' (List.forall_mem_cons.mpr ⟨hv x rfl, hst'⟩)
/-- a call that runs comes back -/
theorem ms_call_end {M' : ms_M} {kc ks pc : Nat} {rest : ms_B} {L r : List ms_V} {G : ms_G} {h : ms_H} {ad : Nat → Nat} {H : Heap} {locs : List Loc} {ls : Array Slot} {st0 : List Value} {av : Array Value}
    (hA : ∀ q, s.heap.size ≤ q → A q) (hck : ms_ckB P M rest = true) (hpc : B_pc rest = pc + 3) (hr : ms_rh D cA A s S0 ad0 M ad G h H locs) (hl : ms_rl ad ex (M_ml M) G.1 L ls) (hst : ∀ v ∈ r, ms_vok G.1 v) (hk : G.2.1 + kc ≤ M_mc M ∧ G.2.2 + ks ≤ M_ms M)
    (hrt : M_rt M' = none ∨ M_rt M' = some .int ∨ M_rt M' = some .boolean ∨ M_rt M' = some .long)
    (run : va_Run p l e R s m args below meth c H locs G.2.1 G.2.2 kc ks (F0 m pc ls st0) (r.map (ms_c ad ex)) (ms_Qc (M_rt M') D cA (va_A (ms_ws ad cA G.1 h) H.size) ad G.1 (o_back kc ks (ms_RW p l e R s m args below meth c Qf D cA ex A S0 ad0 P M rest) L r G) av) (va_A (ms_ws ad cA G.1 h) H.size)) :
    W p l e R s m args below meth c H locs G.2.1 G.2.2 Qf (F0 m pc ls st0) := by
  have hin := ms_cells_in (h := h) (ad := ad) (D := D) hr.2.1 hr.2.2.1 hA
  have goI : ∀ (ty : FieldType), va_Run p l e R s m args below meth c H locs G.2.1 G.2.2 kc ks (F0 m pc ls st0) (r.map (ms_c ad ex)) (va_Qi (fun x u => ∃ z, x = Int32.ofInt z ∧ rg z ∧ ms_ps ad G.1 (o_back kc ks (ms_RW p l e R s m args below meth c Qf D cA ex A S0 ad0 P M rest) L r G) (some (mI z)) u) (ms_wd D cA (va_A (ms_ws ad cA G.1 h) H.size)) (va_A (ms_ws ad cA G.1 h) H.size) av) (va_A (ms_ws ad cA G.1 h) H.size) → W p l e R s m args below meth c H locs G.2.1 G.2.2 Qf (F0 m pc ls st0) := by
    intro _ run
    refine va_calli (a := av) run hr.2.2.1 (fun q _ h => hin q h) hin (fun x u t H1 locs1 ht hvm hp hB hz hk1 hS => ?_)
    obtain ⟨z, rfl, hz2, hp⟩ := hp
    have := ms_after hA hck hr hl hst hk hp hB ht hS (fun x hx => by cases hx; exact hz2)
    rw [hpc] at this
    exact this
  rcases hrt with hrt | hrt | hrt | hrt <;> rw [hrt] at run
  · refine va_callv (a := av) run hr.2.2.1 (fun q _ h => hin q h) hin (fun u t H1 locs1 ht hvm hp hB hz hk1 hS => ?_)
    have := ms_after hA hck hr hl hst hk hp hB ht hS (fun x hx => by cases hx)
    rw [hpc] at this
    exact this
  · exact goI .int run
  · exact goI .boolean run
  · refine va_calll (a := av) run hr.2.2.1 (fun q _ h => hin q h) hin (fun x u t H1 locs1 ht hvm hp hB hz hk1 hS => ?_)
    obtain ⟨z, rfl, hz2, hp⟩ := hp
    have := ms_after hA hck hr hl hst hk hp hB ht hS (fun x hx => by cases hx; exact hz2)
    rw [hpc] at this
    exact this
end
end
section
/-! One instruction of the small machine is one of the machine. -/
theorem ckB_x {P : List ms_M} {M : ms_M} {pc len : Nat} {raw : Instr} {x : ms_X} {rest : ms_B} (h : ms_ckB P M ((pc, raw, len, x) :: rest) = true) :
    (raw = .nop ∨ decode (M_by M) pc = .ok (raw, len)) ∧ len = ms_ln raw len ∧ ms_ckx P M pc raw x = true ∧ (ms_falls raw = true → B_pc rest = pc + len) ∧ ms_ckB P M rest = true := by
  unfold ms_ckB at h
  simp only [Bool.and_eq_true, Bool.or_eq_true, decide_eq_true_eq, Bool.not_eq_true'] at h
  obtain ⟨⟨⟨⟨h1, h2⟩, h3⟩, h4⟩, h5⟩ := h
  refine ⟨h1, h2, h3, fun hf => ?_, h5⟩
  rcases h4 with h4 | h4
  · rw [hf] at h4; cases h4
  · exact h4
theorem cktab_x {M : ms_M} {pc d : Nat} {k : Nat → Prop} {x : Int} : ∀ (os : List Int) (t : List (Int × Nat)) (lo : Int), ms_cktab M pc lo os t = true → o_sw t d x k →
    ((x < lo ∨ lo + os.length ≤ x) ∧ k d) ∨ (lo ≤ x ∧ x < lo + os.length ∧ ∃ off tg, os[(x - lo).toNat]? = some off ∧ (pc : Int) + off = (B_pc (M_bl M tg) : Int) ∧ k tg)
  | [], [], lo, _, q => Or.inl ⟨by simp; omega, q⟩
  | o :: os, (v, tg) :: t, lo, hc, q => by
    simp only [ms_cktab, Bool.and_eq_true, decide_eq_true_eq] at hc
    obtain ⟨⟨rfl, h2⟩, h3⟩ := hc
    by_cases hx : x = v
    · subst hx
      refine Or.inr ⟨Int.le_refl _, by simp only [List.length_cons]; omega, o, tg, ?_, h2, q.1 rfl⟩
      rw [show (x - x).toNat = 0 by omega]; rfl
    · rcases cktab_x os t (v + 1) h3 (q.2 hx) with ⟨h4, h5⟩ | ⟨h4, h5, off, tg', h6, h7, h8⟩
      · exact Or.inl ⟨by simp only [List.length_cons]; omega, h5⟩
      · refine Or.inr ⟨by omega, by simp only [List.length_cons]; omega, off, tg', ?_, h7, h8⟩
        rw [show (x - v).toNat = (x - (v + 1)).toNat + 1 by omega]
        exact h6
theorem cklk_x {M : ms_M} {pc d : Nat} {k : Nat → Prop} {x dflt : Int} (hd : (pc : Int) + dflt = (B_pc (M_bl M d) : Int)) : ∀ (os : List (Int × Int)) (t : List (Int × Nat)), ms_cklk M pc os t = true → o_sw t d x k →
    ∃ off tg, Op.lookupswitch.offset os dflt x = off ∧ (pc : Int) + off = (B_pc (M_bl M tg) : Int) ∧ k tg
  | [], [], _, q => ⟨dflt, d, by simp [Op.lookupswitch.offset], hd, q⟩
  | (v', o) :: os, (v, tg) :: t, hc, q => by
    simp only [ms_cklk, Bool.and_eq_true, decide_eq_true_eq] at hc
    obtain ⟨⟨rfl, h2⟩, h3⟩ := hc
    by_cases hx : x = v
    · subst hx
      exact ⟨o, tg, by simp [Op.lookupswitch.offset], h2, q.1 rfl⟩
    · obtain ⟨off, tg', h4, h5, h6⟩ := cklk_x hd os t h3 (q.2 hx)
      refine ⟨off, tg', ?_, h5, h6⟩
      rw [← h4]
      simp [Op.lookupswitch.offset, Ne.symm hx, hx]
theorem ms_nar {ty : FieldType} {b : Nat} (h : ms_tc ty = b) : (b = 0 → ty = .int) ∧ (b = 1 → ty = .boolean) ∧ (b = 2 → ty = .long) ∧ (b = 3 → (∃ C, ty = .object C) ∨ ∃ C, ty = .array C) := by
  subst h
  cases ty <;> simp [ms_tc]
section
variable {p : Program} {l : Launch} {e : Env} {R : Room} {s : State} {m : MethodId} {args : Array Value} {below : List Frame} {meth : Method} {c : Code} {Qf : State → Prop}
variable {D : va_G} {cA : Nat → ClassId} {ex : Nat → Nat} {A : Nat → Prop} {S0 : ms_S} {ad0 : Nat → Nat} {P : List ms_M} {M : ms_M} {d0 : Nat} {O : ms_O} {X : ms_Z} {Q : ms_Q}
/-- what the check of a method says of its words -/
theorem ckM_x {M' : ms_M} (h : ms_ckM P M' = true) : Cond.code (M_nm M') (M_by M') (M_ml M') (M_rt M') ∈ gw ∧ Cond.initialized (M_nm M').cls ∈ gw ∧
    (M_kd M' = 0 → Cond.instanceMethod (M_nm M') ∈ gw ∧ Cond.selects (M_nm M').cls (M_nm M') (M_nm M') ∈ gw ∧ (parseMethodDescriptor (M_nm M').desc).map (fun d => d.parameters.length + 1) = some (M_na M')) ∧
    (M_kd M' = 1 → Cond.static (M_nm M') ∈ gw ∧ (parseMethodDescriptor (M_nm M').desc).map (fun d => d.parameters.length) = some (M_na M')) ∧
    (M_kd M' = 2 → Cond.instanceMethod (M_nm M') ∈ gw ∧ (M_nm M').name = "<init>" ∧ M_rt M' = none ∧ (parseMethodDescriptor (M_nm M').desc).map (fun d => d.parameters.length + 1) = some (M_na M')) ∧
    ((M_nm M').cls ≠ "java/lang/invoke/MethodHandle" ∧ (M_nm M').cls ≠ "java/lang/invoke/VarHandle") ∧ plainName (M_nm M').cls = true ∧ M_ml M' ≤ 30 ∧ M_na M' ≤ M_ml M' ∧
    (M_rt M' = none ∨ M_rt M' = some .int ∨ M_rt M' = some .boolean ∨ M_rt M' = some .long) ∧ B_pc (M_bl M' 0) = 0 ∧ ∀ t, ms_ckB P M' (M_bl M' t) = true := by
  unfold ms_ckM at h
  split at h
  · rename_i p1 p2 p3 p4 hp
    simp only [Bool.and_eq_true, decide_eq_true_eq] at h
    obtain ⟨⟨⟨⟨⟨⟨⟨⟨⟨⟨a1, a2⟩, a3⟩, a5⟩, a6⟩, a7⟩, a8⟩, a9⟩, a10⟩, a11⟩, a12⟩ := h
    refine ⟨wd_in a1, wd_in a2, fun hk => ?_, fun hk => ?_, fun hk => ?_, a5, a6, a7, a8, a9, a10, ms_ckM_bl a11 a12⟩
    · rw [hk] at a3
      simp only [Bool.and_eq_true, decide_eq_true_eq] at a3
      exact ⟨wd_in a3.1.1, wd_in a3.1.2, a3.2⟩
    · rw [hk] at a3
      simp only [Bool.and_eq_true, decide_eq_true_eq] at a3
      exact ⟨wd_in a3.1, a3.2⟩
    · rw [hk] at a3
      simp only [Bool.and_eq_true, decide_eq_true_eq] at a3
      exact ⟨wd_in a3.1.1.1, a3.1.1.2, a3.1.2, a3.2⟩
  · cases h
end
end
section
/-! The walk: one instruction, all of them. -/
section
variable {p : Program} {l : Launch} {e : Env} {R : Room} {s : State} {m : MethodId} {args : Array Value} {below : List Frame} {meth : Method} {c : Code} {Qf : State → Prop}
variable {D : va_G} {cA : Nat → ClassId} {ex : Nat → Nat} {A : Nat → Prop} {S0 : ms_S} {ad0 : Nat → Nat} {P : List ms_M} {M : ms_M} {d0 : Nat} {O : ms_O} {X : ms_Z} {Q : ms_Q}
theorem ms_vI {S : ms_S} {z : Int} {r : List ms_V} (h : ∀ v ∈ (mI z :: r : List ms_V), ms_vok S v) : rg z ∧ ∀ v ∈ r, ms_vok S v := List.forall_mem_cons.mp h
theorem ms_vL {S : ms_S} {z : Int} {r : List ms_V} (h : ∀ v ∈ (mL z :: r : List ms_V), ms_vok S v) : rg z ∧ ∀ v ∈ r, ms_vok S v := List.forall_mem_cons.mp h
theorem ms_vR {S : ms_S} {z : Int} {r : List ms_V} (h : ∀ v ∈ (mR z :: r : List ms_V), ms_vok S v) : (rg z ∧ 0 ≤ z ∧ z < S.length) ∧ ∀ v ∈ r, ms_vok S v := List.forall_mem_cons.mp h
theorem ms_pI {S : ms_S} {z : Int} {r : List ms_V} (h : rg z) (hr : ∀ v ∈ r, ms_vok S v) : ∀ v ∈ (mI z :: r : List ms_V), ms_vok S v := List.forall_mem_cons.mpr ⟨h, hr⟩
theorem ms_pL {S : ms_S} {z : Int} {r : List ms_V} (h : rg z) (hr : ∀ v ∈ r, ms_vok S v) : ∀ v ∈ (mL z :: r : List ms_V), ms_vok S v := List.forall_mem_cons.mpr ⟨h, hr⟩
theorem ms_pR {S : ms_S} {z : Int} {r : List ms_V} (h : rg z ∧ 0 ≤ z ∧ z < S.length) (hr : ∀ v ∈ r, ms_vok S v) : ∀ v ∈ (mR z :: r : List ms_V), ms_vok S v := List.forall_mem_cons.mpr ⟨h, hr⟩
theorem ms_rl_set {ad : Nat → Nat} {nL : Nat} {S : ms_S} {L : List ms_V} {ls' : Array Slot} {i : Nat} {v : ms_V} (hlen : L.length = nL) (hv : ∀ v ∈ L, ms_vok S v) (hi : i < L.length) (hv2 : ms_vok S v) (h : lv_has ls' nL ((i, ms_c ad ex v) :: (lvl ad ex L).filter (fun q => !(q.1 == i) && !(q.1 + 1 == i && q.2.category == 2)))) : ms_rl ad ex nL S (L.set i v) ls' := by
  refine ⟨lvl_set hi h, by rw [List.length_set]; exact hlen, fun x hx => ?_⟩
  rcases List.mem_or_eq_of_mem_set hx with h1 | h1
  · exact hv x h1
  · rw [h1]; exact hv2
/-- instructions that leave the heap as it is -/
def ms_plain : Instr → Bool
  | .getfield _ | .putfield _ | .iaload | .iastore | .baload | .bastore | .aaload | .aastore | .arraylength | .getstatic _ | .invokevirtual _ | .invokestatic _ | .invokespecial _ | .new _ | .newarray _ | .anewarray _ => false
  | _ => true
set_option maxHeartbeats 4000000 in
theorem ms_step1 (C : ms_cx p l e R s m args below meth c Qf D cA ex A S0 ad0 P M d0 O X Q) {pc len : Nat} {raw : Instr} {x : ms_X} {rest : ms_B} {L st : List ms_V} {G : ms_G} {h : ms_H} (hpl : ms_plain raw = true)
    (q : ms_ex O X (M_mc M) (M_ms M) Q (fun t => ms_RW p l e R s m args below meth c Qf D cA ex A S0 ad0 P M (M_bl M t)) (ms_RW p l e R s m args below meth c Qf D cA ex A S0 ad0 P M rest) raw x L st G h) : ms_RW p l e R s m args below meth c Qf D cA ex A S0 ad0 P M ((pc, raw, len, x) :: rest) L st G h := by
  obtain ⟨hx, hb, hml, hown, hts, hK, hA, hini, hstat, ⟨hfr, hlo, hrc, hrs⟩, hos, hPk, hbl, hX, hfin⟩ := C
  intro hck ad H locs ls hr hl hst
  obtain ⟨hdec, hln, hckx, hnx, hrest⟩ := ckB_x hck
  obtain ⟨c0, a, b, d, t, w⟩ := x
  show W p l e R s m args below meth c H locs G.2.1 G.2.2 Qf (F0 m pc ls (st.map (ms_c ad ex)))
  have nx : ∀ {k : Nat} {L' st' : List ms_V} {ls' : Array Slot}, B_pc rest = pc + k → ms_RW p l e R s m args below meth c Qf D cA ex A S0 ad0 P M rest L' st' G h → ms_rl ad ex (M_ml M) G.1 L' ls' → (∀ v ∈ st', ms_vok G.1 v) → W p l e R s m args below meth c H locs G.2.1 G.2.2 Qf (F0 m (pc + k) ls' (st'.map (ms_c ad ex))) := by
    intro k L' st' ls' hk hq h2 h3
    have := hq hrest ad H locs ls' hr h2 h3
    rw [hk] at this
    exact this
  have jx : ∀ {t : Nat} {L' st' : List ms_V} {ls' : Array Slot}, ms_RW p l e R s m args below meth c Qf D cA ex A S0 ad0 P M (M_bl M t) L' st' G h → ms_rl ad ex (M_ml M) G.1 L' ls' → (∀ v ∈ st', ms_vok G.1 v) → W p l e R s m args below meth c H locs G.2.1 G.2.2 Qf (F0 m (B_pc (M_bl M t)) ls' (st'.map (ms_c ad ex))) := fun hq h2 h3 => hq (hbl _) ad H locs _ hr h2 h3
  have hd : raw = .nop ∨ decode (M_by M) pc = .ok (raw, ms_ln raw len) := by rw [← hln]; exact hdec
  have hn : ms_falls raw = true → B_pc rest = pc + ms_ln raw len := by rw [← hln]; exact hnx
  clear hdec hnx
  cases raw
  case iconst n =>
    simp only [ms_ckx, Bool.and_eq_true, decide_eq_true_eq] at hckx
    refine lv_iconst hx hb (hd.resolve_left (fun z => by cases z)) (v := Int32.ofInt c0) (by rw [hckx.1]) ?_
    exact nx (hn rfl) q hl (ms_pI (rgb_x hckx.2) hst)
  case bipush n =>
    simp only [ms_ckx, Bool.and_eq_true, decide_eq_true_eq] at hckx
    refine lv_bipush hx hb (hd.resolve_left (fun z => by cases z)) (v := Int32.ofInt c0) hckx.1 ?_
    exact nx (hn rfl) q hl (ms_pI (rgb_x hckx.2) hst)
  case sipush n =>
    simp only [ms_ckx, Bool.and_eq_true, decide_eq_true_eq] at hckx
    refine lv_sipush hx hb (hd.resolve_left (fun z => by cases z)) (v := Int32.ofInt c0) hckx.1 ?_
    exact nx (hn rfl) q hl (ms_pI (rgb_x hckx.2) hst)
  case ldc i =>
    simp only [ms_ckx, Bool.and_eq_true] at hckx
    refine lv_ldc hx hb hown (hts _ (wd_in hckx.1)) (hd.resolve_left (fun z => by cases z)) ?_
    exact nx (hn rfl) q hl (ms_pI (rgb_x hckx.2) hst)
  case ldc_w i =>
    simp only [ms_ckx, Bool.and_eq_true] at hckx
    refine lv_ldcw hx hb hown (hts _ (wd_in hckx.1)) (hd.resolve_left (fun z => by cases z)) ?_
    exact nx (hn rfl) q hl (ms_pI (rgb_x hckx.2) hst)
  case iload i =>
    simp only [ms_ckx, decide_eq_true_eq] at hckx
    replace q : o_iload a (ms_RW p l e R s m args below meth c Qf D cA ex A S0 ad0 P M rest) L st G h := q
    unfold o_iload at q
    split at q
    · rename_i z hz
      subst hckx
      refine lv_iload hx hb (hd.resolve_left (fun z => by cases z)) (lvl_at hl.1 hz rfl) ?_
      exact nx (hn rfl) q hl (ms_pI (hl.2.2 _ (List.mem_of_getElem? hz)) hst)
    · exact q.elim
  case iload_n i =>
    simp only [ms_ckx, decide_eq_true_eq] at hckx
    replace q : o_iload a (ms_RW p l e R s m args below meth c Qf D cA ex A S0 ad0 P M rest) L st G h := q
    unfold o_iload at q
    split at q
    · rename_i z hz
      refine lv_iload_n hx hb (hd.resolve_left (fun z => by cases z)) hckx (lvl_at hl.1 hz rfl) ?_
      exact nx (hn rfl) q hl (ms_pI (hl.2.2 _ (List.mem_of_getElem? hz)) hst)
    · exact q.elim
  case aload i =>
    simp only [ms_ckx, decide_eq_true_eq] at hckx
    replace q : o_aload a (ms_RW p l e R s m args below meth c Qf D cA ex A S0 ad0 P M rest) L st G h := q
    unfold o_aload at q
    split at q
    · rename_i z hz
      subst hckx
      rcases z with z | z
      · refine lv_aload hx hb (hd.resolve_left (fun z => by cases z)) (lvl_at hl.1 hz rfl) ?_
        exact nx (hn rfl) q hl (List.forall_mem_cons.mpr ⟨hl.2.2 _ (List.mem_of_getElem? hz), hst⟩)
      · refine lv_aload hx hb (hd.resolve_left (fun z => by cases z)) (lvl_at hl.1 hz rfl) ?_
        exact nx (hn rfl) q hl (List.forall_mem_cons.mpr ⟨hl.2.2 _ (List.mem_of_getElem? hz), hst⟩)
    · exact q.elim
  case aload_n i =>
    simp only [ms_ckx, decide_eq_true_eq] at hckx
    replace q : o_aload a (ms_RW p l e R s m args below meth c Qf D cA ex A S0 ad0 P M rest) L st G h := q
    unfold o_aload at q
    split at q
    · rename_i z hz
      rcases z with z | z
      · refine lv_aload_n hx hb (hd.resolve_left (fun z => by cases z)) hckx (lvl_at hl.1 hz rfl) ?_
        exact nx (hn rfl) q hl (List.forall_mem_cons.mpr ⟨hl.2.2 _ (List.mem_of_getElem? hz), hst⟩)
      · refine lv_aload_n hx hb (hd.resolve_left (fun z => by cases z)) hckx (lvl_at hl.1 hz rfl) ?_
        exact nx (hn rfl) q hl (List.forall_mem_cons.mpr ⟨hl.2.2 _ (List.mem_of_getElem? hz), hst⟩)
    · exact q.elim
  case istore i =>
    simp only [ms_ckx, decide_eq_true_eq] at hckx
    obtain ⟨hi, q⟩ := q
    replace q := i1_x q; obtain ⟨z, r, rfl, q⟩ := q
    replace hst := ms_vI hst; obtain ⟨hz, hst⟩ := hst
    subst hckx
    refine lv_istore hx hb (hd.resolve_left (fun z => by cases z)) hl.1 (by rw [← hl.2.1]; exact hi) rfl (fun ls' hl' => ?_)
    exact nx (hn rfl) q (ms_rl_set hl.2.1 hl.2.2 hi hz hl') hst
  case istore_n i =>
    simp only [ms_ckx, decide_eq_true_eq] at hckx
    obtain ⟨hi, q⟩ := q
    replace q := i1_x q; obtain ⟨z, r, rfl, q⟩ := q
    replace hst := ms_vI hst; obtain ⟨hz, hst⟩ := hst
    refine lv_istore_n hx hb (hd.resolve_left (fun z => by cases z)) hckx hl.1 (by rw [← hl.2.1]; exact hi) rfl (fun ls' hl' => ?_)
    exact nx (hn rfl) q (ms_rl_set hl.2.1 hl.2.2 hi hz hl') hst
  case astore i =>
    simp only [ms_ckx, decide_eq_true_eq] at hckx
    obtain ⟨hi, q⟩ := q
    replace q := r1_x q; obtain ⟨z, r, rfl, q⟩ := q
    replace hst := ms_vR hst; obtain ⟨hz, hst⟩ := hst
    subst hckx
    refine lv_astore hx hb (hd.resolve_left (fun z => by cases z)) hl.1 (by rw [← hl.2.1]; exact hi) rfl (fun ls' hl' => ?_)
    exact nx (hn rfl) q (ms_rl_set hl.2.1 hl.2.2 hi hz hl') hst
  case astore_n i =>
    simp only [ms_ckx, decide_eq_true_eq] at hckx
    obtain ⟨hi, q⟩ := q
    replace q := r1_x q; obtain ⟨z, r, rfl, q⟩ := q
    replace hst := ms_vR hst; obtain ⟨hz, hst⟩ := hst
    refine lv_astore_n hx hb (hd.resolve_left (fun z => by cases z)) hckx hl.1 (by rw [← hl.2.1]; exact hi) rfl (fun ls' hl' => ?_)
    exact nx (hn rfl) q (ms_rl_set hl.2.1 hl.2.2 hi hz hl') hst
  case iinc i n =>
    simp only [ms_ckx, Bool.and_eq_true, decide_eq_true_eq] at hckx
    obtain ⟨rfl, rfl⟩ := hckx
    replace q : o_iinc i n (ms_RW p l e R s m args below meth c Qf D cA ex A S0 ad0 P M rest) L st G h := q
    unfold o_iinc at q
    split at q
    · rename_i z hz
      have hm : (i, ms_c ad ex (mI z)) ∈ lvl ad ex L := lvl_mem.mpr ⟨_, hz, rfl, rfl⟩
      obtain ⟨k, hk⟩ := List.getElem?_of_mem hm
      have hi : i < L.length := (List.getElem?_eq_some_iff.mp hz).1
      refine lv_iinc hx hb (hd.resolve_left (fun z => by cases z)) hl.1 hk (v := Int32.ofInt (z + n)) (by rw [Int32.ofInt_add]) (by rw [← hl.2.1]; exact hi) rfl (fun ls' hl' => ?_)
      exact nx (hn rfl) q.2 (ms_rl_set (v := mI (z + n)) hl.2.1 hl.2.2 hi q.1 hl') hst
    · exact q.elim
  case iadd =>
    replace q := i1_x q; obtain ⟨y, r, rfl, q⟩ := q
    replace q := i1_x q; obtain ⟨x, r, rfl, q⟩ := q
    replace hst := ms_vI hst; obtain ⟨hy, hst⟩ := hst
    replace hst := ms_vI hst; obtain ⟨hz, hst⟩ := hst
    refine lv_iadd hx hb (hd.resolve_left (fun z => by cases z)) ?_
    rw [← Int32.ofInt_add]
    exact nx (hn rfl) q.2 hl (ms_pI q.1 hst)
  case isub =>
    replace q := i1_x q; obtain ⟨y, r, rfl, q⟩ := q
    replace q := i1_x q; obtain ⟨x, r, rfl, q⟩ := q
    replace hst := ms_vI hst; obtain ⟨hy, hst⟩ := hst
    replace hst := ms_vI hst; obtain ⟨hz, hst⟩ := hst
    refine lv_isub hx hb (hd.resolve_left (fun z => by cases z)) ?_
    rw [← Int32.ofInt_sub]
    exact nx (hn rfl) q.2 hl (ms_pI q.1 hst)
  case imul =>
    replace q := i1_x q; obtain ⟨y, r, rfl, q⟩ := q
    replace q := i1_x q; obtain ⟨x, r, rfl, q⟩ := q
    replace hst := ms_vI hst; obtain ⟨hy, hst⟩ := hst
    replace hst := ms_vI hst; obtain ⟨hz, hst⟩ := hst
    refine lv_imul hx hb (hd.resolve_left (fun z => by cases z)) ?_
    rw [← Int32.ofInt_mul]
    exact nx (hn rfl) q.2 hl (ms_pI q.1 hst)
  case idiv =>
    replace q := i1_x q; obtain ⟨y, r, rfl, q⟩ := q
    replace q := i1_x q; obtain ⟨x, r, rfl, q⟩ := q
    replace hst := ms_vI hst; obtain ⟨hy, hst⟩ := hst
    replace hst := ms_vI hst; obtain ⟨hz, hst⟩ := hst
    refine lv_idiv hx hb (hd.resolve_left (fun z => by cases z)) (fun w => q.1 ((rg_inj hy rg_0).mp w)) ?_
    rw [rg_div hz hy q.2.1]
    exact nx (hn rfl) q.2.2 hl (ms_pI q.2.1 hst)
  case irem =>
    replace q := i1_x q; obtain ⟨y, r, rfl, q⟩ := q
    replace q := i1_x q; obtain ⟨x, r, rfl, q⟩ := q
    replace hst := ms_vI hst; obtain ⟨hy, hst⟩ := hst
    replace hst := ms_vI hst; obtain ⟨hz, hst⟩ := hst
    refine lv_irem hx hb (hd.resolve_left (fun z => by cases z)) (fun w => q.1 ((rg_inj hy rg_0).mp w)) ?_
    have e1 : Int32.ofInt x / Int32.ofInt y = Int32.ofInt (x.tdiv y) := by
      rw [← Int32.toInt_inj, Int32.toInt_div, rg_toInt hz, rg_toInt hy, Int32.toInt_ofInt]
    rw [e1, ← Int32.ofInt_mul, ← Int32.ofInt_sub, show x - x.tdiv y * y = x.tmod y by rw [Int.mul_comm]; have := Int.mul_tdiv_add_tmod x y; omega]
    exact nx (hn rfl) q.2 hl (ms_pI (rg_rem1 hz) hst)
  case ineg =>
    replace q := i1_x q; obtain ⟨x, r, rfl, q⟩ := q
    replace hst := ms_vI hst; obtain ⟨hz, hst⟩ := hst
    refine lv_ineg hx hb (hd.resolve_left (fun z => by cases z)) ?_
    rw [← Int32.ofInt_neg]
    exact nx (hn rfl) q.2 hl (ms_pI q.1 hst)
  case iand =>
    replace q := i1_x q; obtain ⟨y, r, rfl, q⟩ := q
    replace q := i1_x q; obtain ⟨x, r, rfl, q⟩ := q
    replace hst := ms_vI hst; obtain ⟨hy, hst⟩ := hst
    replace hst := ms_vI hst; obtain ⟨hz, hst⟩ := hst
    refine lv_iand hx hb (hd.resolve_left (fun z => by cases z)) ?_
    split at q
    · rename_i hy1
      subst hy1
      rw [show Int32.ofInt 1 = 1 from rfl, of_and1]
      exact nx (hn rfl) q hl (ms_pI (by unfold rg; omega) hst)
    · split at q
      · rename_i hy1
        subst hy1
        rw [show Int32.ofInt 31 = 31 from rfl, of_and31]
        exact nx (hn rfl) q hl (ms_pI (by unfold rg; omega) hst)
      · rw [of_and q.1 q.2.1]
        exact nx (hn rfl) q.2.2 hl (ms_pI (rg_and hz q.1) hst)
  case ishl =>
    replace q := i1_x q; obtain ⟨y, r, rfl, q⟩ := q
    replace q := i1_x q; obtain ⟨x, r, rfl, q⟩ := q
    replace hst := ms_vI hst; obtain ⟨hy, hst⟩ := hst
    replace hst := ms_vI hst; obtain ⟨hz, hst⟩ := hst
    refine lv_ishl hx hb (hd.resolve_left (fun z => by cases z)) ?_
    rw [of_shl q.2.2.1 q.1 q.2.1 q.2.2.2.1]
    exact nx (hn rfl) q.2.2.2.2 hl (ms_pI q.2.2.2.1 hst)
  case ishr =>
    replace q := i1_x q; obtain ⟨y, r, rfl, q⟩ := q
    replace q := i1_x q; obtain ⟨x, r, rfl, q⟩ := q
    replace hst := ms_vI hst; obtain ⟨hy, hst⟩ := hst
    replace hst := ms_vI hst; obtain ⟨hz, hst⟩ := hst
    refine lv_ishr hx hb (hd.resolve_left (fun z => by cases z)) ?_
    rw [of_shr hz q.2.2.1 q.1 q.2.1]
    exact nx (hn rfl) q.2.2.2 hl (ms_pI (rg_shr hz q.2.2.1) hst)
  case iushr =>
    replace q := i1_x q; obtain ⟨y, r, rfl, q⟩ := q
    replace q := i1_x q; obtain ⟨x, r, rfl, q⟩ := q
    replace hst := ms_vI hst; obtain ⟨hy, hst⟩ := hst
    replace hst := ms_vI hst; obtain ⟨hz, hst⟩ := hst
    refine lv_iushr hx hb (hd.resolve_left (fun z => by cases z)) (of_ushr hz q.2.2.1 q.1 q.2.1) ?_
    exact nx (hn rfl) q.2.2.2 hl (ms_pI (rg_shr hz q.2.2.1) hst)
  case dup =>
    replace q : o_dup (ms_RW p l e R s m args below meth c Qf D cA ex A S0 ad0 P M rest) L st G h := q
    unfold o_dup at q
    split at q
    · refine lv_dup hx hb (hd.resolve_left (fun z => by cases z)) rfl ?_
      exact nx (hn rfl) q hl (List.forall_mem_cons.mpr ⟨(List.forall_mem_cons.mp hst).1, hst⟩)
    · rename_i z r
      refine lv_dup hx hb (hd.resolve_left (fun z => by cases z)) (ms_c_cat rfl) ?_
      exact nx (hn rfl) q hl (List.forall_mem_cons.mpr ⟨(List.forall_mem_cons.mp hst).1, hst⟩)
    · exact q.elim
  case pop =>
    replace q := i1_x q; obtain ⟨x, r, rfl, q⟩ := q
    replace hst := ms_vI hst; obtain ⟨hz, hst⟩ := hst
    refine lv_pop hx hb (hd.resolve_left (fun z => by cases z)) rfl ?_
    exact nx (hn rfl) q hl hst
  case dup2 =>
    replace q := i1_x q; obtain ⟨y, r, rfl, q⟩ := q
    replace q := r1_x q; obtain ⟨x, r, rfl, q⟩ := q
    replace hst := ms_vI hst; obtain ⟨hy, hst⟩ := hst
    replace hst := ms_vR hst; obtain ⟨hz, hst⟩ := hst
    refine lv_dup2_11 hx hb (hd.resolve_left (fun z => by cases z)) rfl rfl ?_
    exact nx (hn rfl) q hl (ms_pI hy (ms_pR hz (ms_pI hy (ms_pR hz hst))))
  case ifCond q0 off =>
    simp only [ms_ckx, decide_eq_true_eq] at hckx
    replace q := i1_x q; obtain ⟨x, r, rfl, q⟩ := q
    replace hst := ms_vI hst; obtain ⟨hz, hst⟩ := hst
    have hd := hd.resolve_left (fun z => by cases z)
    cases q0
    · exact lv_if_eq hx hb hd hckx (fun u => jx (q.1 ((rg_inj hz rg_0).mp u)) hl hst) (fun u => nx (hn rfl) (q.2 (fun v => u ((rg_inj hz rg_0).mpr v))) hl hst)
    · exact lv_if_ne hx hb hd hckx (fun u => jx (q.1 (fun v => u ((rg_inj hz rg_0).mpr v))) hl hst) (fun u => nx (hn rfl) (q.2 ((rg_inj hz rg_0).mp u)) hl hst)
    · exact lv_if_lt hx hb hd hckx (fun u => jx (q.1 ((rg_lt hz rg_0).mp u)) hl hst) (fun u => nx (hn rfl) (q.2 (Int.not_lt.mp (fun v => u ((rg_lt hz rg_0).mpr v)))) hl hst)
    · exact lv_if_ge hx hb hd hckx (fun u => jx (q.1 ((rg_le rg_0 hz).mp u)) hl hst) (fun u => nx (hn rfl) (q.2 (Int.not_le.mp (fun v => u ((rg_le rg_0 hz).mpr v)))) hl hst)
    · exact lv_if_gt hx hb hd hckx (fun u => jx (q.1 ((rg_lt rg_0 hz).mp u)) hl hst) (fun u => nx (hn rfl) (q.2 (Int.not_lt.mp (fun v => u ((rg_lt rg_0 hz).mpr v)))) hl hst)
    · exact lv_if_le hx hb hd hckx (fun u => jx (q.1 ((rg_le hz rg_0).mp u)) hl hst) (fun u => nx (hn rfl) (q.2 (Int.not_le.mp (fun v => u ((rg_le hz rg_0).mpr v)))) hl hst)
  case if_icmp q0 off =>
    simp only [ms_ckx, decide_eq_true_eq] at hckx
    replace q := i1_x q; obtain ⟨y, r, rfl, q⟩ := q
    replace q := i1_x q; obtain ⟨x, r, rfl, q⟩ := q
    replace hst := ms_vI hst; obtain ⟨hy, hst⟩ := hst
    replace hst := ms_vI hst; obtain ⟨hz, hst⟩ := hst
    have hd := hd.resolve_left (fun z => by cases z)
    cases q0
    · exact lv_icmp_eq hx hb hd hckx (fun u => jx (q.1 ((rg_inj hz hy).mp u)) hl hst) (fun u => nx (hn rfl) (q.2 (fun v => u ((rg_inj hz hy).mpr v))) hl hst)
    · exact lv_icmp_ne hx hb hd hckx (fun u => jx (q.1 (fun v => u ((rg_inj hz hy).mpr v))) hl hst) (fun u => nx (hn rfl) (q.2 ((rg_inj hz hy).mp u)) hl hst)
    · exact lv_icmp_lt hx hb hd hckx (fun u => jx (q.1 ((rg_lt hz hy).mp u)) hl hst) (fun u => nx (hn rfl) (q.2 (Int.not_lt.mp (fun v => u ((rg_lt hz hy).mpr v)))) hl hst)
    · exact lv_icmp_ge hx hb hd hckx (fun u => jx (q.1 ((rg_le hy hz).mp u)) hl hst) (fun u => nx (hn rfl) (q.2 (Int.not_le.mp (fun v => u ((rg_le hy hz).mpr v)))) hl hst)
    · exact lv_icmp_gt hx hb hd hckx (fun u => jx (q.1 ((rg_lt hy hz).mp u)) hl hst) (fun u => nx (hn rfl) (q.2 (Int.not_lt.mp (fun v => u ((rg_lt hy hz).mpr v)))) hl hst)
    · exact lv_icmp_le hx hb hd hckx (fun u => jx (q.1 ((rg_le hz hy).mp u)) hl hst) (fun u => nx (hn rfl) (q.2 (Int.not_le.mp (fun v => u ((rg_le hz hy).mpr v)))) hl hst)
  case goto off =>
    simp only [ms_ckx, decide_eq_true_eq] at hckx
    exact lv_goto hx hb (hd.resolve_left (fun z => by cases z)) hckx (jx q hl hst)
  case nop =>
    simp only [ms_ckx, decide_eq_true_eq] at hckx
    have hckx : pc = B_pc (M_bl M a) := hckx
    rw [hckx]
    exact jx q hl hst
  case tableswitch dflt lo hi offs =>
    simp only [ms_ckx, Bool.and_eq_true, decide_eq_true_eq] at hckx
    obtain ⟨⟨h1, h2⟩, h3⟩ := hckx
    replace q := i1_x q; obtain ⟨x, r, rfl, q⟩ := q
    replace hst := ms_vI hst; obtain ⟨hz, hst⟩ := hst
    have hd := hd.resolve_left (fun z => by cases z)
    rcases cktab_x offs.toList t lo h3 q with ⟨h4, h5⟩ | ⟨h4, h5, off, tg, h6, h7, h8⟩
    · exact lv_tableOut hx hb hd (by rw [rg_toInt hz]; omega) h1 (jx h5 hl hst)
    · exact lv_tableIn hx hb hd (by rw [rg_toInt hz]; omega) (by rw [rg_toInt hz]; omega) (by rw [rg_toInt hz, ← Array.getElem?_toList]; exact h6) h7 (jx h8 hl hst)
  case lookupswitch dflt ps =>
    simp only [ms_ckx, Bool.and_eq_true, decide_eq_true_eq] at hckx
    obtain ⟨⟨h1, h2⟩, h3⟩ := hckx
    replace q := i1_x q; obtain ⟨x, r, rfl, q⟩ := q
    replace hst := ms_vI hst; obtain ⟨hz, hst⟩ := hst
    have hd := hd.resolve_left (fun z => by cases z)
    obtain ⟨off, tg, h6, h7, h8⟩ := cklk_x h1 ps.toList t h3 q
    exact lv_lookup hx hb hd h2 (by rw [rg_toInt hz]; exact h6) h7 (jx h8 hl hst)
  case lconst n =>
    simp only [ms_ckx, Bool.and_eq_true, decide_eq_true_eq] at hckx
    refine lv_lconst hx hb (hd.resolve_left (fun z => by cases z)) (v := Int64.ofInt c0) hckx.1 ?_
    exact nx (hn rfl) q hl (ms_pL (rgb_x hckx.2) hst)
  case ldc2_w i =>
    simp only [ms_ckx, Bool.and_eq_true] at hckx
    refine lv_ldc2 hx hb hown (hts _ (wd_in hckx.1)) (hd.resolve_left (fun z => by cases z)) ?_
    exact nx (hn rfl) q hl (ms_pL (rgb_x hckx.2) hst)
  case ladd =>
    replace q := l1_x q; obtain ⟨y, r, rfl, q⟩ := q
    replace q := l1_x q; obtain ⟨x, r, rfl, q⟩ := q
    replace hst := ms_vL hst; obtain ⟨hy, hst⟩ := hst
    replace hst := ms_vL hst; obtain ⟨hz, hst⟩ := hst
    refine lv_ladd hx hb (hd.resolve_left (fun z => by cases z)) ?_
    rw [← Int64.ofInt_add]
    exact nx (hn rfl) q.2 hl (ms_pL q.1 hst)
  case lcmp =>
    replace q := l1_x q; obtain ⟨y, r, rfl, q⟩ := q
    replace q := l1_x q; obtain ⟨x, r, rfl, q⟩ := q
    replace hst := ms_vL hst; obtain ⟨hy, hst⟩ := hst
    replace hst := ms_vL hst; obtain ⟨hz, hst⟩ := hst
    obtain ⟨rfl, q⟩ := q
    refine W.lcmp hx hb (hd.resolve_left (fun z => by cases z)) ?_
    have e1 : lg_cmp (Int64.ofInt x) (Int64.ofInt x) = Int32.ofInt 0 := by simp [lg_cmp]
    rw [e1]
    exact nx (hn rfl) q hl (ms_pI rg_0 hst)
  case ireturn =>
    replace q : o_iret (M_mc M) (M_ms M) b Q L st G h := q
    unfold o_iret at q
    split at q
    · rename_i z
      obtain ⟨hz, -⟩ := ms_vI hst
      refine (hfin pc ls ad G h H locs hr).1 z q.2.2.2 hz (hd.resolve_left (fun z => by cases z)) ?_
      simp only [ms_ckx] at hckx
      split at hckx
      · rename_i hrt; exact Or.inl hrt
      · rename_i hrt; exact Or.inr ⟨hrt, q.1 (by simpa using hckx)⟩
      · cases hckx
    · exact q.elim
  case lreturn =>
    replace q : o_lret (M_mc M) (M_ms M) Q L st G h := q
    unfold o_lret at q
    split at q
    · rename_i z
      obtain ⟨hz, -⟩ := ms_vL hst
      simp only [ms_ckx, decide_eq_true_eq] at hckx
      exact (hfin pc ls ad G h H locs hr).2.1 z q.2.2 hz (hd.resolve_left (fun z => by cases z)) hckx
    · exact q.elim
  case return_ =>
    replace q : o_vret (M_mc M) (M_ms M) Q L st G h := q
    unfold o_vret at q
    split at q
    · simp only [ms_ckx, decide_eq_true_eq] at hckx
      exact (hfin pc ls ad G h H locs hr).2.2 q.2.2 (hd.resolve_left (fun z => by cases z)) hckx
    · exact q.elim
  all_goals first | (cases hpl; done) | exact q.elim
end
end
section
/-! The walk: instructions on cells, and calls. -/
theorem wd_max : (wd 470 (.static Lib.Math.max.name) && wd 471 (.code Lib.Math.max.name Lib.Math.max.code 2 (some .int)) && wd 473 (.static Lib.Math.min.name) && wd 474 (.code Lib.Math.min.name Lib.Math.min.code 2 (some .int)) && wd 85 (.initialized "java/lang/Math") && wd 459 (.static arraycopyName) && wd 460 (.native arraycopyName) && wd 84 (.initialized "java/lang/System") && wd 93 (.instanceMethod Lib.objectInit) && wd 94 (.code Lib.objectInit ⟨#[0xb1]⟩ 1 none) && wd 130 (.arrayClass .int) && wd 289 (.arrayClass .boolean)) = true := by decide +kernel
theorem ms_dflt (ad : Nat → Nat) {ci : Nat} {q : vw_C} (h : ms_cls[ci]? = some q) (h0 : ms_H) (z : Int) (n : Nat) (hn : n = q.2.2) : ∀ j, j < q.2.2 → defaultValue (ms_ty ci j) = vp_V ((List.range n).map (fun k : Nat => ms_fv ad (ms_ft ci k) (ms_nw h0 z ci z k))) j := by
  intro j hj
  obtain ⟨hc, -, h2, -⟩ := ms_cls_ok h
  subst hn
  unfold vp_V
  rw [List.getD_eq_getElem?_getD, List.getElem?_map, List.getElem?_range hj]
  show _ = ms_fv ad (ms_ft ci j) (ms_nw h0 z ci z j)
  have h3 := h2 j hj
  have h4 := ms_nar h3
  by_cases a3 : ms_ft ci (j : Int) = 3
  · have e : ms_nw h0 z ci z j = -1 := by
      unfold ms_nw
      rw [if_pos rfl, if_pos (Or.inr ⟨by omega, a3⟩)]
    rw [e]
    unfold ms_fv
    rw [if_pos a3]
    rcases h4.2.2.2 a3 with ⟨C, e⟩ | ⟨C, e⟩ <;> rw [e] <;> rfl
  · have e : ms_nw h0 z ci z j = 0 := by
      unfold ms_nw
      rw [if_pos rfl, if_neg (fun z => by rcases z with z | z; exact absurd z (by omega); exact a3 z.2)]
    rw [e]
    unfold ms_fv
    rw [if_neg a3]
    by_cases a2 : ms_ft ci (j : Int) = 2
    · rw [if_pos a2, h4.2.2.1 a2]; rfl
    · rw [if_neg a2]
      have h5 : ms_ft ci (j : Int) = 0 ∨ ms_ft ci (j : Int) = 1 := by
        have : ∀ ci, ci < 6 → ∀ k, k < 37 → ms_ft ci ((k : Nat) : Int) < 4 := by decide +kernel
        have h6 : q.2.2 ≤ 37 := by
          have : ∀ ci, ci < 6 → ms_N ci ≤ 37 := by decide +kernel
          rw [(ms_cls_ok h).2.2.2.1]; exact this ci hc
        have h7 := this ci hc j (by omega)
        omega
      rcases h5 with h5 | h5
      · rw [h4.1 h5]; rfl
      · rw [h4.2.1 h5]; rfl
section
variable {p : Program} {l : Launch} {e : Env} {R : Room} {s : State} {m : MethodId} {args : Array Value} {below : List Frame} {meth : Method} {c : Code} {Qf : State → Prop}
variable {D : va_G} {cA : Nat → ClassId} {ex : Nat → Nat} {A : Nat → Prop} {S0 : ms_S} {ad0 : Nat → Nat} {P : List ms_M} {M : ms_M} {d0 : Nat} {O : ms_O} {X : ms_Z} {Q : ms_Q}
theorem ms_ckf_x {i : Nat} {c0 : Int} {a b d w : Nat} {t : List (Int × Nat)} (h : ms_ckf M i (c0, a, b, d, t, w) = true) : ∃ q : vw_C, ms_cls[a]? = some q ∧ 0 ≤ c0 ∧ c0.toNat < q.2.2 ∧ ms_ft a c0 = b ∧ Cond.fieldLink (M_nm M).cls i q.1 (q.2.1 c0.toNat).2.1 (q.2.1 c0.toNat).2.2.1 ∈ gw := by
  unfold ms_ckf at h
  simp only at h
  split at h
  · rename_i C T N hq
    simp only [Bool.and_eq_true, decide_eq_true_eq] at h
    exact ⟨(C, T, N), hq, h.1.1.1, h.1.1.2, h.1.2, wd_in h.2⟩
  · cases h
set_option maxHeartbeats 4000000 in
theorem ms_get (C : ms_cx p l e R s m args below meth c Qf D cA ex A S0 ad0 P M d0 O X Q) {i pc : Nat} {c0 : Int} {a b d w : Nat} {t : List (Int × Nat)} {rest : ms_B} {L st : List ms_V} {G : ms_G} {h : ms_H} {ad : Nat → Nat} {H : Heap} {locs : List Loc} {ls : Array Slot}
    (hck : ms_ckf M i (c0, a, b, d, t, w) = true) (hd : decode (M_by M) pc = .ok (.getfield i, 3)) (hrest : ms_ckB P M rest = true) (hpc : B_pc rest = pc + 3) (hr : ms_rh D cA A s S0 ad0 M ad G h H locs) (hl : ms_rl ad ex (M_ml M) G.1 L ls) (hst : ∀ v ∈ st, ms_vok G.1 v)
    (q : o_get c0 a b (ms_RW p l e R s m args below meth c Qf D cA ex A S0 ad0 P M rest) L st G h) : W p l e R s m args below meth c H locs G.2.1 G.2.2 Qf (F0 m pc ls (st.map (ms_c ad ex))) := by
  obtain ⟨hx, hb, hml, hown, hts, hK, hA, hini, hstat, ⟨hfr, hlo, hrc, hrs⟩, hos, hPk, hbl, hX, hfin⟩ := C
  obtain ⟨⟨CN, T, N⟩, hq1, hc0, hc1, hft, hlink⟩ := ms_ckf_x hck
  obtain ⟨k1, k2, k3, k4, k5, k6, k7⟩ := ms_cls_ok hq1
  replace q := r1_x q; obtain ⟨z, r, rfl, hob, q⟩ := q
  replace hst := ms_vR hst; obtain ⟨hz, hst⟩ := hst
  have hck0 : ((c0.toNat : Nat) : Int) = c0 := by omega
  have hws := ms_ws_at (ad := ad) (cA := cA) (h := h) hob
  rw [ms_obj_cell (by omega)] at hws
  have hv : ((List.range (ms_N a)).map (fun k : Nat => ms_fv ad (ms_ft a k) (h z k)))[c0.toNat]? = some (ms_fv ad (ms_ft a c0) (h z c0)) := by
    rw [List.getElem?_map, List.getElem?_range (by rw [← k4]; exact hc1)]
    show some (ms_fv ad (ms_ft a ((c0.toNat : Nat) : Int)) (h z ((c0.toNat : Nat) : Int))) = _
    rw [hck0]
  have key : ∀ v' : ms_V, ms_fv ad (ms_ft a c0) (h z c0) = ms_c ad ex v' → ms_vok G.1 v' → ms_RW p l e R s m args below meth c Qf D cA ex A S0 ad0 P M rest L (v' :: r) G h → W p l e R s m args below meth c H locs G.2.1 G.2.2 Qf (F0 m pc ls ((mR z :: r).map (ms_c ad ex))) := by
    intro v' e1 e2 q
    refine va_get (Ts := gw) hx hb hts k5 hown hK hr.1 z.toNat hws hq1 c0.toNat hc1 (hts _ hlink) (fun x hx => by rw [k2 _ hc1] at hx; exact hx) hv hd ?_
    rw [e1]
    have := q hrest ad H locs ls hr hl (List.forall_mem_cons.mpr ⟨e2, hst⟩)
    rw [hpc] at this
    exact this
  have hrg := hr.2.2.2.1.1 z c0
  split at q
  · rename_i hb3
    refine key (mR (h z c0)) ?_ ⟨hrg, q.1, hr.2.2.2.1.2 z c0 a (ms_N a) hob (Or.inr ⟨by omega, by rw [hft]; exact hb3⟩)⟩ q.2
    rw [hft, hb3]
    show va_rf (ms_rf ad (h z c0)) = .ref (ad (h z c0).toNat)
    unfold ms_rf
    rw [if_neg (by have := q.1; omega)]
    rfl
  · split at q
    · rename_i hb3 hb2
      refine key (mL (h z c0)) ?_ hrg q
      rw [hft, hb2]
      rfl
    · rename_i hb3 hb2
      refine key (mI (h z c0)) ?_ hrg q
      rw [hft]
      unfold ms_fv
      rw [if_neg hb3, if_neg hb2]
      rfl
set_option maxHeartbeats 4000000 in
theorem ms_putx (C : ms_cx p l e R s m args below meth c Qf D cA ex A S0 ad0 P M d0 O X Q) {i pc : Nat} {c0 z : Int} {a b d w : Nat} {t : List (Int × Nat)} {rest : ms_B} {L r : List ms_V} {G : ms_G} {h : ms_H} {ad : Nat → Nat} {H : Heap} {locs : List Loc} {ls : Array Slot} {v : Int} {v' : ms_V}
    (hck : ms_ckf M i (c0, a, b, d, t, w) = true) (hckw : ms_ckw M (c0, a, b, d, t, w) = true) (hd : decode (M_by M) pc = .ok (.putfield i, 3)) (hrest : ms_ckB P M rest = true) (hpc : B_pc rest = pc + 3) (hr : ms_rh D cA A s S0 ad0 M ad G h H locs) (hl : ms_rl ad ex (M_ml M) G.1 L ls) (hst : ∀ v ∈ r, ms_vok G.1 v)
    (hob : ms_ob G.1 z a) (hv : ms_fv ad b v = ms_c ad ex v') (hrg : rg v) (hrf : b = 3 → v < G.1.length) (hn : ∀ ty, ms_tc ty = b → narrow ty (ms_c ad ex v') = ms_c ad ex v' ∧ fits ty (ms_c ad ex v') = true)
    (q : ms_RW p l e R s m args below meth c Qf D cA ex A S0 ad0 P M rest L r G (hs h z c0 v)) : W p l e R s m args below meth c H locs G.2.1 G.2.2 Qf (F0 m pc ls (ms_c ad ex v' :: .ref (ad z.toNat) :: r.map (ms_c ad ex))) := by
  obtain ⟨hx, hb, hml, hown, hts, hK, hA, hini, hstat, ⟨hfr, hlo, hrc, hrs⟩, hos, hPk, hbl, hX, hfin⟩ := C
  obtain ⟨⟨CN, T, N⟩, hq1, hc0, hc1, hft, hlink⟩ := ms_ckf_x hck
  obtain ⟨k1, k2, k3, k4, k5, k6, k7⟩ := ms_cls_ok hq1
  have hck0 : ((c0.toNat : Nat) : Int) = c0 := by omega
  have hws := ms_ws_at (ad := ad) (cA := cA) (h := h) hob
  rw [ms_obj_cell (by omega)] at hws
  have htc : ms_tc (ms_ty a c0.toNat) = b := by
    have := k3 c0.toNat hc1
    rw [hck0] at this
    rw [this]; exact hft
  have hN := hn _ htc
  have hlen : c0.toNat < ((List.range (ms_N a)).map (fun k : Nat => ms_fv ad (ms_ft a k) (h z k))).length := by
    simp only [List.length_map, List.length_range]
    rw [← k4]; exact hc1
  have fin : ∀ (H1 : Heap) (locs1 : List Loc), va_P D ms_cls ((ms_ws ad cA G.1 h).set z.toNat (ad z.toNat, .inr (a, ((List.range (ms_N a)).map (fun k : Nat => ms_fv ad (ms_ft a k) (h z k))).set c0.toNat (ms_c ad ex v')))) H1 → va_D A ((ms_ws ad cA G.1 h).set z.toNat (ad z.toNat, .inr (a, ((List.range (ms_N a)).map (fun k : Nat => ms_fv ad (ms_ft a k) (h z k))).set c0.toNat (ms_c ad ex v')))) → va_S A s.heap H1 locs1 → W p l e R s m args below meth c H1 locs1 G.2.1 G.2.2 Qf (F0 m (pc + 3) ls (r.map (ms_c ad ex))) := by
    intro H1 locs1 hP1 hD1 hS1
    have e1 := ms_ws_put (ad := ad) (cA := cA) (h := h) (v := v) (k := c0.toNat) hob (by omega)
    rw [hck0, hft, hv] at e1
    rw [e1] at hP1 hD1
    have := q hrest ad H1 locs1 ls ⟨hP1, hD1, hS1, hok_set hr.2.2.2.1 hrg (fun kd n hs1 hi => hrf ?_), hr.2.2.2.2⟩ hl hst
    · rw [hpc] at this
      exact this
    · have hs2 : ms_sh G.1 z = some (a, ms_N a) := hob
      rw [hs2] at hs1
      cases hs1
      rcases hi with hi | hi
      · omega
      · rw [← hft]; exact hi.2
  unfold ms_ckw at hckw
  dsimp only at hckw
  rw [hq1] at hckw
  simp only [Bool.or_eq_true, Bool.and_eq_true, decide_eq_true_eq] at hckw
  rcases hckw with hf | ⟨⟨hf1, hf2⟩, hf3⟩
  · exact va_put (Ts := gw) hx hb hts k5 (ms_ty a) k6 k7 hown hK hr.1 hr.2.1 hr.2.2.1 z.toNat hws hq1 c0.toNat hc1 (hts _ hlink) (fun x hx => by rw [k2 _ hc1] at hx; exact hx) hf (k6 _ hc1) hN.1 hN.2 hlen hd fin
  · by_cases hf : (T c0.toNat).2.2.2 = false
    · exact va_put (Ts := gw) hx hb hts k5 (ms_ty a) k6 k7 hown hK hr.1 hr.2.1 hr.2.2.1 z.toNat hws hq1 c0.toNat hc1 (hts _ hlink) (fun x hx => by rw [k2 _ hc1] at hx; exact hx) hf (k6 _ hc1) hN.1 hN.2 hlen hd fin
    · have hf' : (T c0.toNat).2.2.2 = true := by
        cases hh : (T c0.toNat).2.2.2
        · exact absurd hh hf
        · rfl
      exact va_putF (Ts := gw) hx hb hts k5 (ms_ty a) k6 k7 hown hK hr.1 hr.2.1 hr.2.2.1 z.toNat hws hq1 c0.toNat hc1 (hts _ hlink) (fun x hx => by rw [k2 _ hc1] at hx; exact hx) hf' (hini hf1) (by rw [k2 _ hc1]; exact hf2) (k6 _ hc1) hN.1 hN.2 hlen hd fin
theorem ms_nf_int {b : Nat} (hb : b = 0) (z : Int) : ∀ ty, ms_tc ty = b → narrow ty (.int (Int32.ofInt z)) = .int (Int32.ofInt z) ∧ fits ty (.int (Int32.ofInt z)) = true := by
  intro ty h
  rw [(ms_nar h).1 hb]
  exact ⟨rfl, rfl⟩
theorem ms_nf_bool {b : Nat} (hb : b = 1) {z : Int} (hz : z = 0 ∨ z = 1) : ∀ ty, ms_tc ty = b → narrow ty (.int (Int32.ofInt z)) = .int (Int32.ofInt z) ∧ fits ty (.int (Int32.ofInt z)) = true := by
  intro ty h
  rw [(ms_nar h).2.1 hb]
  rcases hz with rfl | rfl <;> decide
theorem ms_nf_long {b : Nat} (hb : b = 2) (z : Int) : ∀ ty, ms_tc ty = b → narrow ty (.long (Int64.ofInt z)) = .long (Int64.ofInt z) ∧ fits ty (.long (Int64.ofInt z)) = true := by
  intro ty h
  rw [(ms_nar h).2.2.1 hb]
  exact ⟨rfl, rfl⟩
theorem ms_nf_ref {b : Nat} (hb : b = 3) (z : Nat) : ∀ ty, ms_tc ty = b → narrow ty (.ref z) = .ref z ∧ fits ty (.ref z) = true := by
  intro ty h
  rcases (ms_nar h).2.2.2 hb with ⟨C, rfl⟩ | ⟨C, rfl⟩ <;> exact ⟨rfl, rfl⟩
set_option maxHeartbeats 4000000 in
theorem ms_put (C : ms_cx p l e R s m args below meth c Qf D cA ex A S0 ad0 P M d0 O X Q) {i pc : Nat} {c0 : Int} {a b d w : Nat} {t : List (Int × Nat)} {rest : ms_B} {L st : List ms_V} {G : ms_G} {h : ms_H} {ad : Nat → Nat} {H : Heap} {locs : List Loc} {ls : Array Slot}
    (hck : ms_ckf M i (c0, a, b, d, t, w) = true) (hckw : ms_ckw M (c0, a, b, d, t, w) = true) (hd : decode (M_by M) pc = .ok (.putfield i, 3)) (hrest : ms_ckB P M rest = true) (hpc : B_pc rest = pc + 3) (hr : ms_rh D cA A s S0 ad0 M ad G h H locs) (hl : ms_rl ad ex (M_ml M) G.1 L ls) (hst : ∀ v ∈ st, ms_vok G.1 v)
    (q : o_put c0 a b (ms_RW p l e R s m args below meth c Qf D cA ex A S0 ad0 P M rest) L st G h) : W p l e R s m args below meth c H locs G.2.1 G.2.2 Qf (F0 m pc ls (st.map (ms_c ad ex))) := by
  have h4 : b < 4 := by
    obtain ⟨⟨CN, T, N⟩, hq1, hc0, hc1, hft, hlink⟩ := ms_ckf_x hck
    have : ∀ ci, ci < 6 → ∀ k, k < 37 → ms_ft ci ((k : Nat) : Int) < 4 := by decide +kernel
    have h6 : N ≤ 37 := by
      have : ∀ ci, ci < 6 → ms_N ci ≤ 37 := by decide +kernel
      have := this a (ms_cls_ok hq1).1
      have h9 := (ms_cls_ok hq1).2.2.2.1
      simp only at h9
      omega
    have h7 := this a (ms_cls_ok hq1).1 c0.toNat (by simp only at hc1; omega)
    rw [show ((c0.toNat : Nat) : Int) = c0 by omega, hft] at h7
    exact h7
  unfold o_put at q
  split at q
  · rename_i hb3
    replace q := r1_x q; obtain ⟨v, r, rfl, q⟩ := q
    replace q := r1_x q; obtain ⟨z, r, rfl, q⟩ := q
    replace hst := ms_vR hst; obtain ⟨hv, hst⟩ := hst
    replace hst := ms_vR hst; obtain ⟨hz, hst⟩ := hst
    refine ms_putx C (v := v) (v' := mR v) hck hckw hd hrest hpc hr hl hst q.1 ?_ hv.1 (fun _ => hv.2.2) (ms_nf_ref hb3 _) q.2
    rw [hb3]
    show va_rf (ms_rf ad v) = .ref (ad v.toNat)
    unfold ms_rf
    rw [if_neg (by omega)]
    rfl
  · split at q
    · rename_i hb3 hb2
      replace q := l1_x q; obtain ⟨v, r, rfl, q⟩ := q
      replace q := r1_x q; obtain ⟨z, r, rfl, q⟩ := q
      replace hst := ms_vL hst; obtain ⟨hv, hst⟩ := hst
      replace hst := ms_vR hst; obtain ⟨hz, hst⟩ := hst
      exact ms_putx C (v := v) (v' := mL v) hck hckw hd hrest hpc hr hl hst q.1 (by rw [hb2]; rfl) hv (fun z => absurd z hb3) (ms_nf_long hb2 _) q.2
    · split at q
      · rename_i hb3 hb2 hb1
        replace q := i1_x q; obtain ⟨v, r, rfl, q⟩ := q
        replace q := r1_x q; obtain ⟨z, r, rfl, q⟩ := q
        replace hst := ms_vI hst; obtain ⟨hv, hst⟩ := hst
        replace hst := ms_vR hst; obtain ⟨hz, hst⟩ := hst
        exact ms_putx C (v := v) (v' := mI v) hck hckw hd hrest hpc hr hl hst q.1 (by rw [hb1]; rfl) hv (fun z => absurd z hb3) (ms_nf_bool hb1 q.2.1) q.2.2
      · rename_i hb3 hb2 hb1
        replace q := i1_x q; obtain ⟨v, r, rfl, q⟩ := q
        replace q := r1_x q; obtain ⟨z, r, rfl, q⟩ := q
        replace hst := ms_vI hst; obtain ⟨hv, hst⟩ := hst
        replace hst := ms_vR hst; obtain ⟨hz, hst⟩ := hst
        have hb0 : b = 0 := by omega
        exact ms_putx C (v := v) (v' := mI v) hck hckw hd hrest hpc hr hl hst q.1 (by rw [hb0]; rfl) hv (fun z => absurd z hb3) (ms_nf_int hb0 _) q.2
end
end
section
/-! The walk: arrays, cells that are made. -/
section
variable {p : Program} {l : Launch} {e : Env} {R : Room} {s : State} {m : MethodId} {args : Array Value} {below : List Frame} {meth : Method} {c : Code} {Qf : State → Prop}
variable {D : va_G} {cA : Nat → ClassId} {ex : Nat → Nat} {A : Nat → Prop} {S0 : ms_S} {ad0 : Nat → Nat} {P : List ms_M} {M : ms_M} {d0 : Nat} {O : ms_O} {X : ms_Z} {Q : ms_Q}
theorem ms_intu (n : Nat) (hn : n < 2 ^ 31) : rg (n : Int) := by
  unfold rg
  omega
theorem ms_tn {i : Int} (h : 0 ≤ i) : ((i.toNat : Nat) : Int) = i := Int.toNat_of_nonneg h
set_option maxHeartbeats 4000000 in
theorem ms_arr (C : ms_cx p l e R s m args below meth c Qf D cA ex A S0 ad0 P M d0 O X Q) {pc : Nat} {raw : Instr} {x : ms_X} {rest : ms_B} {L st : List ms_V} {G : ms_G} {h : ms_H} {ad : Nat → Nat} {H : Heap} {locs : List Loc} {ls : Array Slot}
    (hraw : raw = .iaload ∨ raw = .iastore ∨ raw = .baload ∨ raw = .bastore ∨ raw = .aaload ∨ raw = .aastore ∨ raw = .arraylength) (hd : decode (M_by M) pc = .ok (raw, 1)) (hrest : ms_ckB P M rest = true) (hpc : B_pc rest = pc + 1) (hr : ms_rh D cA A s S0 ad0 M ad G h H locs) (hl : ms_rl ad ex (M_ml M) G.1 L ls) (hst : ∀ v ∈ st, ms_vok G.1 v)
    (q : ms_ex O X (M_mc M) (M_ms M) Q (fun t => ms_RW p l e R s m args below meth c Qf D cA ex A S0 ad0 P M (M_bl M t)) (ms_RW p l e R s m args below meth c Qf D cA ex A S0 ad0 P M rest) raw x L st G h) : W p l e R s m args below meth c H locs G.2.1 G.2.2 Qf (F0 m pc ls (st.map (ms_c ad ex))) := by
  obtain ⟨hx, hb, hml, hown, hts, hK, hA, hini, hstat, ⟨hfr, hlo, hrc, hrs⟩, hos, hPk, hbl, hX, hfin⟩ := C
  obtain ⟨c0, a, b, d, t, w⟩ := x
  have nx : ∀ {st' : List ms_V} {h' : ms_H} {H' : Heap} {locs' : List Loc}, ms_RW p l e R s m args below meth c Qf D cA ex A S0 ad0 P M rest L st' G h' → ms_rh D cA A s S0 ad0 M ad G h' H' locs' → (∀ v ∈ st', ms_vok G.1 v) → W p l e R s m args below meth c H' locs' G.2.1 G.2.2 Qf (F0 m (pc + 1) ls (st'.map (ms_c ad ex))) := by
    intro st' h' H' locs' hq h1 h3
    have := hq hrest ad H' locs' ls h1 hl h3
    rw [hpc] at this
    exact this
  rcases hraw with rfl | rfl | rfl | rfl | rfl | rfl | rfl
  · -- iaload
    replace q := i1_x q; obtain ⟨i, r, rfl, q⟩ := q
    replace hst := ms_vI hst; obtain ⟨hi, hst⟩ := hst
    split at q
    · rename_i z r
      obtain ⟨n, hsh, h0, h1, q⟩ := q
      have hws := ms_ws_at (ad := ad) (cA := cA) (h := h) hsh
      rw [ms_int_cell] at hws
      refine va_iald hx hb hK hr.1 z.toNat 0 hws rfl (rg_in hi h0 h1) hd ?_
      rw [rg_cl hi, ms_tn h0]
      exact nx q hr (ms_pI (hr.2.2.2.1.1 z i) (List.forall_mem_cons.mp hst).2)
    · rename_i n r
      obtain ⟨x, hx1, h0, h1, q⟩ := q
      obtain ⟨k1, k2, k3⟩ := hX n x hx1
      refine va_ti hx hb k1 hr.2.2.1 (rg_in hi h0 h1) rfl hd ?_
      rw [rg_cl hi, ms_tn h0]
      exact nx q hr (ms_pI (k3 i h0 h1) (List.forall_mem_cons.mp hst).2)
    · exact q.elim
  · -- iastore
    replace q := i1_x q; obtain ⟨v, r, rfl, q⟩ := q
    replace q := i1_x q; obtain ⟨i, r, rfl, q⟩ := q
    replace q := r1_x q; obtain ⟨z, r, rfl, q⟩ := q
    replace hst := ms_vI hst; obtain ⟨hv, hst⟩ := hst
    replace hst := ms_vI hst; obtain ⟨hi, hst⟩ := hst
    replace hst := ms_vR hst; obtain ⟨hz, hst⟩ := hst
    obtain ⟨n, hsh, h0, h1, q⟩ := q
    have hws := ms_ws_at (ad := ad) (cA := cA) (h := h) hsh
    rw [ms_int_cell] at hws
    refine va_iast hx hb hK hr.1 hr.2.1 hr.2.2.1 z.toNat 0 hws rfl (rg_in hi h0 h1) hd (fun H1 locs1 hP1 hD1 hS1 => ?_)
    rw [rg_cl hi, ms_ws_int hsh h0] at hP1 hD1
    refine nx q ⟨hP1, hD1, hS1, hok_set hr.2.2.2.1 hv (fun kd n hs1 hi2 => ?_), hr.2.2.2.2⟩ hst
    rw [hsh] at hs1
    cases hs1
    rcases hi2 with hi2 | hi2
    · cases hi2
    · exact absurd hi2.1 (by decide)
  · -- baload
    replace q := i1_x q; obtain ⟨i, r, rfl, q⟩ := q
    replace q := r1_x q; obtain ⟨z, r, rfl, q⟩ := q
    replace hst := ms_vI hst; obtain ⟨hi, hst⟩ := hst
    replace hst := ms_vR hst; obtain ⟨hz, hst⟩ := hst
    obtain ⟨n, hsh, h0, h1, q⟩ := q
    have hws := ms_ws_at (ad := ad) (cA := cA) (h := h) hsh
    rw [ms_bool_cell] at hws
    refine va_zald hx hb hK hr.1 z.toNat 1 hws rfl (rg_in hi h0 h1) hd ?_
    rw [rg_cl hi, ms_tn h0]
    exact nx q hr (ms_pI (hr.2.2.2.1.1 z i) hst)
  · -- bastore
    replace q := i1_x q; obtain ⟨v, r, rfl, q⟩ := q
    replace q := i1_x q; obtain ⟨i, r, rfl, q⟩ := q
    replace q := r1_x q; obtain ⟨z, r, rfl, q⟩ := q
    replace hst := ms_vI hst; obtain ⟨hv, hst⟩ := hst
    replace hst := ms_vI hst; obtain ⟨hi, hst⟩ := hst
    replace hst := ms_vR hst; obtain ⟨hz, hst⟩ := hst
    obtain ⟨hv01, n, hsh, h0, h1, q⟩ := q
    have hws := ms_ws_at (ad := ad) (cA := cA) (h := h) hsh
    rw [ms_bool_cell] at hws
    have hnar : vp_nar .boolean (Int32.ofInt v) = Int32.ofInt v := by
      rcases hv01 with rfl | rfl <;> rfl
    refine va_zast hx hb hK hr.1 hr.2.1 hr.2.2.1 z.toNat 1 hws rfl (rg_in hi h0 h1) hd (fun H1 locs1 hP1 hD1 hS1 => ?_)
    rw [hnar, rg_cl hi, ms_ws_bool hsh h0] at hP1 hD1
    refine nx q ⟨hP1, hD1, hS1, hok_set hr.2.2.2.1 hv (fun kd n hs1 hi2 => ?_), hr.2.2.2.2⟩ hst
    rw [hsh] at hs1
    cases hs1
    rcases hi2 with hi2 | hi2
    · cases hi2
    · exact absurd hi2.1 (by decide)
  · -- aaload
    replace q := i1_x q; obtain ⟨i, r, rfl, q⟩ := q
    replace q := r1_x q; obtain ⟨z, r, rfl, q⟩ := q
    replace hst := ms_vI hst; obtain ⟨hi, hst⟩ := hst
    replace hst := ms_vR hst; obtain ⟨hz, hst⟩ := hst
    obtain ⟨n, hsh, h0, h1, q0, q⟩ := q
    have hws := ms_ws_at (ad := ad) (cA := cA) (h := h) hsh
    rw [ms_ref_cell] at hws
    refine va_aldq hx hb hK hr.1 z.toNat 2 hws rfl (rg_in hi h0 h1) hd ?_
    rw [rg_cl hi, ms_tn h0]
    have e1 : va_rf (ms_rf ad (h z i)) = .ref (ad (h z i).toNat) := by
      unfold ms_rf
      rw [if_neg (by omega)]
      rfl
    rw [e1]
    exact nx q hr (ms_pR ⟨hr.2.2.2.1.1 z i, q0, hr.2.2.2.1.2 z i 12 n hsh (Or.inl rfl)⟩ hst)
  · -- aastore
    replace q := r1_x q; obtain ⟨v, r, rfl, q⟩ := q
    replace q := i1_x q; obtain ⟨i, r, rfl, q⟩ := q
    replace q := r1_x q; obtain ⟨z, r, rfl, q⟩ := q
    replace hst := ms_vR hst; obtain ⟨hv, hst⟩ := hst
    replace hst := ms_vI hst; obtain ⟨hi, hst⟩ := hst
    replace hst := ms_vR hst; obtain ⟨hz, hst⟩ := hst
    obtain ⟨hob, n, hsh, h0, h1, q⟩ := q
    have hws := ms_ws_at (ad := ad) (cA := cA) (h := h) hsh
    rw [ms_ref_cell] at hws
    have hwv := ms_ws_at (ad := ad) (cA := cA) (h := h) hob
    rw [ms_obj_cell (by decide)] at hwv
    refine va_astq hx hb hK hr.1 hr.2.1 hr.2.2.1 z.toNat 2 v.toNat 1 (r := (RX1, TX1, 7)) hws rfl hwv rfl (rg_in hi h0 h1) hd (fun H1 locs1 hP1 hD1 hS1 => ?_)
    rw [rg_cl hi, ms_ws_ref hsh h0 hv.2.1] at hP1 hD1
    exact nx q ⟨hP1, hD1, hS1, hok_set hr.2.2.2.1 hv.1 (fun kd n hs1 hi2 => hv.2.2), hr.2.2.2.2⟩ hst
  · -- arraylength
    replace q : o_len X (ms_RW p l e R s m args below meth c Qf D cA ex A S0 ad0 P M rest) L st G h := q
    unfold o_len at q
    split at q
    · rename_i n r
      obtain ⟨x, hx1, q⟩ := q
      obtain ⟨k1, k2, k3⟩ := hX n x hx1
      refine va_tlen hx hb k1 hr.2.2.1 (v := Int32.ofInt (x.1 : Int)) (by rw [Int32.ofInt_eq_ofNat]) hd ?_
      exact nx q hr (ms_pI (ms_intu _ k2) (List.forall_mem_cons.mp hst).2)
    · exact q.elim
theorem ms_gets (C : ms_cx p l e R s m args below meth c Qf D cA ex A S0 ad0 P M d0 O X Q) {i pc : Nat} {rest : ms_B} {L st : List ms_V} {G : ms_G} {h : ms_H} {ad : Nat → Nat} {H : Heap} {locs : List Loc} {ls : Array Slot}
    (hck : Cond.fieldLink (M_nm M).cls i "SleetLine" "ORDERS" "[I" ∈ gw) (hd : decode (M_by M) pc = .ok (.getstatic i, 3)) (hrest : ms_ckB P M rest = true) (hpc : B_pc rest = pc + 3) (hr : ms_rh D cA A s S0 ad0 M ad G h H locs) (hl : ms_rl ad ex (M_ml M) G.1 L ls) (hst : ∀ v ∈ st, ms_vok G.1 v)
    (q : ms_RW p l e R s m args below meth c Qf D cA ex A S0 ad0 P M rest L (mE 1 :: st) G h) : W p l e R s m args below meth c H locs G.2.1 G.2.2 Qf (F0 m pc ls (st.map (ms_c ad ex))) := by
  obtain ⟨hx, hb, hml, hown, hts, hK, hA, hini, hstat, ⟨hfr, hlo, hrc, hrs⟩, hos, hPk, hbl, hX, hfin⟩ := C
  refine va_gets hx hb hstat.1 hr.2.2.1 hown (hts _ hck) (fun x hx => hx) hd ?_
  have := q hrest ad H locs ls hr hl (List.forall_mem_cons.mpr ⟨trivial, hst⟩)
  rw [hpc] at this
  exact this
set_option maxHeartbeats 4000000 in
/-- behind a cell that was made -/
theorem ms_made {k pc : Nat} {rest : ms_B} {L r : List ms_V} {G : ms_G} {h : ms_H} {ad : Nat → Nat} {H H1 : Heap} {locs : List Loc} {ls : Array Slot} {q0 : Nat × Nat} {qa n : Nat} {e0 : va_E}
    (hrest : ms_ckB P M rest = true) (hpc : B_pc rest = pc + k) (hr : ms_rh D cA A s S0 ad0 M ad G h H locs) (hl : ms_rl ad ex (M_ml M) G.1 L ls) (hst : ∀ v ∈ r, ms_vok G.1 v) (hm1 : G.2.1 + 1 ≤ M_mc M) (hm2 : G.2.2 + n ≤ M_ms M) (hlen : G.1.length < 1000)
    (he : ms_cell (ms_ad ad G.1.length qa) cA q0 (ms_nw h G.1.length q0.1 G.1.length) = e0) (hP1 : va_P D ms_cls (ms_ws ad cA G.1 h ++ [(qa, e0)]) H1) (hD1 : va_D A (ms_ws ad cA G.1 h ++ [(qa, e0)])) (hS1 : va_S A s.heap H1 locs)
    (q : ms_RW p l e R s m args below meth c Qf D cA ex A S0 ad0 P M rest L (mR G.1.length :: r) (G.1 ++ [q0], G.2.1 + 1, G.2.2 + n) (ms_nw h G.1.length q0.1)) : W p l e R s m args below meth c H1 locs (G.2.1 + 1) (G.2.2 + n) Qf (F0 m (pc + k) ls (.ref qa :: r.map (ms_c ad ex))) := by
  obtain ⟨hP, hD, hS, hh, hg, he1, he2⟩ := hr
  have ea := ms_ws_push (ad := ad) (cA := cA) (a := qa) hh he
  rw [ea] at hP1 hD1
  have hext : ∀ j, j < G.1.length → ms_ad ad G.1.length qa j = ad j := fun j hj => ms_ad_lt hj
  have hle : G.1.length ≤ (G.1 ++ [q0]).length := by rw [List.length_append]; omega
  have hr' : ms_rh D cA A s S0 ad0 M (ms_ad ad G.1.length qa) (G.1 ++ [q0], G.2.1 + 1, G.2.2 + n) (ms_nw h G.1.length q0.1) H1 locs :=
    ⟨hP1, hD1, hS1, hok_new hh, ⟨hm1, hm2⟩, Nat.le_trans he1 hle, fun j hj => by rw [hext j (Nat.lt_of_lt_of_le hj he1)]; exact he2 j hj⟩
  have hl' : ms_rl (ms_ad ad G.1.length qa) ex (M_ml M) (G.1 ++ [q0]) L ls := ⟨by rw [lvl_ext hext hl.2.2]; exact hl.1, hl.2.1, fun v hv => ms_vok_mono hle (hl.2.2 v hv)⟩
  have hst' : ∀ v ∈ (mR G.1.length :: r : List ms_V), ms_vok (G.1 ++ [q0]) v := by
    refine ms_pR ⟨?_, ?_, ?_⟩ (fun v hv => ms_vok_mono hle (hst v hv))
    · unfold rg; omega
    · omega
    · rw [List.length_append]; simp; omega
  have := q hrest _ H1 locs ls hr' hl' hst'
  rw [hpc] at this
  rw [← ms_c_exts hext hst]
  have e2 : ms_c (ms_ad ad G.1.length qa) ex (mR G.1.length) = .ref qa := by
    show Value.ref (ms_ad ad G.1.length qa ((G.1.length : Nat) : Int).toNat) = _
    rw [show ((G.1.length : Nat) : Int).toNat = G.1.length from Int.toNat_natCast _, ms_ad_self]
  rw [List.map_cons, e2] at this
  exact this
theorem ms_RA {U : State} {a b : ClassId} {ty : FieldType} (h1 : va_RA U a ty) (h2 : va_RA U b ty) : a = b := by
  cases ty
  case object C =>
    obtain ⟨_, _, _, _, _, h3⟩ := h1
    obtain ⟨_, _, _, _, _, h4⟩ := h2
    exact Option.some.inj (h3.symm.trans h4)
  all_goals exact Option.some.inj (Eq.trans (Eq.symm h1) h2)
set_option maxHeartbeats 4000000 in
theorem ms_alloc (C : ms_cx p l e R s m args below meth c Qf D cA ex A S0 ad0 P M d0 O X Q) {pc : Nat} {raw : Instr} {x : ms_X} {rest : ms_B} {L st : List ms_V} {G : ms_G} {h : ms_H} {ad : Nat → Nat} {H : Heap} {locs : List Loc} {ls : Array Slot}
    (hraw : (∃ i, raw = .new i) ∨ (∃ i, raw = .newarray i) ∨ (∃ i, raw = .anewarray i)) (hck : ms_ckx P M pc raw x = true) (hd : decode (M_by M) pc = .ok (raw, ms_ln raw 0)) (hrest : ms_ckB P M rest = true) (hpc : B_pc rest = pc + ms_ln raw 0) (hr : ms_rh D cA A s S0 ad0 M ad G h H locs) (hl : ms_rl ad ex (M_ml M) G.1 L ls) (hst : ∀ v ∈ st, ms_vok G.1 v)
    (q : ms_ex O X (M_mc M) (M_ms M) Q (fun t => ms_RW p l e R s m args below meth c Qf D cA ex A S0 ad0 P M (M_bl M t)) (ms_RW p l e R s m args below meth c Qf D cA ex A S0 ad0 P M rest) raw x L st G h) : W p l e R s m args below meth c H locs G.2.1 G.2.2 Qf (F0 m pc ls (st.map (ms_c ad ex))) := by
  obtain ⟨hx, hb, hml, hown, hts, hK, hA, hini, hstat, ⟨hfr, hlo, hrc, hrs⟩, hos, hPk, hbl, hX, hfin⟩ := C
  obtain ⟨c0, a, b, d, t, w⟩ := x
  rcases hraw with ⟨i, rfl⟩ | ⟨i, rfl⟩ | ⟨i, rfl⟩
  · simp only [ms_ckx] at hck
    split at hck
    · rename_i CN T N hq
      simp only [Bool.and_eq_true] at hck
      obtain ⟨⟨w1, w2⟩, w3⟩ := hck
      obtain ⟨k1, k2, k3, k4, k5, k6, k7⟩ := ms_cls_ok hq
      obtain ⟨hlen, q1, q2, q3⟩ := q
      have k4' : N = ms_N a := k4
      refine va_new (Ts := gw) (cl := ms_cls) (fs := (List.range (ms_N a)).map (fun k : Nat => ms_fv ad (ms_ft a k) (ms_nw h G.1.length a G.1.length k))) hx hb hts k5 (ms_ty a) k6 hown (hts _ (wd_in w1)) (hts _ (wd_in w2)) (hts _ (wd_in w3)) hK hr.1 hr.2.1 hr.2.2.1 hA hq (ms_dflt ad hq h _ _ k4'.symm) (by omega) (by show G.2.2 + N ≤ R.slots; omega) hd (fun qa H1 hP1 hD1 hS1 => ?_)
      rw [k4']
      refine ms_made (k := 3) (q0 := (a, ms_N a)) hrest hpc hr hl hst q1 q2 hlen ?_ hP1 hD1 hS1 q3
      have e1 : ms_cell (ms_ad ad G.1.length qa) cA (a, ms_N a) (ms_nw h G.1.length a G.1.length) = ms_cell ad cA (a, ms_N a) (ms_nw h G.1.length a G.1.length) := by
        refine ms_cell_ext (S := G.1) (fun j hj => ms_ad_lt hj) (fun b hb => ?_)
        unfold ms_nw
        have hb2 : a = 12 ∨ (a < 10 ∧ ms_ft a b = 3) := hb
        rw [if_pos rfl, if_pos hb2]
        omega
      rw [e1, ms_obj_cell (by omega)]
    · cases hck
  · simp only [ms_ckx] at hck
    replace q := i1_x q; obtain ⟨n, r, rfl, q⟩ := q
    replace hst := ms_vI hst; obtain ⟨hn, hst⟩ := hst
    obtain ⟨q0, ⟨q1, hlen⟩, q2, q3, q⟩ := q
    have hnn : ¬ Int32.ofInt n < 0 := fun z => by have := (rg_lt hn rg_0).mp z; omega
    have w12 := wd_max
    simp only [Bool.and_eq_true] at w12
    cases i
    case int =>
      simp only [decide_eq_true_eq] at hck
      subst hck
      refine va_newa (atype := .int) (a0 := (n.toNat, .inl (fun _ => 0))) hx hb (hts _ (wd_in w12.1.2)) rfl hK hr.1 hr.2.1 hr.2.2.1 hA (fun _ => rfl) hnn (rg_cl hn) (by show n.toNat * 4 ≤ 536870912; omega) (by omega) (by omega) hd (fun qa cB H1 hK1 hP1 hD1 hS1 => ?_)
      have hcB : cB = cA 0 := ms_RA (hK1.2 3 (cB, .int) rfl).2 (hK.2 0 (cA 0, .int) rfl).2
      subst hcB
      refine ms_made (k := 2) (q0 := (10, n.toNat)) hrest hpc hr hl hst q2 q3 hlen ?_ hP1 hD1 hS1 q
      rw [ms_int_cell]
      congr 3
      apply congrArg Sum.inl
      funext j
      unfold ms_nw
      rw [if_pos rfl, if_neg (fun z => by simp at z)]
      rfl
    case boolean =>
      simp only [decide_eq_true_eq] at hck
      subst hck
      refine va_newa (atype := .boolean) (a0 := (n.toNat, .inl (fun _ => 0))) hx hb (hts _ (wd_in w12.2)) rfl hK hr.1 hr.2.1 hr.2.2.1 hA (fun _ => rfl) hnn (rg_cl hn) (by show n.toNat * 1 ≤ 536870912; omega) (by omega) (by omega) hd (fun qa cB H1 hK1 hP1 hD1 hS1 => ?_)
      have hcB : cB = cA 1 := ms_RA (hK1.2 3 (cB, .boolean) rfl).2 (hK.2 1 (cA 1, .boolean) rfl).2
      subst hcB
      refine ms_made (k := 2) (q0 := (11, n.toNat)) hrest hpc hr hl hst q2 q3 hlen ?_ hP1 hD1 hS1 q
      rw [ms_bool_cell]
      congr 3
      apply congrArg Sum.inl
      funext j
      unfold ms_nw
      rw [if_pos rfl, if_neg (fun z => by simp at z)]
      rfl
    all_goals cases hck
  · simp only [ms_ckx, Bool.and_eq_true, decide_eq_true_eq] at hck
    replace q := i1_x q; obtain ⟨n, r, rfl, q⟩ := q
    replace hst := ms_vI hst; obtain ⟨hn, hst⟩ := hst
    obtain ⟨q0, ⟨q1, hlen⟩, q2, q3, q⟩ := q
    obtain ⟨rfl, w1⟩ := hck
    have hnn : ¬ Int32.ofInt n < 0 := fun z => by have := (rg_lt hn rg_0).mp z; omega
    refine va_newq hx hb hown (hts _ (wd_in w1)) hstat.2.2.1 hK hr.1 hr.2.1 hr.2.2.1 hA hnn (rg_cl hn) (by omega) (by omega) (by omega) hd (fun qa cB H1 hK1 hP1 hD1 hS1 => ?_)
    have hcB : cB = cA 2 := ms_RA (hK1.2 3 (cB, .object RX1) rfl).2 (hK.2 2 (cA 2, .object RX1) rfl).2
    subst hcB
    refine ms_made (k := 3) (q0 := (12, n.toNat)) hrest hpc hr hl hst q2 q3 hlen ?_ hP1 hD1 hS1 q
    rw [ms_ref_cell]
    congr 6
    apply congrArg Sum.inr
    funext j
    unfold ms_nw
    rw [if_pos rfl, if_pos (Or.inl rfl)]
    rfl
end
end
section
/-! The walk: calls. -/
section
variable {p : Program} {l : Launch} {e : Env} {R : Room} {s : State} {m : MethodId} {args : Array Value} {below : List Frame} {meth : Method} {c : Code} {Qf : State → Prop}
variable {D : va_G} {cA : Nat → ClassId} {ex : Nat → Nat} {A : Nat → Prop} {S0 : ms_S} {ad0 : Nat → Nat} {P : List ms_M} {M : ms_M} {d0 : Nat} {O : ms_O} {X : ms_Z} {Q : ms_Q}
theorem ms_ckc_x {i kd : Nat} {c0 : Int} {a b d w : Nat} {t : List (Int × Nat)} (h : ms_ckc P M i kd (c0, a, b, d, t, w) = true) : ∃ M' : ms_M, P[a]? = some M' ∧ M_kd M' = kd ∧ M_na M' = b ∧ (Cond.methodLink (M_nm M).cls i (M_nm M') ∈ gw ∨ ((M_nm M).cls, i, M_nm M') ∈ ms_nest) ∧
    (kd ≠ 1 → ∃ ci q, d = ci + 1 ∧ ms_cls[ci]? = some q ∧ q.1 = (M_nm M').cls) ∧ ((t = [] ∧ M_mc M' = 0 ∧ M_ms M' = 0) ∨ ∃ kc ks t', t = (kc, ks) :: t' ∧ kc.toNat = M_mc M' ∧ ks = M_ms M') := by
  unfold ms_ckc at h
  dsimp only at h
  split at h
  · cases h
  · rename_i M' hM
    simp only [Bool.and_eq_true, Bool.or_eq_true, decide_eq_true_eq] at h
    obtain ⟨⟨⟨⟨h1, h2⟩, h3⟩, h4⟩, h5⟩ := h
    refine ⟨M', hM, h1, h2, ?_, fun hk => ?_, ?_⟩
    · rcases h3 with h3 | h3
      · exact Or.inl (wd_in h3)
      · exact Or.inr h3
    · split at h4
      · simp only [decide_eq_true_eq] at h4
        exact absurd h4 hk
      · rename_i ci
        simp only [Bool.and_eq_true] at h4
        have h6 := h4.2
        split at h6
        · rename_i q hq
          exact ⟨ci, q, rfl, hq, of_decide_eq_true h6⟩
        · cases h6
    · split at h5
      · simp only [Bool.and_eq_true, decide_eq_true_eq] at h5
        exact Or.inl ⟨rfl, h5⟩
      · rename_i kc ks t'
        simp only [Bool.and_eq_true, decide_eq_true_eq] at h5
        exact Or.inr ⟨kc, ks, t', rfl, h5⟩
theorem ms_stk {b : Nat} {st : List ms_V} {ad : Nat → Nat} : st.map (ms_c ad ex) = ((st.take b).reverse.map (ms_c ad ex)).reverse ++ (st.drop b).map (ms_c ad ex) := by
  rw [List.map_reverse, List.reverse_reverse, ← List.map_append, List.take_append_drop]
set_option maxHeartbeats 4000000 in
theorem ms_callx (C : ms_cx p l e R s m args below meth c Qf D cA ex A S0 ad0 P M d0 O X Q) {i pc kd : Nat} {raw : Instr} {c0 : Int} {a b d w : Nat} {t : List (Int × Nat)} {rest : ms_B} {L st : List ms_V} {G : ms_G} {h : ms_H} {ad : Nat → Nat} {H : Heap} {locs : List Loc} {ls : Array Slot}
    (hck : ms_ckc P M i kd (c0, a, b, d, t, w) = true) (hraw : (kd = 0 ∧ raw = .invokevirtual i) ∨ (kd = 1 ∧ raw = .invokestatic i) ∨ (kd = 2 ∧ raw = .invokespecial i)) (hd : decode (M_by M) pc = .ok (raw, 3)) (hrest : ms_ckB P M rest = true) (hpc : B_pc rest = pc + 3) (hr : ms_rh D cA A s S0 ad0 M ad G h H locs) (hl : ms_rl ad ex (M_ml M) G.1 L ls) (hst : ∀ v ∈ st, ms_vok G.1 v)
    (q : o_call O (M_mc M) (M_ms M) a b d t (ms_RW p l e R s m args below meth c Qf D cA ex A S0 ad0 P M rest) L st G h) : W p l e R s m args below meth c H locs G.2.1 G.2.2 Qf (F0 m pc ls (st.map (ms_c ad ex))) := by
  have C' := C
  obtain ⟨hx, hb, hml, hown, hts, hK, hA, hini, hstat, ⟨hfr, hlo, hrc, hrs⟩, hos, hPk, hbl, hX, hfin⟩ := C
  obtain ⟨M', hP', hkd, hna, hlink, hd0, htt⟩ := ms_ckc_x hck
  obtain ⟨g1, g2, g3, g4, g5, g6, g7, g8, g9, g10, g11, g12⟩ := ckM_x (hPk M' (List.mem_of_getElem? hP'))
  obtain ⟨q1, q2, q3, q4, q5⟩ := q
  obtain ⟨kc, ks, e1, e2, e3, e4, hO⟩ : ∃ kc ks, kc = M_mc M' ∧ ks = M_ms M' ∧ G.2.1 + kc ≤ M_mc M ∧ G.2.2 + ks ≤ M_ms M ∧ O a (st.take b).reverse G.1 h (o_back kc ks (ms_RW p l e R s m args below meth c Qf D cA ex A S0 ad0 P M rest) L (st.drop b) G) := by
    rcases htt with ⟨rfl, h1, h2⟩ | ⟨kc, ks, t', rfl, h1, h2⟩
    · exact ⟨0, 0, h1.symm, h2.symm, by have := hr.2.2.2.2.1; omega, by have := hr.2.2.2.2.1; omega, q5⟩
    · exact ⟨kc.toNat, ks, h1, h2, q5.1, q5.2.1, q5.2.2⟩
  have hvs : ∀ v ∈ (st.take b).reverse, ms_vok G.1 v := fun v hv => hst v (List.mem_of_mem_take (List.mem_reverse.mp hv))
  have hrs2 : ∀ v ∈ st.drop b, ms_vok G.1 v := fun v hv => hst v (List.mem_of_mem_drop hv)
  have hnl : ∀ v ∈ (st.take b).reverse, ms_nl v = true := fun v hv => List.all_eq_true.mp q3 v (List.mem_reverse.mp hv)
  have hvl : ((st.take b).reverse).length = b := by rw [List.length_reverse, List.length_take]; omega
  have hM := hos a M' _ G.1 h _ hP' hO hvs hnl hr.2.2.2.1 ad H.size
  unfold ms_met at hM
  subst e1; subst e2
  have hin := ms_cells_in (h := h) (ad := ad) (D := D) hr.2.1 hr.2.2.1 hA
  have hpre : ∀ U : State, U.heap = H → s.WarmedH U.vm → ms_pre D cA ex ad G.1 h H.size U := by
    intro U hU hW
    refine ⟨by rw [hU], by rw [hU]; exact hr.1, va_K.moved hW.alike hK, hr.2.1.weaken (fun _ _ _ _ => trivial), ?_⟩
    exact ms_stat_to hstat (locs := locs) (by rw [hU]; exact hr.2.2.1) hin hW
  have hroom : 2 * (F0 m pc ls (st.map (ms_c ad ex))).monitorRoom + (((st.drop b).map (ms_c ad ex)).map fun v => v.category).sum ≤ 8 := by
    refine lv_room ?_
    have := ms_sum ad ex (st.drop b)
    omega
  have hfit : G.2.1 + M_mc M' ≤ R.cells ∧ G.2.2 + M_ms M' ≤ R.slots := ⟨by omega, by omega⟩
  have wsok : ∀ w ∈ ms_wsM M', w ∈ gw := by
    intro w hw
    rcases List.mem_cons.mp hw with rfl | hw
    · exact g1
    · exact hw
  have base : ∀ n, (parseMethodDescriptor (M_nm M').desc).map (fun d => d.parameters.length) = some n → (ms_rm d0 M').cells = M_mc M' ∧ (ms_rm d0 M').slots = M_ms M' ∧ (ms_rm d0 M').frames + 1 ≤ R.frames ∧ 8 + (M_ml M' + 11) + (ms_rm d0 M').locals ≤ R.locals ∧ (∀ w ∈ ms_wsM M', ∀ (a' : Array Value) (U : State), s.WarmedH U.vm → w.before a' U = true) ∧ Cond.code (M_nm M') (M_by M') (M_ml M') (M_rt M') ∈ ms_wsM M' ∧
      (Cond.code (M_nm M') (M_by M') (M_ml M') (M_rt M')).before args s = true ∧ (Cond.initialized (M_nm M').cls).before args s = true ∧ ((M_nm M').cls ≠ "java/lang/invoke/MethodHandle" ∧ (M_nm M').cls ≠ "java/lang/invoke/VarHandle") ∧ (∀ sig, parseMethodDescriptor (M_nm M').desc = some sig → n = sig.parameters.length) := by
    intro n hn
    refine ⟨rfl, rfl, hfr, by show 8 + (M_ml M' + 11) + 60 * d0 ≤ R.locals; omega, fun w hw a' U hW => word_at hW (gw_good (wsok w hw)) (hts w (wsok w hw)), List.mem_cons_self, hts _ g1, hts _ g2, g6, fun sig hs => ?_⟩
    rw [hs] at hn
    exact (Option.some.inj hn).symm
  have plus : ∀ {o : Option MethodDescriptor} {k : Nat}, o.map (fun d => d.parameters.length + 1) = some (k + 1) → o.map (fun d => d.parameters.length) = some k := by
    intro o k hk
    cases o with
    | none => cases hk
    | some y =>
      have := Option.some.inj hk
      show some _ = some _
      congr 1
      exact Nat.succ.inj this
  rcases hraw with ⟨rfl, rfl⟩ | ⟨rfl, rfl⟩ | ⟨rfl, rfl⟩
  · obtain ⟨ci, qc, rfl, hc1, hc2⟩ := hd0 (by decide)
    obtain ⟨w1, w2, w3⟩ := g3 hkd
    obtain ⟨z, As, hv, hob⟩ := ms_rc_x q4
    rw [hv] at hM hvl
    have hstk : st.map (ms_c ad ex) = (As.map (ms_c ad ex)).reverse ++ .ref (ad z.toNat) :: (st.drop b).map (ms_c ad ex) := by
      rw [ms_stk (b := b), hv]
      simp [ms_c]
    have hn : (parseMethodDescriptor (M_nm M').desc).map (fun d => d.parameters.length) = some As.length := plus (by rw [w3, hna, ← hvl]; rfl)
    obtain ⟨b1, b2, b3, b4, b5, b6, b7, b8, b9, b10⟩ := base _ hn
    have hws := ms_ws_at (ad := ad) (cA := cA) (h := h) hob
    rw [ms_obj_cell (by have := (ms_cls_ok hc1).1; omega)] at hws
    have hrecv := va_recv hK hr.1 hc1 hws
    rw [hc2] at hrecv
    have hPre : PreV s H (M_nm M').cls (ad z.toNat) (va_Pc ((mR z :: As).map (ms_c ad ex)) (ms_pre D cA ex ad G.1 h H.size)) (As.map (ms_c ad ex)) := ⟨ms_blind _, hrecv, fun U hU hW => ⟨rfl, hpre U hU hW⟩⟩
    refine ms_call_end (M' := M') (av := (Value.ref (ad z.toNat) :: As.map (ms_c ad ex)).toArray) (kc := M_mc M') (ks := M_ms M') (r := st.drop b) hA hrest hpc hr hl hrs2 ⟨e3, e4⟩ g10 ?_
    rcases hlink with hlink | hlink
    · exact va_runV (nL := M_ml M) (Ts := gw) (n := As.length) (bytes := M_by M') (maxL := M_ml M') (ret := M_rt M') ⟨hx, hb, hml, hown, hts⟩ hM ⟨⟨b1, b2, b3, b4, b5, b6, b7, b8, b9, b10, hts _ hlink⟩, hts _ w1, hts _ w2⟩ hPre rfl (by simp) hl.1.1 hstk hroom hd hfit
    · exact va_runVN (nL := M_ml M) (Ts := gw) (n := As.length) (host := "SleetLine") (bytes := M_by M') (maxL := M_ml M') (ret := M_rt M') ⟨hx, hb, hml, hown, hts⟩ hM ⟨⟨⟨b1, b2, b3, b4, b5, b6⟩, b7, b8, b9, b10, va_Nw.use rfl (hstat.2.2.2 _ hlink)⟩, hts _ w1, hts _ w2⟩ hPre rfl (by simp) hl.1.1 hstk hroom hd hfit
  · obtain ⟨w1, w2⟩ := g4 hkd
    have hstk : st.map (ms_c ad ex) = ((st.take b).reverse.map (ms_c ad ex)).reverse ++ (st.drop b).map (ms_c ad ex) := ms_stk
    have hn : (parseMethodDescriptor (M_nm M').desc).map (fun d => d.parameters.length) = some ((st.take b).reverse).length := by rw [w2, hna, hvl]
    obtain ⟨b1, b2, b3, b4, b5, b6, b7, b8, b9, b10⟩ := base _ hn
    have hPre : PreS s H (va_Pc ((st.take b).reverse.map (ms_c ad ex)) (ms_pre D cA ex ad G.1 h H.size)) ((st.take b).reverse.map (ms_c ad ex)) := ⟨ms_blind _, fun U hU hW => ⟨rfl, hpre U hU hW⟩⟩
    refine ms_call_end (M' := M') (av := ((st.take b).reverse.map (ms_c ad ex)).toArray) (kc := M_mc M') (ks := M_ms M') (r := st.drop b) hA hrest hpc hr hl hrs2 ⟨e3, e4⟩ g10 ?_
    rcases hlink with hlink | hlink
    · exact va_runS (nL := M_ml M) (Ts := gw) (n := ((st.take b).reverse).length) (bytes := M_by M') (maxL := M_ml M') (ret := M_rt M') ⟨hx, hb, hml, hown, hts⟩ hM ⟨⟨b1, b2, b3, b4, b5, b6, b7, b8, b9, b10, hts _ hlink⟩, hts _ w1⟩ hPre rfl (List.length_map _) hl.1.1 hstk hroom hd hfit
    · exact va_runSN (nL := M_ml M) (Ts := gw) (n := ((st.take b).reverse).length) (host := "SleetLine") (bytes := M_by M') (maxL := M_ml M') (ret := M_rt M') ⟨hx, hb, hml, hown, hts⟩ hM ⟨⟨⟨b1, b2, b3, b4, b5, b6⟩, b7, b8, b9, b10, va_Nw.use rfl (hstat.2.2.2 _ hlink)⟩, hts _ w1, trivial⟩ hPre rfl (List.length_map _) hl.1.1 hstk hroom hd hfit
  · obtain ⟨w1, w2, w3, w4⟩ := g5 hkd
    obtain ⟨ci, qc, rfl, hc1, hc2⟩ := hd0 (by decide)
    obtain ⟨z, As, hv, hob⟩ := ms_rc_x q4
    rw [hv] at hM hvl
    have hstk : st.map (ms_c ad ex) = (As.map (ms_c ad ex)).reverse ++ .ref (ad z.toNat) :: (st.drop b).map (ms_c ad ex) := by
      rw [ms_stk (b := b), hv]
      simp [ms_c]
    have hn : (parseMethodDescriptor (M_nm M').desc).map (fun d => d.parameters.length) = some As.length := plus (by rw [w4, hna, ← hvl]; rfl)
    obtain ⟨b1, b2, b3, b4, b5, b6, b7, b8, b9, b10⟩ := base _ hn
    rw [w3] at b6 b7
    have hPre : PreS s H (va_Pc ((mR z :: As).map (ms_c ad ex)) (ms_pre D cA ex ad G.1 h H.size)) (.ref (ad z.toNat) :: As.map (ms_c ad ex)) := ⟨ms_blind _, fun U hU hW => ⟨rfl, hpre U hU hW⟩⟩
    refine ms_call_end (M' := M') (av := (Value.ref (ad z.toNat) :: As.map (ms_c ad ex)).toArray) (kc := M_mc M') (ks := M_ms M') (r := st.drop b) hA hrest hpc hr hl hrs2 ⟨e3, e4⟩ g10 ?_
    rcases hlink with hlink | hlink
    · exact va_runI (nL := M_ml M) (Ts := gw) (n := As.length) (bytes := M_by M') (maxL := M_ml M') ⟨hx, hb, hml, hown, hts⟩ hM ⟨⟨b1, b2, b3, b4, b5, b6, b7, b8, b9, b10, hts _ hlink⟩, w2, hts _ w1⟩ hPre rfl (by simp) hl.1.1 hstk hroom hd hfit
    · exact va_runIN (nL := M_ml M) (Ts := gw) (n := As.length) (host := "SleetLine") (bytes := M_by M') (maxL := M_ml M') ⟨hx, hb, hml, hown, hts⟩ hM ⟨⟨⟨b1, b2, b3, b4, b5, b6⟩, b7, b8, b9, b10, va_Nw.use rfl (hstat.2.2.2 _ hlink)⟩, w2, hts _ w1⟩ hPre rfl (by simp) hl.1.1 hstk hroom hd hfit
end
end
section
/-! The small machine is sound. -/
section
variable {p : Program} {l : Launch} {e : Env} {R : Room} {s : State} {m : MethodId} {args : Array Value} {below : List Frame} {meth : Method} {c : Code} {Qf : State → Prop}
variable {D : va_G} {cA : Nat → ClassId} {ex : Nat → Nat} {A : Nat → Prop} {S0 : ms_S} {ad0 : Nat → Nat} {P : List ms_M} {M : ms_M} {d0 : Nat} {O : ms_O} {X : ms_Z} {Q : ms_Q}
set_option maxHeartbeats 4000000 in
theorem ms_step (C : ms_cx p l e R s m args below meth c Qf D cA ex A S0 ad0 P M d0 O X Q) : ms_cl O X M Q (ms_RW p l e R s m args below meth c Qf D cA ex A S0 ad0 P M) := by
  intro pc raw len x rest L st G h q
  by_cases hpl : ms_plain raw = true
  · exact ms_step1 C hpl q
  · intro hck ad H locs ls hr hl hst
    obtain ⟨hdec, hln, hckx, hnx, hrest⟩ := ckB_x hck
    show W p l e R s m args below meth c H locs G.2.1 G.2.2 Qf (F0 m pc ls (st.map (ms_c ad ex)))
    have hd : raw = .nop ∨ decode (M_by M) pc = .ok (raw, ms_ln raw len) := by rw [← hln]; exact hdec
    have hn : ms_falls raw = true → B_pc rest = pc + ms_ln raw len := by rw [← hln]; exact hnx
    clear hdec hnx
    obtain ⟨c0, a, b, d, t, w⟩ := x
    have w12 := wd_max
    simp only [Bool.and_eq_true] at w12
    obtain ⟨⟨⟨⟨⟨⟨⟨⟨⟨⟨⟨u1, u2⟩, u3⟩, u4⟩, u5⟩, u6⟩, u7⟩, u8⟩, u9⟩, u10⟩, u11⟩, u12⟩ := w12
    cases raw
    case getfield i => exact ms_get (d := d) (t := t) C hckx (hd.resolve_left (fun z => by cases z)) hrest (hn rfl) hr hl hst q
    case putfield i =>
      simp only [ms_ckx, Bool.and_eq_true] at hckx
      exact ms_put C hckx.1 hckx.2 (hd.resolve_left (fun z => by cases z)) hrest (hn rfl) hr hl hst q
    case iaload => exact ms_arr C (by simp) (hd.resolve_left (fun z => by cases z)) hrest (hn rfl) hr hl hst q
    case iastore => exact ms_arr C (by simp) (hd.resolve_left (fun z => by cases z)) hrest (hn rfl) hr hl hst q
    case baload => exact ms_arr C (by simp) (hd.resolve_left (fun z => by cases z)) hrest (hn rfl) hr hl hst q
    case bastore => exact ms_arr C (by simp) (hd.resolve_left (fun z => by cases z)) hrest (hn rfl) hr hl hst q
    case aaload => exact ms_arr C (by simp) (hd.resolve_left (fun z => by cases z)) hrest (hn rfl) hr hl hst q
    case aastore => exact ms_arr C (by simp) (hd.resolve_left (fun z => by cases z)) hrest (hn rfl) hr hl hst q
    case arraylength => exact ms_arr C (by simp) (hd.resolve_left (fun z => by cases z)) hrest (hn rfl) hr hl hst q
    case getstatic i => exact ms_gets C (wd_in hckx) (hd.resolve_left (fun z => by cases z)) hrest (hn rfl) hr hl hst q
    case new i => exact ms_alloc C (Or.inl ⟨i, rfl⟩) hckx (hd.resolve_left (fun z => by cases z)) hrest (hn rfl) hr hl hst q
    case newarray i => exact ms_alloc C (Or.inr (Or.inl ⟨i, rfl⟩)) hckx (hd.resolve_left (fun z => by cases z)) hrest (hn rfl) hr hl hst q
    case anewarray i => exact ms_alloc C (Or.inr (Or.inr ⟨i, rfl⟩)) hckx (hd.resolve_left (fun z => by cases z)) hrest (hn rfl) hr hl hst q
    case invokevirtual i => exact ms_callx (c0 := c0) C (kd := 0) hckx (Or.inl ⟨rfl, rfl⟩) (hd.resolve_left (fun z => by cases z)) hrest (hn rfl) hr hl hst q
    case invokestatic i =>
      have hd := hd.resolve_left (fun z => by cases z)
      have hn := hn rfl
      simp only [ms_ckx] at hckx
      simp only [ms_ex] at q
      have C' := C
      obtain ⟨hx, hb, hml, hown, hts, hK, hA, hini, hstat, ⟨hfr, hlo, hrc, hrs⟩, hos, hPk, hbl, hX, hfin⟩ := C'
      have nx : ∀ {st' : List ms_V} {h' : ms_H} {H' : Heap} {locs' : List Loc}, ms_RW p l e R s m args below meth c Qf D cA ex A S0 ad0 P M rest L st' G h' → ms_rh D cA A s S0 ad0 M ad G h' H' locs' → (∀ v ∈ st', ms_vok G.1 v) → W p l e R s m args below meth c H' locs' G.2.1 G.2.2 Qf (F0 m (pc + 3) ls (st'.map (ms_c ad ex))) := by
        intro st' h' H' locs' hq h1 h3
        have := hq hrest ad H' locs' ls h1 hl h3
        rw [hn] at this
        exact this
      have hml2 : c.maxLocals = ls.size := by rw [hml, hl.1.1]
      have hg := hr.2.2.2.2.1
      split at hckx
      · rename_i ha
        rw [if_pos ha] at q
        replace q := i1_x q; obtain ⟨y, r, rfl, q⟩ := q
        replace q := i1_x q; obtain ⟨x, r, rfl, q⟩ := q
        replace hst := ms_vI hst; obtain ⟨hy, hst⟩ := hst
        replace hst := ms_vI hst; obtain ⟨hz, hst⟩ := hst
        have hsum := ms_sum ad ex r
        refine va_mmax hx hb hml2 hown (hts _ (wd_in hckx)) (hts _ (wd_in u1)) (hts _ (wd_in u5)) (hts _ (wd_in u2)) (by omega) (by have := q.1; omega) (by omega) (by omega) hd ?_
        rw [rg_max hz hy]
        exact nx q.2 hr (ms_pI (by unfold rg at hz hy ⊢; omega) hst)
      · rename_i ha
        rw [if_neg ha] at q
        split at hckx
        · rename_i ha
          rw [if_pos ha] at q
          replace q := i1_x q; obtain ⟨y, r, rfl, q⟩ := q
          replace q := i1_x q; obtain ⟨x, r, rfl, q⟩ := q
          replace hst := ms_vI hst; obtain ⟨hy, hst⟩ := hst
          replace hst := ms_vI hst; obtain ⟨hz, hst⟩ := hst
          have hsum := ms_sum ad ex r
          refine va_mmin hx hb hml2 hown (hts _ (wd_in hckx)) (hts _ (wd_in u3)) (hts _ (wd_in u5)) (hts _ (wd_in u4)) (by omega) (by have := q.1; omega) (by omega) (by omega) hd ?_
          rw [rg_min hz hy]
          exact nx q.2 hr (ms_pI (by unfold rg at hz hy ⊢; omega) hst)
        · rename_i ha
          rw [if_neg ha] at q
          split at hckx
          · rename_i ha
            rw [if_pos ha] at q
            replace q := i1_x q; obtain ⟨n, r, rfl, q⟩ := q
            replace q := i1_x q; obtain ⟨dp, r, rfl, q⟩ := q
            replace q := r1_x q; obtain ⟨dd, r, rfl, q⟩ := q
            replace q := i1_x q; obtain ⟨sp, r, rfl, q⟩ := q
            replace q := r1_x q; obtain ⟨ss, r, rfl, q⟩ := q
            replace hst := ms_vI hst; obtain ⟨v1, hst⟩ := hst
            replace hst := ms_vI hst; obtain ⟨v2, hst⟩ := hst
            replace hst := ms_vR hst; obtain ⟨v3, hst⟩ := hst
            replace hst := ms_vI hst; obtain ⟨v4, hst⟩ := hst
            replace hst := ms_vR hst; obtain ⟨v5, hst⟩ := hst
            obtain ⟨q1, q2, q3, q4, n0, n1, q5, q6, q7, q8, q⟩ := q
            have hsum := ms_sum ad ex r
            have hw0 := ms_ws_at (ad := ad) (cA := cA) (h := h) q5
            have hw1 := ms_ws_at (ad := ad) (cA := cA) (h := h) q6
            rw [ms_int_cell] at hw0 hw1
            have nn : ∀ {z : Int}, rg z → 0 ≤ z → ¬ Int32.ofInt z < 0 := fun hz h0 u => by have := (rg_lt hz rg_0).mp u; omega
            have e1 : nativeFrameWords "java/lang/System" "arraycopy" 5 = 7 := by decide +kernel
            have hloc : (((r.map (ms_c ad ex)).map fun v => v.category).sum) + (nativeFrameWords "java/lang/System" "arraycopy" 5 + 11) ≤ R.locals := by
              rw [e1]; omega
            refine va_copyi hx hb hml2 hown (hts _ (wd_in hckx)) (hts _ (wd_in u7)) (hts _ (wd_in u6)) (hts _ (wd_in u8)) hK hr.1 hr.2.1 hr.2.2.1 ss.toNat dd.toNat 0 0 hw0 hw1 rfl rfl rfl (nn v4 q3) (nn v2 q4) (nn v1 q2) (by rw [rg_cl v4, rg_cl v1]; omega) (by rw [rg_cl v2, rg_cl v1]; omega) (fun _ _ => rfl) (by omega) hloc hd (fun H1 locs1 hP1 hD1 hS1 => ?_)
            rw [rg_cl v4, rg_cl v2, rg_cl v1, ms_ws_cpy q6 q3 q4 q2] at hP1 hD1
            exact nx q ⟨hP1, hD1, hS1, hok_cpy hr.2.2.2.1 q6, hr.2.2.2.2⟩ hst
          · rename_i ha
            rw [if_neg ha] at q
            exact ms_callx (c0 := c0) C (kd := 1) hckx (Or.inr (Or.inl ⟨rfl, rfl⟩)) hd hrest hn hr hl hst q
    case invokespecial i =>
      have hd := hd.resolve_left (fun z => by cases z)
      have hn := hn rfl
      simp only [ms_ckx] at hckx
      simp only [ms_ex] at q
      split at hckx
      · rename_i ha
        rw [if_pos ha] at q
        have C' := C
        obtain ⟨hx, hb, hml, hown, hts, hK, hA, hini, hstat, ⟨hfr, hlo, hrc, hrs⟩, hos, hPk, hbl, hX, hfin⟩ := C'
        replace q := r1_x q; obtain ⟨z, r, rfl, q⟩ := q
        replace hst := ms_vR hst; obtain ⟨hz, hst⟩ := hst
        have hsum := ms_sum ad ex r
        have hroom : 2 * (F0 m pc ls ((mR z :: r).map (ms_c ad ex))).monitorRoom + (((r).map (ms_c ad ex)).map fun v => v.category).sum ≤ 8 := lv_room (by have := q.1; omega)
        refine W.objInit hx hb hown (hts _ (wd_in hckx)) (hts _ (wd_in u9)) (hts _ (wd_in u10)) rfl (by show ls.size = c.maxLocals; rw [hml, hl.1.1]) rfl hd (by omega) (by omega) ?_
        have := q.2 hrest ad H locs ls hr hl hst
        rw [hn] at this
        exact this
      · rename_i ha
        rw [if_neg ha] at q
        exact ms_callx (c0 := c0) C (kd := 2) hckx (Or.inr (Or.inr ⟨rfl, rfl⟩)) hd hrest hn hr hl hst q
    all_goals exact absurd rfl hpl
end
end
section
/-! Every method that the small machine says comes back, comes back. -/
theorem lv_args_at {ad ex : Nat → Nat} : ∀ (vs : List ms_V) (i k : Nat) (v : ms_V), (∀ v ∈ vs, ms_nl v = true) → vs[k]? = some v → (i + k, ms_c ad ex v) ∈ lv_args i (vs.map (ms_c ad ex))
  | [], _, _, _, _, h => by simp at h
  | u :: vs, i, 0, v, hn, h => by
    simp at h
    subst h
    exact List.mem_cons_self
  | u :: vs, i, k + 1, v, hn, h => by
    have h1 : vs[k]? = some v := by simpa using h
    have h2 := ms_c_cat (ad := ad) (ex := ex) (hn u List.mem_cons_self)
    show _ ∈ (i, ms_c ad ex u) :: lv_args (if (ms_c ad ex u).category = 2 then i + 2 else i + 1) (vs.map (ms_c ad ex))
    rw [if_neg (by omega)]
    have h3 := lv_args_at (ad := ad) (ex := ex) vs (i + 1) k v (fun v hv => hn v (List.mem_cons_of_mem _ hv)) h1
    rw [show i + (k + 1) = i + 1 + k by omega]
    exact List.mem_cons_of_mem _ h3
theorem lg_sl_len {ad ex : Nat → Nat} : ∀ (vs : List ms_V), (∀ v ∈ vs, ms_nl v = true) → (lg_sl (vs.map (ms_c ad ex))).length = vs.length
  | [], _ => rfl
  | u :: vs, hn => by
    have h2 := ms_c_cat (ad := ad) (ex := ex) (hn u List.mem_cons_self)
    have h3 := lg_sl_len (ad := ad) (ex := ex) vs (fun v hv => hn v (List.mem_cons_of_mem _ hv))
    unfold lg_sl at h3 ⊢
    rw [List.map_cons, List.flatMap_cons, if_neg (by omega), List.length_append, h3, List.length_cons]
    simp
    omega
theorem ms_pad_len {n : Nat} {vs : List ms_V} (h : vs.length ≤ n) : (ms_pad n vs).length = n := by
  unfold ms_pad
  rw [List.length_append, List.length_replicate]
  omega
theorem ms_enter {ad ex : Nat → Nat} {n : Nat} {S : ms_S} {vs : List ms_V} (hn : ∀ v ∈ vs, ms_nl v = true) (hv : ∀ v ∈ vs, ms_vok S v) (hlen : vs.length ≤ n) : ms_rl ad ex n S (ms_pad n vs) ((lg_sl (vs.map (ms_c ad ex)) ++ List.replicate (n - (lg_sl (vs.map (ms_c ad ex))).length) Slot.unset).toArray) := by
  have h0 := lv_entry (vs.map (ms_c ad ex)) (n := n) (by rw [lg_sl_len vs hn]; exact hlen)
  refine ⟨⟨h0.1, h0.2.1, fun q hq => ?_⟩, ms_pad_len hlen, fun v hv2 => ?_⟩
  · obtain ⟨v, h1, h2, h3⟩ := lvl_mem.mp hq
    unfold ms_pad at h1
    by_cases hk : q.1 < vs.length
    · rw [List.getElem?_append_left hk] at h1
      have h4 := lv_args_at (ad := ad) (ex := ex) vs 0 q.1 v hn h1
      rw [Nat.zero_add] at h4
      have h5 := h0.2.2 _ h4
      rw [h3]
      exact h5
    · rw [List.getElem?_append_right (by omega), List.getElem?_replicate] at h1
      split at h1
      · cases h1; cases h2
      · cases h1
  · unfold ms_pad at hv2
    rcases List.mem_append.mp hv2 with h | h
    · exact hv v h
    · rw [(List.mem_replicate.mp h).2]
      exact rg_0
theorem ms_ord_rg (i : Int) : rg (ms_ord i) := by
  unfold ms_ord rg
  repeat' split
  all_goals omega
set_option maxHeartbeats 4000000 in
theorem ms_sound (l : Launch) (D : va_G) (cA : Nat → ClassId) (ex : Nat → Nat) (P : List ms_M) (hP : ∀ M ∈ P, ms_ckM P M = true) : ∀ d, ms_os l D cA ex P d (ms_Ok P d)
  | 0 => fun _ _ _ _ _ _ _ hO => hO.elim
  | d + 1 => by
    intro y M vs S h Q hy hO hvs hnl hh ad sz
    obtain ⟨M2, h1, h2, h3⟩ := hO
    rw [hy] at h1
    cases h1
    obtain ⟨g1, g2, g3, g4, g5, g6, g7, g8, g9, g10, g11, g12⟩ := ckM_x (hP M (List.mem_of_getElem? hy))
    unfold ms_met
    refine Met.ofW (cc := M_by M) (maxL := M_ml M) (ret := M_rt M) g7 rfl ?_
    intro p e s m args below meth c s₁ B hml hv
    obtain ⟨rfl, hsz, hPp, hK, hD0, hst⟩ := hv
    subst hsz
    have hts := atoms_spec (ws := ms_wsM M) B.pre
    have hown : s.vm.findClass (M_nm M).cls = some m.cls := findClass_of_methodNamed B.named
    have hin : (M_nm M).name = "<init>" → meth.name = "<init>" := fun z => (name_of_methodNamed B.named B.method).1.trans z
    have hlocks := B.notSynchronized
    have hx := B.exec
    have hb := B.bytes
    have hret := B.returns
    have hS : va_S (va_A (ms_ws ad cA S h) s.heap.size) s.heap s.heap [] := va_S.rf
    have hfin : ms_fin p l e (headSpec (ms_wsM M) (ms_rm (d + 1) M)).room s m (vs.map (ms_c ad ex)).toArray below meth c (MQ below (ms_Qc (M_rt M) D cA (va_A (ms_ws ad cA S h) s.heap.size) ad S Q) (vs.map (ms_c ad ex)).toArray s (M_mc M) (M_ms M) (va_A (ms_ws ad cA S h) s.heap.size)) D cA ex (va_A (ms_ws ad cA S h) s.heap.size) S ad M Q := by
      intro pc ls ad' G h' H locs hr
      obtain ⟨r1, r2, r3, r4, r5, r6, r7⟩ := hr
      have hw : ∀ t : State, t.heap = H → s.WarmedH t.vm → ms_wd D cA (va_A (ms_ws ad cA S h) s.heap.size) (G.1, h', ad') t := fun t ht hW => ⟨by rw [ht]; exact r1, va_K.moved hW.alike hK, r2⟩
      refine ⟨fun z hq hz hd hrt => ?_, fun z hq hz hd hrt => ?_, fun hq hd hrt => ?_⟩
      · refine W.widen (k := M_mc M) (n := M_ms M) r5.1 r5.2 ?_
        rcases hrt with hrt | ⟨hrt, h01⟩
        · rw [hrt] at hret ⊢
          exact W.iret hx hb hret (fun t ht hW => ⟨⟨Int32.ofInt z, (G.1, h', ad'), rfl, ⟨z, rfl, hz, hq, r6, r7, r4⟩, hw t ht hW⟩, r3.F ht⟩) r3.2.2 hd
        · rw [hrt] at hret ⊢
          exact W.zret hx hb hret (by rcases h01 with rfl | rfl <;> rfl) (fun t ht hW => ⟨⟨Int32.ofInt z, (G.1, h', ad'), rfl, ⟨z, rfl, hz, hq, r6, r7, r4⟩, hw t ht hW⟩, r3.F ht⟩) r3.2.2 hd
      · refine W.widen (k := M_mc M) (n := M_ms M) r5.1 r5.2 ?_
        rw [hrt] at hret ⊢
        exact W.lret hx hb hret (fun t ht hW => ⟨⟨Int64.ofInt z, (G.1, h', ad'), rfl, ⟨z, rfl, hz, hq, r6, r7, r4⟩, hw t ht hW⟩, r3.F ht⟩) r3.2.2 hd
      · refine W.widen (k := M_mc M) (n := M_ms M) r5.1 r5.2 ?_
        rw [hrt] at hret ⊢
        exact W.vret hx hb hret (fun t ht hW => ⟨⟨(G.1, h', ad'), rfl, ⟨hq, r6, r7, r4⟩, hw t ht hW⟩, r3.F ht⟩) r3.2.2 hd
    have hX : ∀ n q, ms_X1 n = some q → va_T .int (ex n) q.1 (fun j => .int (Int32.ofInt (q.2 j))) (va_A (ms_ws ad cA S h) s.heap.size) s s.heap ∧ q.1 < 2 ^ 31 ∧ ∀ i : Int, 0 ≤ i → i < q.1 → rg (q.2 i) := by
      intro n q hq
      unfold ms_X1 at hq
      split at hq
      · rename_i hn1
        cases hq
        subst hn1
        exact ⟨hst.2.1, by decide, fun i _ _ => ms_ord_rg i⟩
      · cases hq
    have C : ms_cx p l e (headSpec (ms_wsM M) (ms_rm (d + 1) M)).room s m (vs.map (ms_c ad ex)).toArray below meth c (MQ below (ms_Qc (M_rt M) D cA (va_A (ms_ws ad cA S h) s.heap.size) ad S Q) (vs.map (ms_c ad ex)).toArray s (M_mc M) (M_ms M) (va_A (ms_ws ad cA S h) s.heap.size)) D cA ex (va_A (ms_ws ad cA S h) s.heap.size) S ad P M d (ms_Ok P d) ms_X1 Q :=
      ⟨hx, hb, hml, hown, fun w hw => hts w (List.mem_cons_of_mem _ hw), hK, fun q hq => Or.inr hq, hin, hst, ⟨Nat.le_refl _, by show 60 * d + 60 ≤ 60 * (d + 1); omega, Nat.le_refl _, Nat.le_refl _⟩, ms_sound l D cA ex P hP d, hP, g12, hX, hfin⟩
    have hRW := h3 _ (ms_step C)
    rw [lg_entry_eq]
    have hgo := hRW (g12 0) ad s.heap [] _ ⟨hPp, hD0.self, hS, hh, ⟨Nat.zero_le _, Nat.zero_le _⟩, Nat.le_refl _, fun _ _ => rfl⟩ (ms_enter hnl hvs (by rw [h2]; exact g9)) (fun v hv => by cases hv)
    rw [g11] at hgo
    exact hgo
end
section
/-! The methods, by program out of the printed decode rows (wip/whole/gen.py). -/
def bX0_init_0 : ms_B := [(0, .aload_n 0, 1, (0, 0, 0, 0, [], 0)), (1, .invokespecial 3, 3, (0, 1003, 0, 0, [], 194)), (4, .aload_n 0, 1, (0, 0, 0, 0, [], 0)), (5, .iconst 0, 1, (0, 0, 0, 0, [], 0)), (6, .putfield 9, 3, (0, 0, 1, 0, [], 195)), (9, .aload_n 0, 1, (0, 0, 0, 0, [], 0)), (10, .iconst 0, 1, (0, 0, 0, 0, [], 0)), (11, .putfield 15, 3, (1, 0, 0, 0, [], 197)), (14, .aload_n 0, 1, (0, 0, 0, 0, [], 0)), (15, .bipush (-9), 2, (-9, 0, 0, 0, [], 0)), (17, .putfield 19, 3, (2, 0, 0, 0, [], 199)), (20, .aload_n 0, 1, (0, 0, 0, 0, [], 0)), (21, .iconst 0, 1, (0, 0, 0, 0, [], 0)), (22, .putfield 22, 3, (3, 0, 0, 0, [], 201)), (25, .aload_n 0, 1, (0, 0, 0, 0, [], 0)), (26, .iconst (-1), 1, (-1, 0, 0, 0, [], 0)), (27, .putfield 25, 3, (4, 0, 0, 0, [], 203)), (30, .aload_n 0, 1, (0, 0, 0, 0, [], 0)), (31, .iconst 0, 1, (0, 0, 0, 0, [], 0)), (32, .putfield 28, 3, (5, 0, 0, 0, [], 205)), (35, .aload_n 0, 1, (0, 0, 0, 0, [], 0)), (36, .iconst 0, 1, (0, 0, 0, 0, [], 0)), (37, .putfield 31, 3, (6, 0, 0, 0, [], 206)), (40, .return_, 1, (0, 0, 0, 0, [], 0))]
def MX0_init : ms_M := (yX0_init, cX0_init, 1, none, (0, 0), (2, 1), [193, 192, 0, 81], [bX0_init_0], [])
def bX0_judge_0 : ms_B := [(0, .aload_n 0, 1, (0, 0, 0, 0, [], 0)), (1, .getfield 9, 3, (0, 0, 1, 0, [], 195)), (4, .ifCond .eq 4, 3, (0, 1, 0, 0, [], 0)), (7, .return_, 1, (0, 0, 0, 0, [], 0))]
def bX0_judge_1 : ms_B := [(8, .aload_n 0, 1, (0, 0, 0, 0, [], 0)), (9, .iconst 0, 1, (0, 0, 0, 0, [], 0)), (10, .putfield 28, 3, (5, 0, 0, 0, [], 205)), (13, .aload_n 0, 1, (0, 0, 0, 0, [], 0)), (14, .iconst 0, 1, (0, 0, 0, 0, [], 0)), (15, .putfield 31, 3, (6, 0, 0, 0, [], 206)), (18, .iconst 0, 1, (0, 0, 0, 0, [], 0)), (19, .istore_n 2, 1, (0, 2, 0, 0, [], 0)), (20, .nop, 1, (0, 100, 0, 0, [], 0))]
def bX0_judge_2 : ms_B := [(70, .aload_n 0, 1, (0, 0, 0, 0, [], 0)), (71, .iconst 0, 1, (0, 0, 0, 0, [], 0)), (72, .putfield 15, 3, (1, 0, 0, 0, [], 197)), (75, .aload_n 0, 1, (0, 0, 0, 0, [], 0)), (76, .bipush (-9), 2, (-9, 0, 0, 0, [], 0)), (78, .putfield 19, 3, (2, 0, 0, 0, [], 199)), (81, .aload_n 0, 1, (0, 0, 0, 0, [], 0)), (82, .iconst 0, 1, (0, 0, 0, 0, [], 0)), (83, .putfield 22, 3, (3, 0, 0, 0, [], 201)), (86, .aload_n 0, 1, (0, 0, 0, 0, [], 0)), (87, .iconst (-1), 1, (-1, 0, 0, 0, [], 0)), (88, .putfield 25, 3, (4, 0, 0, 0, [], 203)), (91, .aload_n 0, 1, (0, 0, 0, 0, [], 0)), (92, .aload_n 1, 1, (0, 1, 0, 0, [], 0)), (93, .iconst 0, 1, (0, 0, 0, 0, [], 0)), (94, .iconst 0, 1, (0, 0, 0, 0, [], 0)), (95, .iconst 0, 1, (0, 0, 0, 0, [], 0)), (96, .iconst 0, 1, (0, 0, 0, 0, [], 0)), (97, .invokestatic 46, 3, (0, 2, 6, 0, [], 523)), (100, .aload_n 0, 1, (0, 0, 0, 0, [], 0)), (101, .iconst 1, 1, (1, 0, 0, 0, [], 0)), (102, .putfield 9, 3, (0, 0, 1, 0, [], 195)), (105, .return_, 1, (0, 0, 0, 0, [], 0))]
def bX0_judge_100 : ms_B := [(20, .iload_n 2, 1, (0, 2, 0, 0, [], 0)), (21, .aload_n 1, 1, (0, 1, 0, 0, [], 0)), (22, .getfield 34, 3, (0, 3, 0, 0, [], 138)), (25, .if_icmp .ge 45, 3, (0, 2, 0, 0, [], 0)), (28, .aload_n 0, 1, (0, 0, 0, 0, [], 0)), (29, .dup, 1, (0, 0, 0, 0, [], 0)), (30, .getfield 28, 3, (5, 0, 0, 0, [], 205)), (33, .aload_n 1, 1, (0, 1, 0, 0, [], 0)), (34, .getfield 39, 3, (2, 3, 3, 0, [], 144)), (37, .iload_n 2, 1, (0, 2, 0, 0, [], 0)), (38, .iaload, 1, (0, 0, 0, 0, [], 0)), (39, .bipush 8, 2, (8, 0, 0, 0, [], 0)), (41, .imul, 1, (0, 0, 0, 0, [], 0)), (42, .iadd, 1, (0, 0, 0, 0, [], 0)), (43, .putfield 28, 3, (5, 0, 0, 0, [], 205)), (46, .aload_n 0, 1, (0, 0, 0, 0, [], 0)), (47, .dup, 1, (0, 0, 0, 0, [], 0)), (48, .getfield 31, 3, (6, 0, 0, 0, [], 206)), (51, .aload_n 1, 1, (0, 1, 0, 0, [], 0)), (52, .getfield 43, 3, (3, 3, 3, 0, [], 147)), (55, .iload_n 2, 1, (0, 2, 0, 0, [], 0)), (56, .iaload, 1, (0, 0, 0, 0, [], 0)), (57, .bipush 8, 2, (8, 0, 0, 0, [], 0)), (59, .imul, 1, (0, 0, 0, 0, [], 0)), (60, .iadd, 1, (0, 0, 0, 0, [], 0)), (61, .putfield 31, 3, (6, 0, 0, 0, [], 206)), (64, .iinc 2 1, 3, (1, 2, 0, 0, [], 0)), (67, .goto (-47), 3, (0, 100, 0, 0, [], 0))]
def MX0_judge : ms_M := (yX0_judge, cX0_judge, 3, none, (0, 0), (0, 2), [522, 520, 521, 81], [bX0_judge_0, bX0_judge_1, bX0_judge_2], [bX0_judge_100])
def bX0_drawFrom_0 : ms_B := [(0, .iload_n 2, 1, (0, 2, 0, 0, [], 0)), (1, .bipush 8, 2, (8, 0, 0, 0, [], 0)), (3, .if_icmp .ge 11, 3, (0, 1, 0, 0, [], 0)), (6, .iload_n 2, 1, (0, 2, 0, 0, [], 0)), (7, .aload_n 1, 1, (0, 1, 0, 0, [], 0)), (8, .getfield 34, 3, (0, 3, 0, 0, [], 138)), (11, .if_icmp .lt 13, 3, (0, 2, 0, 0, [], 0)), (14, .nop, 1, (0, 1, 0, 0, [], 0))]
def bX0_drawFrom_1 : ms_B := [(14, .aload_n 0, 1, (0, 0, 0, 0, [], 0)), (15, .iload_n 3, 1, (0, 3, 0, 0, [], 0)), (16, .iload 4, 2, (0, 4, 0, 0, [], 0)), (18, .iload 5, 2, (0, 5, 0, 0, [], 0)), (20, .invokevirtual 50, 3, (0, 3, 4, 1, [], 526)), (23, .return_, 1, (0, 0, 0, 0, [], 0))]
def bX0_drawFrom_2 : ms_B := [(24, .iload_n 3, 1, (0, 3, 0, 0, [], 0)), (25, .bipush 10, 2, (10, 0, 0, 0, [], 0)), (27, .irem, 1, (0, 0, 0, 0, [], 0)), (28, .istore 6, 2, (0, 6, 0, 0, [], 0)), (30, .iload_n 2, 1, (0, 2, 0, 0, [], 0)), (31, .ifCond .ne 7, 3, (0, 3, 0, 0, [], 0)), (34, .iconst 0, 1, (0, 0, 0, 0, [], 0)), (35, .goto 11, 3, (0, 4, 0, 0, [], 0))]
def bX0_drawFrom_3 : ms_B := [(38, .iload 6, 2, (0, 6, 0, 0, [], 0)), (40, .iconst 1, 1, (1, 0, 0, 0, [], 0)), (41, .isub, 1, (0, 0, 0, 0, [], 0)), (42, .iconst 0, 1, (0, 0, 0, 0, [], 0)), (43, .invokestatic 54, 3, (0, 1000, 0, 0, [], 531)), (46, .nop, 1, (0, 4, 0, 0, [], 0))]
def bX0_drawFrom_4 : ms_B := [(46, .istore 7, 2, (0, 7, 0, 0, [], 0)), (48, .iload_n 2, 1, (0, 2, 0, 0, [], 0)), (49, .ifCond .ne 8, 3, (0, 5, 0, 0, [], 0)), (52, .bipush 8, 2, (8, 0, 0, 0, [], 0)), (54, .goto 12, 3, (0, 6, 0, 0, [], 0))]
def bX0_drawFrom_5 : ms_B := [(57, .iload 6, 2, (0, 6, 0, 0, [], 0)), (59, .iconst 1, 1, (1, 0, 0, 0, [], 0)), (60, .iadd, 1, (0, 0, 0, 0, [], 0)), (61, .bipush 8, 2, (8, 0, 0, 0, [], 0)), (63, .invokestatic 60, 3, (0, 1001, 0, 0, [], 530)), (66, .nop, 1, (0, 6, 0, 0, [], 0))]
def bX0_drawFrom_6 : ms_B := [(66, .istore 8, 2, (0, 8, 0, 0, [], 0)), (68, .iload 7, 2, (0, 7, 0, 0, [], 0)), (70, .istore 9, 2, (0, 9, 0, 0, [], 0)), (72, .nop, 1, (0, 100, 0, 0, [], 0))]
def bX0_drawFrom_7 : ms_B := [(127, .return_, 1, (0, 0, 0, 0, [], 0))]
def bX0_drawFrom_100 : ms_B := [(72, .iload 9, 2, (0, 9, 0, 0, [], 0)), (74, .iload 8, 2, (0, 8, 0, 0, [], 0)), (76, .if_icmp .gt 51, 3, (0, 7, 0, 0, [], 0)), (79, .aload_n 0, 1, (0, 0, 0, 0, [], 0)), (80, .aload_n 1, 1, (0, 1, 0, 0, [], 0)), (81, .iload_n 2, 1, (0, 2, 0, 0, [], 0)), (82, .iconst 1, 1, (1, 0, 0, 0, [], 0)), (83, .iadd, 1, (0, 0, 0, 0, [], 0)), (84, .iload_n 3, 1, (0, 3, 0, 0, [], 0)), (85, .bipush 10, 2, (10, 0, 0, 0, [], 0)), (87, .imul, 1, (0, 0, 0, 0, [], 0)), (88, .iload 9, 2, (0, 9, 0, 0, [], 0)), (90, .iadd, 1, (0, 0, 0, 0, [], 0)), (91, .iload 4, 2, (0, 4, 0, 0, [], 0)), (93, .aload_n 1, 1, (0, 1, 0, 0, [], 0)), (94, .getfield 39, 3, (2, 3, 3, 0, [], 144)), (97, .iload_n 2, 1, (0, 2, 0, 0, [], 0)), (98, .iaload, 1, (0, 0, 0, 0, [], 0)), (99, .bipush 8, 2, (8, 0, 0, 0, [], 0)), (101, .iload 9, 2, (0, 9, 0, 0, [], 0)), (103, .isub, 1, (0, 0, 0, 0, [], 0)), (104, .imul, 1, (0, 0, 0, 0, [], 0)), (105, .iadd, 1, (0, 0, 0, 0, [], 0)), (106, .iload 5, 2, (0, 5, 0, 0, [], 0)), (108, .aload_n 1, 1, (0, 1, 0, 0, [], 0)), (109, .getfield 43, 3, (3, 3, 3, 0, [], 147)), (112, .iload_n 2, 1, (0, 2, 0, 0, [], 0)), (113, .iaload, 1, (0, 0, 0, 0, [], 0)), (114, .iload 9, 2, (0, 9, 0, 0, [], 0)), (116, .imul, 1, (0, 0, 0, 0, [], 0)), (117, .iadd, 1, (0, 0, 0, 0, [], 0)), (118, .invokestatic 46, 3, (0, 2, 6, 0, [], 523)), (121, .iinc 9 1, 3, (1, 9, 0, 0, [], 0)), (124, .goto (-52), 3, (0, 100, 0, 0, [], 0))]
def MX0_drawFrom : ms_M := (yX0_drawFrom, cX0_drawFrom, 10, none, (0, 0), (1, 6), [525, 524, 0, 81], [bX0_drawFrom_0, bX0_drawFrom_1, bX0_drawFrom_2, bX0_drawFrom_3, bX0_drawFrom_4, bX0_drawFrom_5, bX0_drawFrom_6, bX0_drawFrom_7], [bX0_drawFrom_100])
def bX0_judgeOne_0 : ms_B := [(0, .iconst 2, 1, (2, 0, 0, 0, [], 0)), (1, .iload_n 2, 1, (0, 2, 0, 0, [], 0)), (2, .imul, 1, (0, 0, 0, 0, [], 0)), (3, .aload_n 0, 1, (0, 0, 0, 0, [], 0)), (4, .getfield 28, 3, (5, 0, 0, 0, [], 205)), (7, .if_icmp .lt 35, 3, (0, 2, 0, 0, [], 0)), (10, .iconst 2, 1, (2, 0, 0, 0, [], 0)), (11, .iload_n 3, 1, (0, 3, 0, 0, [], 0)), (12, .imul, 1, (0, 0, 0, 0, [], 0)), (13, .aload_n 0, 1, (0, 0, 0, 0, [], 0)), (14, .getfield 31, 3, (6, 0, 0, 0, [], 206)), (17, .if_icmp .lt 25, 3, (0, 2, 0, 0, [], 0)), (20, .aload_n 0, 1, (0, 0, 0, 0, [], 0)), (21, .getfield 15, 3, (1, 0, 0, 0, [], 197)), (24, .ifCond .ne 8, 3, (0, 1, 0, 0, [], 0)), (27, .aload_n 0, 1, (0, 0, 0, 0, [], 0)), (28, .iload_n 1, 1, (0, 1, 0, 0, [], 0)), (29, .putfield 19, 3, (2, 0, 0, 0, [], 199)), (32, .nop, 1, (0, 1, 0, 0, [], 0))]
def bX0_judgeOne_1 : ms_B := [(32, .aload_n 0, 1, (0, 0, 0, 0, [], 0)), (33, .dup, 1, (0, 0, 0, 0, [], 0)), (34, .getfield 15, 3, (1, 0, 0, 0, [], 197)), (37, .iconst 1, 1, (1, 0, 0, 0, [], 0)), (38, .iadd, 1, (0, 0, 0, 0, [], 0)), (39, .putfield 15, 3, (1, 0, 0, 0, [], 197)), (42, .nop, 1, (0, 2, 0, 0, [], 0))]
def bX0_judgeOne_2 : ms_B := [(42, .iload_n 2, 1, (0, 2, 0, 0, [], 0)), (43, .iload_n 3, 1, (0, 3, 0, 0, [], 0)), (44, .invokestatic 60, 3, (0, 1001, 0, 0, [], 530)), (47, .istore 4, 2, (0, 4, 0, 0, [], 0)), (49, .iload 4, 2, (0, 4, 0, 0, [], 0)), (51, .aload_n 0, 1, (0, 0, 0, 0, [], 0)), (52, .getfield 25, 3, (4, 0, 0, 0, [], 203)), (55, .if_icmp .le 14, 3, (0, 3, 0, 0, [], 0)), (58, .aload_n 0, 1, (0, 0, 0, 0, [], 0)), (59, .iload 4, 2, (0, 4, 0, 0, [], 0)), (61, .putfield 25, 3, (4, 0, 0, 0, [], 203)), (64, .aload_n 0, 1, (0, 0, 0, 0, [], 0)), (65, .iload_n 1, 1, (0, 1, 0, 0, [], 0)), (66, .putfield 22, 3, (3, 0, 0, 0, [], 201)), (69, .nop, 1, (0, 3, 0, 0, [], 0))]
def bX0_judgeOne_3 : ms_B := [(69, .return_, 1, (0, 0, 0, 0, [], 0))]
def MX0_judgeOne : ms_M := (yX0_judgeOne, cX0_judgeOne, 5, none, (0, 0), (0, 4), [529, 528, 28, 81], [bX0_judgeOne_0, bX0_judgeOne_1, bX0_judgeOne_2, bX0_judgeOne_3], [])
def bX1_init_0 : ms_B := [(0, .aload_n 0, 1, (0, 0, 0, 0, [], 0)), (1, .invokespecial 3, 3, (0, 1003, 0, 0, [], 227)), (4, .aload_n 0, 1, (0, 0, 0, 0, [], 0)), (5, .iconst 0, 1, (0, 0, 0, 0, [], 0)), (6, .putfield 9, 3, (0, 1, 0, 0, [], 228)), (9, .aload_n 0, 1, (0, 0, 0, 0, [], 0)), (10, .iconst 0, 1, (0, 0, 0, 0, [], 0)), (11, .putfield 15, 3, (1, 1, 0, 0, [], 230)), (14, .aload_n 0, 1, (0, 0, 0, 0, [], 0)), (15, .bipush 8, 2, (8, 0, 0, 0, [], 0)), (17, .newarray .int, 2, (0, 0, 10, 0, [], 0)), (19, .dup, 1, (0, 0, 0, 0, [], 0)), (20, .iconst 0, 1, (0, 0, 0, 0, [], 0)), (21, .bipush (-9), 2, (-9, 0, 0, 0, [], 0)), (23, .iastore, 1, (0, 0, 0, 0, [], 0)), (24, .dup, 1, (0, 0, 0, 0, [], 0)), (25, .iconst 1, 1, (1, 0, 0, 0, [], 0)), (26, .bipush (-9), 2, (-9, 0, 0, 0, [], 0)), (28, .iastore, 1, (0, 0, 0, 0, [], 0)), (29, .dup, 1, (0, 0, 0, 0, [], 0)), (30, .iconst 2, 1, (2, 0, 0, 0, [], 0)), (31, .bipush (-9), 2, (-9, 0, 0, 0, [], 0)), (33, .iastore, 1, (0, 0, 0, 0, [], 0)), (34, .dup, 1, (0, 0, 0, 0, [], 0)), (35, .iconst 3, 1, (3, 0, 0, 0, [], 0)), (36, .bipush (-9), 2, (-9, 0, 0, 0, [], 0)), (38, .iastore, 1, (0, 0, 0, 0, [], 0)), (39, .dup, 1, (0, 0, 0, 0, [], 0)), (40, .iconst 4, 1, (4, 0, 0, 0, [], 0)), (41, .bipush (-9), 2, (-9, 0, 0, 0, [], 0)), (43, .iastore, 1, (0, 0, 0, 0, [], 0)), (44, .dup, 1, (0, 0, 0, 0, [], 0)), (45, .iconst 5, 1, (5, 0, 0, 0, [], 0)), (46, .bipush (-9), 2, (-9, 0, 0, 0, [], 0)), (48, .iastore, 1, (0, 0, 0, 0, [], 0)), (49, .dup, 1, (0, 0, 0, 0, [], 0)), (50, .bipush 6, 2, (6, 0, 0, 0, [], 0)), (52, .bipush (-9), 2, (-9, 0, 0, 0, [], 0)), (54, .iastore, 1, (0, 0, 0, 0, [], 0)), (55, .dup, 1, (0, 0, 0, 0, [], 0)), (56, .bipush 7, 2, (7, 0, 0, 0, [], 0)), (58, .bipush (-9), 2, (-9, 0, 0, 0, [], 0)), (60, .iastore, 1, (0, 0, 0, 0, [], 0)), (61, .putfield 18, 3, (2, 1, 3, 0, [], 232)), (64, .aload_n 0, 1, (0, 0, 0, 0, [], 0)), (65, .iconst 0, 1, (0, 0, 0, 0, [], 0)), (66, .putfield 22, 3, (3, 1, 0, 0, [], 234)), (69, .aload_n 0, 1, (0, 0, 0, 0, [], 0)), (70, .bipush 10, 2, (10, 0, 0, 0, [], 0)), (72, .newarray .int, 2, (0, 0, 10, 0, [], 0)), (74, .putfield 25, 3, (4, 1, 3, 0, [], 236)), (77, .aload_n 0, 1, (0, 0, 0, 0, [], 0)), (78, .bipush 10, 2, (10, 0, 0, 0, [], 0)), (80, .newarray .int, 2, (0, 0, 10, 0, [], 0)), (82, .putfield 28, 3, (5, 1, 3, 0, [], 237)), (85, .aload_n 0, 1, (0, 0, 0, 0, [], 0)), (86, .bipush 10, 2, (10, 0, 0, 0, [], 0)), (88, .newarray .int, 2, (0, 0, 10, 0, [], 0)), (90, .putfield 31, 3, (6, 1, 3, 0, [], 238)), (93, .return_, 1, (0, 0, 0, 0, [], 0))]
def MX1_init : ms_M := (yX1_init, cX1_init, 1, none, (4, 38), (2, 1), [226, 225, 0, 82], [bX1_init_0], [])
def bX1_begin_0 : ms_B := [(0, .aload_n 0, 1, (0, 0, 0, 0, [], 0)), (1, .iconst 0, 1, (0, 0, 0, 0, [], 0)), (2, .putfield 9, 3, (0, 1, 0, 0, [], 228)), (5, .aload_n 0, 1, (0, 0, 0, 0, [], 0)), (6, .iconst 0, 1, (0, 0, 0, 0, [], 0)), (7, .putfield 15, 3, (1, 1, 0, 0, [], 230)), (10, .iconst 0, 1, (0, 0, 0, 0, [], 0)), (11, .istore_n 1, 1, (0, 1, 0, 0, [], 0)), (12, .nop, 1, (0, 100, 0, 0, [], 0))]
def bX1_begin_1 : ms_B := [(32, .aload_n 0, 1, (0, 0, 0, 0, [], 0)), (33, .iconst 0, 1, (0, 0, 0, 0, [], 0)), (34, .putfield 22, 3, (3, 1, 0, 0, [], 234)), (37, .return_, 1, (0, 0, 0, 0, [], 0))]
def bX1_begin_100 : ms_B := [(12, .iload_n 1, 1, (0, 1, 0, 0, [], 0)), (13, .bipush 8, 2, (8, 0, 0, 0, [], 0)), (15, .if_icmp .ge 17, 3, (0, 1, 0, 0, [], 0)), (18, .aload_n 0, 1, (0, 0, 0, 0, [], 0)), (19, .getfield 18, 3, (2, 1, 3, 0, [], 232)), (22, .iload_n 1, 1, (0, 1, 0, 0, [], 0)), (23, .bipush (-9), 2, (-9, 0, 0, 0, [], 0)), (25, .iastore, 1, (0, 0, 0, 0, [], 0)), (26, .iinc 1 1, 3, (1, 1, 0, 0, [], 0)), (29, .goto (-17), 3, (0, 100, 0, 0, [], 0))]
def MX1_begin : ms_M := (yX1_begin, cX1_begin, 2, none, (0, 0), (0, 1), [377, 375, 376, 82], [bX1_begin_0, bX1_begin_1], [bX1_begin_100])
def bX1_become_0 : ms_B := [(0, .aload_n 0, 1, (0, 0, 0, 0, [], 0)), (1, .aload_n 1, 1, (0, 1, 0, 0, [], 0)), (2, .getfield 9, 3, (0, 1, 0, 0, [], 228)), (5, .putfield 9, 3, (0, 1, 0, 0, [], 228)), (8, .aload_n 0, 1, (0, 0, 0, 0, [], 0)), (9, .aload_n 1, 1, (0, 1, 0, 0, [], 0)), (10, .getfield 15, 3, (1, 1, 0, 0, [], 230)), (13, .putfield 15, 3, (1, 1, 0, 0, [], 230)), (16, .aload_n 1, 1, (0, 1, 0, 0, [], 0)), (17, .getfield 18, 3, (2, 1, 3, 0, [], 232)), (20, .iconst 0, 1, (0, 0, 0, 0, [], 0)), (21, .aload_n 0, 1, (0, 0, 0, 0, [], 0)), (22, .getfield 18, 3, (2, 1, 3, 0, [], 232)), (25, .iconst 0, 1, (0, 0, 0, 0, [], 0)), (26, .bipush 8, 2, (8, 0, 0, 0, [], 0)), (28, .invokestatic 34, 3, (0, 1002, 0, 0, [], 458)), (31, .aload_n 0, 1, (0, 0, 0, 0, [], 0)), (32, .aload_n 1, 1, (0, 1, 0, 0, [], 0)), (33, .getfield 22, 3, (3, 1, 0, 0, [], 234)), (36, .putfield 22, 3, (3, 1, 0, 0, [], 234)), (39, .aload_n 1, 1, (0, 1, 0, 0, [], 0)), (40, .getfield 25, 3, (4, 1, 3, 0, [], 236)), (43, .iconst 0, 1, (0, 0, 0, 0, [], 0)), (44, .aload_n 0, 1, (0, 0, 0, 0, [], 0)), (45, .getfield 25, 3, (4, 1, 3, 0, [], 236)), (48, .iconst 0, 1, (0, 0, 0, 0, [], 0)), (49, .bipush 10, 2, (10, 0, 0, 0, [], 0)), (51, .invokestatic 34, 3, (0, 1002, 0, 0, [], 458)), (54, .aload_n 1, 1, (0, 1, 0, 0, [], 0)), (55, .getfield 28, 3, (5, 1, 3, 0, [], 237)), (58, .iconst 0, 1, (0, 0, 0, 0, [], 0)), (59, .aload_n 0, 1, (0, 0, 0, 0, [], 0)), (60, .getfield 28, 3, (5, 1, 3, 0, [], 237)), (63, .iconst 0, 1, (0, 0, 0, 0, [], 0)), (64, .bipush 10, 2, (10, 0, 0, 0, [], 0)), (66, .invokestatic 34, 3, (0, 1002, 0, 0, [], 458)), (69, .aload_n 1, 1, (0, 1, 0, 0, [], 0)), (70, .getfield 31, 3, (6, 1, 3, 0, [], 238)), (73, .iconst 0, 1, (0, 0, 0, 0, [], 0)), (74, .aload_n 0, 1, (0, 0, 0, 0, [], 0)), (75, .getfield 31, 3, (6, 1, 3, 0, [], 238)), (78, .iconst 0, 1, (0, 0, 0, 0, [], 0)), (79, .bipush 10, 2, (10, 0, 0, 0, [], 0)), (81, .invokestatic 34, 3, (0, 1002, 0, 0, [], 458)), (84, .return_, 1, (0, 0, 0, 0, [], 0))]
def MX1_become : ms_M := (yX1_become, cX1_become, 2, none, (0, 0), (0, 2), [641, 639, 640, 82], [bX1_become_0], [])
def bX1_remember_0 : ms_B := [(0, .aload_n 0, 1, (0, 0, 0, 0, [], 0)), (1, .getfield 22, 3, (3, 1, 0, 0, [], 234)), (4, .bipush 10, 2, (10, 0, 0, 0, [], 0)), (6, .if_icmp .lt 7, 3, (0, 1, 0, 0, [], 0)), (9, .aload_n 0, 1, (0, 0, 0, 0, [], 0)), (10, .invokevirtual 40, 3, (0, 8, 1, 2, [], 454)), (13, .nop, 1, (0, 1, 0, 0, [], 0))]
def bX1_remember_1 : ms_B := [(13, .aload_n 0, 1, (0, 0, 0, 0, [], 0)), (14, .getfield 25, 3, (4, 1, 3, 0, [], 236)), (17, .aload_n 0, 1, (0, 0, 0, 0, [], 0)), (18, .getfield 22, 3, (3, 1, 0, 0, [], 234)), (21, .iload_n 1, 1, (0, 1, 0, 0, [], 0)), (22, .iastore, 1, (0, 0, 0, 0, [], 0)), (23, .aload_n 0, 1, (0, 0, 0, 0, [], 0)), (24, .getfield 28, 3, (5, 1, 3, 0, [], 237)), (27, .aload_n 0, 1, (0, 0, 0, 0, [], 0)), (28, .getfield 22, 3, (3, 1, 0, 0, [], 234)), (31, .iload_n 2, 1, (0, 2, 0, 0, [], 0)), (32, .iastore, 1, (0, 0, 0, 0, [], 0)), (33, .aload_n 0, 1, (0, 0, 0, 0, [], 0)), (34, .getfield 31, 3, (6, 1, 3, 0, [], 238)), (37, .aload_n 0, 1, (0, 0, 0, 0, [], 0)), (38, .getfield 22, 3, (3, 1, 0, 0, [], 234)), (41, .iload_n 3, 1, (0, 3, 0, 0, [], 0)), (42, .iastore, 1, (0, 0, 0, 0, [], 0)), (43, .aload_n 0, 1, (0, 0, 0, 0, [], 0)), (44, .dup, 1, (0, 0, 0, 0, [], 0)), (45, .getfield 22, 3, (3, 1, 0, 0, [], 234)), (48, .iconst 1, 1, (1, 0, 0, 0, [], 0)), (49, .iadd, 1, (0, 0, 0, 0, [], 0)), (50, .putfield 22, 3, (3, 1, 0, 0, [], 234)), (53, .return_, 1, (0, 0, 0, 0, [], 0))]
def MX1_remember : ms_M := (yX1_remember, cX1_remember, 4, none, (0, 0), (0, 4), [453, 451, 452, 82], [bX1_remember_0, bX1_remember_1], [])
def bX1_loseOldest_0 : ms_B := [(0, .aload_n 0, 1, (0, 0, 0, 0, [], 0)), (1, .bipush 9, 2, (9, 0, 0, 0, [], 0)), (3, .putfield 22, 3, (3, 1, 0, 0, [], 234)), (6, .aload_n 0, 1, (0, 0, 0, 0, [], 0)), (7, .getfield 25, 3, (4, 1, 3, 0, [], 236)), (10, .iconst 1, 1, (1, 0, 0, 0, [], 0)), (11, .aload_n 0, 1, (0, 0, 0, 0, [], 0)), (12, .getfield 25, 3, (4, 1, 3, 0, [], 236)), (15, .iconst 0, 1, (0, 0, 0, 0, [], 0)), (16, .aload_n 0, 1, (0, 0, 0, 0, [], 0)), (17, .getfield 22, 3, (3, 1, 0, 0, [], 234)), (20, .invokestatic 34, 3, (0, 1002, 0, 0, [], 458)), (23, .aload_n 0, 1, (0, 0, 0, 0, [], 0)), (24, .getfield 28, 3, (5, 1, 3, 0, [], 237)), (27, .iconst 1, 1, (1, 0, 0, 0, [], 0)), (28, .aload_n 0, 1, (0, 0, 0, 0, [], 0)), (29, .getfield 28, 3, (5, 1, 3, 0, [], 237)), (32, .iconst 0, 1, (0, 0, 0, 0, [], 0)), (33, .aload_n 0, 1, (0, 0, 0, 0, [], 0)), (34, .getfield 22, 3, (3, 1, 0, 0, [], 234)), (37, .invokestatic 34, 3, (0, 1002, 0, 0, [], 458)), (40, .aload_n 0, 1, (0, 0, 0, 0, [], 0)), (41, .getfield 31, 3, (6, 1, 3, 0, [], 238)), (44, .iconst 1, 1, (1, 0, 0, 0, [], 0)), (45, .aload_n 0, 1, (0, 0, 0, 0, [], 0)), (46, .getfield 31, 3, (6, 1, 3, 0, [], 238)), (49, .iconst 0, 1, (0, 0, 0, 0, [], 0)), (50, .aload_n 0, 1, (0, 0, 0, 0, [], 0)), (51, .getfield 22, 3, (3, 1, 0, 0, [], 234)), (54, .invokestatic 34, 3, (0, 1002, 0, 0, [], 458)), (57, .return_, 1, (0, 0, 0, 0, [], 0))]
def MX1_loseOldest : ms_M := (yX1_loseOldest, cX1_loseOldest, 1, none, (0, 0), (0, 1), [457, 456, 23, 82], [bX1_loseOldest_0], [])
def bX1_takeBack_0 : ms_B := [(0, .aload_n 0, 1, (0, 0, 0, 0, [], 0)), (1, .getfield 22, 3, (3, 1, 0, 0, [], 234)), (4, .ifCond .gt 4, 3, (0, 1, 0, 0, [], 0)), (7, .return_, 1, (0, 0, 0, 0, [], 0))]
def bX1_takeBack_1 : ms_B := [(8, .aload_n 0, 1, (0, 0, 0, 0, [], 0)), (9, .dup, 1, (0, 0, 0, 0, [], 0)), (10, .getfield 22, 3, (3, 1, 0, 0, [], 234)), (13, .iconst 1, 1, (1, 0, 0, 0, [], 0)), (14, .isub, 1, (0, 0, 0, 0, [], 0)), (15, .putfield 22, 3, (3, 1, 0, 0, [], 234)), (18, .aload_n 0, 1, (0, 0, 0, 0, [], 0)), (19, .getfield 31, 3, (6, 1, 3, 0, [], 238)), (22, .aload_n 0, 1, (0, 0, 0, 0, [], 0)), (23, .getfield 22, 3, (3, 1, 0, 0, [], 234)), (26, .iaload, 1, (0, 0, 0, 0, [], 0)), (27, .istore_n 1, 1, (0, 1, 0, 0, [], 0)), (28, .aload_n 0, 1, (0, 0, 0, 0, [], 0)), (29, .getfield 25, 3, (4, 1, 3, 0, [], 236)), (32, .aload_n 0, 1, (0, 0, 0, 0, [], 0)), (33, .getfield 22, 3, (3, 1, 0, 0, [], 234)), (36, .iaload, 1, (0, 0, 0, 0, [], 0)), (37, .lookupswitch 43 #[(0, 27), (1, 35)], 27, (0, 4, 0, 0, [(0, 2), (1, 3)], 0))]
def bX1_takeBack_2 : ms_B := [(64, .aload_n 0, 1, (0, 0, 0, 0, [], 0)), (65, .iload_n 1, 1, (0, 1, 0, 0, [], 0)), (66, .putfield 9, 3, (0, 1, 0, 0, [], 228)), (69, .goto 26, 3, (0, 5, 0, 0, [], 0))]
def bX1_takeBack_3 : ms_B := [(72, .aload_n 0, 1, (0, 0, 0, 0, [], 0)), (73, .iload_n 1, 1, (0, 1, 0, 0, [], 0)), (74, .putfield 15, 3, (1, 1, 0, 0, [], 230)), (77, .goto 18, 3, (0, 5, 0, 0, [], 0))]
def bX1_takeBack_4 : ms_B := [(80, .aload_n 0, 1, (0, 0, 0, 0, [], 0)), (81, .getfield 18, 3, (2, 1, 3, 0, [], 232)), (84, .aload_n 0, 1, (0, 0, 0, 0, [], 0)), (85, .getfield 28, 3, (5, 1, 3, 0, [], 237)), (88, .aload_n 0, 1, (0, 0, 0, 0, [], 0)), (89, .getfield 22, 3, (3, 1, 0, 0, [], 234)), (92, .iaload, 1, (0, 0, 0, 0, [], 0)), (93, .iload_n 1, 1, (0, 1, 0, 0, [], 0)), (94, .iastore, 1, (0, 0, 0, 0, [], 0)), (95, .nop, 1, (0, 5, 0, 0, [], 0))]
def bX1_takeBack_5 : ms_B := [(95, .return_, 1, (0, 0, 0, 0, [], 0))]
def MX1_takeBack : ms_M := (yX1_takeBack, cX1_takeBack, 2, none, (0, 0), (0, 1), [490, 488, 489, 82], [bX1_takeBack_0, bX1_takeBack_1, bX1_takeBack_2, bX1_takeBack_3, bX1_takeBack_4, bX1_takeBack_5], [])
def bX1_standing_0 : ms_B := [(0, .iconst 0, 1, (0, 0, 0, 0, [], 0)), (1, .istore_n 1, 1, (0, 1, 0, 0, [], 0)), (2, .iconst 0, 1, (0, 0, 0, 0, [], 0)), (3, .istore_n 2, 1, (0, 2, 0, 0, [], 0)), (4, .nop, 1, (0, 100, 0, 0, [], 0))]
def bX1_standing_1 : ms_B := [(24, .iinc 2 1, 3, (1, 2, 0, 0, [], 0)), (27, .goto (-23), 3, (0, 100, 0, 0, [], 0))]
def bX1_standing_2 : ms_B := [(30, .iload_n 1, 1, (0, 1, 0, 0, [], 0)), (31, .ireturn, 1, (0, 0, 0, 0, [], 0))]
def bX1_standing_100 : ms_B := [(4, .iload_n 2, 1, (0, 2, 0, 0, [], 0)), (5, .bipush 8, 2, (8, 0, 0, 0, [], 0)), (7, .if_icmp .ge 23, 3, (0, 2, 0, 0, [], 0)), (10, .aload_n 0, 1, (0, 0, 0, 0, [], 0)), (11, .getfield 18, 3, (2, 1, 3, 0, [], 232)), (14, .iload_n 2, 1, (0, 2, 0, 0, [], 0)), (15, .iaload, 1, (0, 0, 0, 0, [], 0)), (16, .bipush (-9), 2, (-9, 0, 0, 0, [], 0)), (18, .if_icmp .eq 6, 3, (0, 1, 0, 0, [], 0)), (21, .iinc 1 1, 3, (1, 1, 0, 0, [], 0)), (24, .nop, 1, (0, 1, 0, 0, [], 0))]
def MX1_standing : ms_M := (yX1_standing, cX1_standing, 3, (some .int), (0, 0), (0, 1), [506, 504, 505, 82], [bX1_standing_0, bX1_standing_1, bX1_standing_2], [bX1_standing_100])
def bX2_init_0 : ms_B := [(0, .aload_n 0, 1, (0, 0, 0, 0, [], 0)), (1, .invokespecial 3, 3, (0, 1003, 0, 0, [], 100)), (4, .aload_n 0, 1, (0, 0, 0, 0, [], 0)), (5, .sipush 140, 3, (140, 0, 0, 0, [], 0)), (8, .newarray .int, 2, (0, 0, 10, 0, [], 0)), (10, .putfield 9, 3, (0, 2, 3, 0, [], 101)), (13, .aload_n 0, 1, (0, 0, 0, 0, [], 0)), (14, .iconst 0, 1, (0, 0, 0, 0, [], 0)), (15, .putfield 15, 3, (1, 2, 0, 0, [], 102)), (18, .aload_n 0, 1, (0, 0, 0, 0, [], 0)), (19, .iconst 0, 1, (0, 0, 0, 0, [], 0)), (20, .putfield 19, 3, (2, 2, 0, 0, [], 104)), (23, .aload_n 0, 1, (0, 0, 0, 0, [], 0)), (24, .iconst 0, 1, (0, 0, 0, 0, [], 0)), (25, .putfield 22, 3, (3, 2, 0, 0, [], 105)), (28, .aload_n 0, 1, (0, 0, 0, 0, [], 0)), (29, .iconst 0, 1, (0, 0, 0, 0, [], 0)), (30, .putfield 25, 3, (4, 2, 0, 0, [], 106)), (33, .aload_n 0, 1, (0, 0, 0, 0, [], 0)), (34, .iconst 0, 1, (0, 0, 0, 0, [], 0)), (35, .putfield 28, 3, (5, 2, 0, 0, [], 107)), (38, .aload_n 0, 1, (0, 0, 0, 0, [], 0)), (39, .iconst 0, 1, (0, 0, 0, 0, [], 0)), (40, .putfield 31, 3, (6, 2, 1, 0, [], 108)), (43, .aload_n 0, 1, (0, 0, 0, 0, [], 0)), (44, .iconst 0, 1, (0, 0, 0, 0, [], 0)), (45, .putfield 35, 3, (7, 2, 1, 0, [], 109)), (48, .aload_n 0, 1, (0, 0, 0, 0, [], 0)), (49, .iconst 3, 1, (3, 0, 0, 0, [], 0)), (50, .newarray .int, 2, (0, 0, 10, 0, [], 0)), (52, .putfield 38, 3, (8, 2, 3, 0, [], 110)), (55, .return_, 1, (0, 0, 0, 0, [], 0))]
def MX2_init : ms_M := (yX2_init, cX2_init, 1, none, (2, 143), (2, 1), [99, 98, 0, 79], [bX2_init_0], [])
def bX2_add_0 : ms_B := [(0, .aload_n 0, 1, (0, 0, 0, 0, [], 0)), (1, .getfield 15, 3, (1, 2, 0, 0, [], 102)), (4, .sipush 140, 3, (140, 0, 0, 0, [], 0)), (7, .if_icmp .lt 5, 3, (0, 1, 0, 0, [], 0)), (10, .iconst 0, 1, (0, 0, 0, 0, [], 0)), (11, .ireturn, 1, (0, 0, 1, 0, [], 0))]
def bX2_add_1 : ms_B := [(12, .aload_n 0, 1, (0, 0, 0, 0, [], 0)), (13, .getfield 9, 3, (0, 2, 3, 0, [], 101)), (16, .aload_n 0, 1, (0, 0, 0, 0, [], 0)), (17, .getfield 15, 3, (1, 2, 0, 0, [], 102)), (20, .iload_n 1, 1, (0, 1, 0, 0, [], 0)), (21, .iastore, 1, (0, 0, 0, 0, [], 0)), (22, .aload_n 0, 1, (0, 0, 0, 0, [], 0)), (23, .dup, 1, (0, 0, 0, 0, [], 0)), (24, .getfield 15, 3, (1, 2, 0, 0, [], 102)), (27, .iconst 1, 1, (1, 0, 0, 0, [], 0)), (28, .iadd, 1, (0, 0, 0, 0, [], 0)), (29, .putfield 15, 3, (1, 2, 0, 0, [], 102)), (32, .iconst 1, 1, (1, 0, 0, 0, [], 0)), (33, .ireturn, 1, (0, 0, 1, 0, [], 0))]
def MX2_add : ms_M := (yX2_add, cX2_add, 2, (some .boolean), (0, 0), (0, 2), [300, 298, 299, 79], [bX2_add_0, bX2_add_1], [])
def bX2_tell_0 : ms_B := [(0, .aload_n 0, 1, (0, 0, 0, 0, [], 0)), (1, .iconst 0, 1, (0, 0, 0, 0, [], 0)), (2, .putfield 19, 3, (2, 2, 0, 0, [], 104)), (5, .aload_n 0, 1, (0, 0, 0, 0, [], 0)), (6, .iconst 0, 1, (0, 0, 0, 0, [], 0)), (7, .putfield 31, 3, (6, 2, 1, 0, [], 108)), (10, .aload_n 0, 1, (0, 0, 0, 0, [], 0)), (11, .iconst 0, 1, (0, 0, 0, 0, [], 0)), (12, .putfield 35, 3, (7, 2, 1, 0, [], 109)), (15, .aload_n 1, 1, (0, 1, 0, 0, [], 0)), (16, .invokevirtual 41, 3, (0, 26, 1, 4, [], 313)), (19, .iconst 0, 1, (0, 0, 0, 0, [], 0)), (20, .istore_n 2, 1, (0, 2, 0, 0, [], 0)), (21, .nop, 1, (0, 100, 0, 0, [], 0))]
def bX2_tell_1 : ms_B := [(41, .aload_n 0, 1, (0, 0, 0, 0, [], 0)), (42, .aload_n 1, 1, (0, 1, 0, 0, [], 0)), (43, .invokevirtual 49, 3, (0, 14, 2, 3, [], 330)), (46, .ifCond .ne 6, 3, (0, 2, 0, 0, [], 0)), (49, .goto 9, 3, (0, 3, 0, 0, [], 0))]
def bX2_tell_2 : ms_B := [(52, .iinc 2 1, 3, (1, 2, 0, 0, [], 0)), (55, .goto (-34), 3, (0, 100, 0, 0, [], 0))]
def bX2_tell_3 : ms_B := [(58, .bipush (-10), 2, (-10, 0, 0, 0, [], 0)), (60, .aload_n 0, 1, (0, 0, 0, 0, [], 0)), (61, .getfield 25, 3, (4, 2, 0, 0, [], 106)), (64, .isub, 1, (0, 0, 0, 0, [], 0)), (65, .ireturn, 1, (0, 0, 0, 0, [], 0))]
def bX2_tell_100 : ms_B := [(21, .iload_n 2, 1, (0, 2, 0, 0, [], 0)), (22, .sipush 140, 3, (140, 0, 0, 0, [], 0)), (25, .if_icmp .gt 33, 3, (0, 3, 0, 0, [], 0)), (28, .aload_n 0, 1, (0, 0, 0, 0, [], 0)), (29, .invokevirtual 46, 3, (0, 22, 1, 3, [], 317)), (32, .aload_n 0, 1, (0, 0, 0, 0, [], 0)), (33, .getfield 22, 3, (3, 2, 0, 0, [], 105)), (36, .ifCond .ne 5, 3, (0, 1, 0, 0, [], 0)), (39, .iload_n 2, 1, (0, 2, 0, 0, [], 0)), (40, .ireturn, 1, (0, 0, 0, 0, [], 0))]
def MX2_tell : ms_M := (yX2_tell, cX2_tell, 3, (some .int), (0, 0), (0, 2), [312, 310, 311, 79], [bX2_tell_0, bX2_tell_1, bX2_tell_2, bX2_tell_3], [bX2_tell_100])
def bX2_readItem_0 : ms_B := [(0, .aload_n 0, 1, (0, 0, 0, 0, [], 0)), (1, .getfield 22, 3, (3, 2, 0, 0, [], 105)), (4, .iconst 1, 1, (1, 0, 0, 0, [], 0)), (5, .if_icmp .eq 5, 3, (0, 1, 0, 0, [], 0)), (8, .iconst 0, 1, (0, 0, 0, 0, [], 0)), (9, .ireturn, 1, (0, 0, 1, 0, [], 0))]
def bX2_readItem_1 : ms_B := [(10, .aload_n 0, 1, (0, 0, 0, 0, [], 0)), (11, .getfield 28, 3, (5, 2, 0, 0, [], 107)), (14, .lookupswitch 80 #[(99, 50), (100, 74), (103, 56), (104, 62), (118, 68)], 50, (0, 7, 0, 0, [(99, 2), (100, 6), (103, 3), (104, 4), (118, 5)], 0))]
def bX2_readItem_2 : ms_B := [(64, .aload_n 0, 1, (0, 0, 0, 0, [], 0)), (65, .aload_n 1, 1, (0, 1, 0, 0, [], 0)), (66, .invokevirtual 53, 3, (0, 15, 2, 3, [], 334)), (69, .ireturn, 1, (0, 0, 1, 0, [], 0))]
def bX2_readItem_3 : ms_B := [(70, .aload_n 0, 1, (0, 0, 0, 0, [], 0)), (71, .aload_n 1, 1, (0, 1, 0, 0, [], 0)), (72, .invokevirtual 56, 3, (0, 16, 2, 3, [], 350)), (75, .ireturn, 1, (0, 0, 1, 0, [], 0))]
def bX2_readItem_4 : ms_B := [(76, .aload_n 0, 1, (0, 0, 0, 0, [], 0)), (77, .aload_n 1, 1, (0, 1, 0, 0, [], 0)), (78, .invokevirtual 59, 3, (0, 17, 2, 3, [], 354)), (81, .ireturn, 1, (0, 0, 1, 0, [], 0))]
def bX2_readItem_5 : ms_B := [(82, .aload_n 0, 1, (0, 0, 0, 0, [], 0)), (83, .aload_n 1, 1, (0, 1, 0, 0, [], 0)), (84, .invokevirtual 62, 3, (0, 18, 2, 3, [], 358)), (87, .ireturn, 1, (0, 0, 1, 0, [], 0))]
def bX2_readItem_6 : ms_B := [(88, .aload_n 0, 1, (0, 0, 0, 0, [], 0)), (89, .aload_n 1, 1, (0, 1, 0, 0, [], 0)), (90, .invokevirtual 65, 3, (0, 19, 2, 3, [], 366)), (93, .ireturn, 1, (0, 0, 1, 0, [], 0))]
def bX2_readItem_7 : ms_B := [(94, .iconst 0, 1, (0, 0, 0, 0, [], 0)), (95, .ireturn, 1, (0, 0, 1, 0, [], 0))]
def MX2_readItem : ms_M := (yX2_readItem, cX2_readItem, 2, (some .boolean), (0, 0), (0, 2), [333, 332, 3, 79], [bX2_readItem_0, bX2_readItem_1, bX2_readItem_2, bX2_readItem_3, bX2_readItem_4, bX2_readItem_5, bX2_readItem_6, bX2_readItem_7], [])
def bX2_readColumn_0 : ms_B := [(0, .aload_n 1, 1, (0, 1, 0, 0, [], 0)), (1, .getfield 68, 3, (0, 3, 0, 0, [], 139)), (4, .bipush 8, 2, (8, 0, 0, 0, [], 0)), (6, .if_icmp .lt 5, 3, (0, 1, 0, 0, [], 0)), (9, .iconst 0, 1, (0, 0, 0, 0, [], 0)), (10, .ireturn, 1, (0, 0, 1, 0, [], 0))]
def bX2_readColumn_1 : ms_B := [(11, .aload_n 0, 1, (0, 0, 0, 0, [], 0)), (12, .iconst 0, 1, (0, 0, 0, 0, [], 0)), (13, .iconst 0, 1, (0, 0, 0, 0, [], 0)), (14, .bipush 9, 2, (9, 0, 0, 0, [], 0)), (16, .invokevirtual 71, 3, (0, 20, 4, 3, [], 338)), (19, .ifCond .eq 32, 3, (0, 2, 0, 0, [], 0)), (22, .aload_n 0, 1, (0, 0, 0, 0, [], 0)), (23, .iconst 1, 1, (1, 0, 0, 0, [], 0)), (24, .iconst 0, 1, (0, 0, 0, 0, [], 0)), (25, .bipush 9, 2, (9, 0, 0, 0, [], 0)), (27, .invokevirtual 71, 3, (0, 20, 4, 3, [], 338)), (30, .ifCond .eq 21, 3, (0, 2, 0, 0, [], 0)), (33, .aload_n 0, 1, (0, 0, 0, 0, [], 0)), (34, .iconst 2, 1, (2, 0, 0, 0, [], 0)), (35, .iconst 0, 1, (0, 0, 0, 0, [], 0)), (36, .bipush 9, 2, (9, 0, 0, 0, [], 0)), (38, .invokevirtual 71, 3, (0, 20, 4, 3, [], 338)), (41, .ifCond .eq 10, 3, (0, 2, 0, 0, [], 0)), (44, .aload_n 0, 1, (0, 0, 0, 0, [], 0)), (45, .invokevirtual 75, 3, (0, 21, 1, 3, [], 342)), (48, .ifCond .ne 5, 3, (0, 3, 0, 0, [], 0)), (51, .nop, 1, (0, 2, 0, 0, [], 0))]
def bX2_readColumn_2 : ms_B := [(51, .iconst 0, 1, (0, 0, 0, 0, [], 0)), (52, .ireturn, 1, (0, 0, 1, 0, [], 0))]
def bX2_readColumn_3 : ms_B := [(53, .aload_n 1, 1, (0, 1, 0, 0, [], 0)), (54, .aload_n 0, 1, (0, 0, 0, 0, [], 0)), (55, .getfield 38, 3, (8, 2, 3, 0, [], 110)), (58, .iconst 0, 1, (0, 0, 0, 0, [], 0)), (59, .iaload, 1, (0, 0, 0, 0, [], 0)), (60, .aload_n 0, 1, (0, 0, 0, 0, [], 0)), (61, .getfield 38, 3, (8, 2, 3, 0, [], 110)), (64, .iconst 1, 1, (1, 0, 0, 0, [], 0)), (65, .iaload, 1, (0, 0, 0, 0, [], 0)), (66, .aload_n 0, 1, (0, 0, 0, 0, [], 0)), (67, .getfield 38, 3, (8, 2, 3, 0, [], 110)), (70, .iconst 2, 1, (2, 0, 0, 0, [], 0)), (71, .iaload, 1, (0, 0, 0, 0, [], 0)), (72, .invokevirtual 79, 3, (0, 27, 4, 4, [], 346)), (75, .iconst 1, 1, (1, 0, 0, 0, [], 0)), (76, .ireturn, 1, (0, 0, 1, 0, [], 0))]
def MX2_readColumn : ms_M := (yX2_readColumn, cX2_readColumn, 2, (some .boolean), (0, 0), (0, 2), [337, 336, 4, 79], [bX2_readColumn_0, bX2_readColumn_1, bX2_readColumn_2, bX2_readColumn_3], [])
def bX2_readGap_0 : ms_B := [(0, .aload_n 0, 1, (0, 0, 0, 0, [], 0)), (1, .getfield 31, 3, (6, 2, 1, 0, [], 108)), (4, .ifCond .ne 21, 3, (0, 1, 0, 0, [], 0)), (7, .aload_n 0, 1, (0, 0, 0, 0, [], 0)), (8, .iconst 0, 1, (0, 0, 0, 0, [], 0)), (9, .iconst 1, 1, (1, 0, 0, 0, [], 0)), (10, .bipush 6, 2, (6, 0, 0, 0, [], 0)), (12, .invokevirtual 71, 3, (0, 20, 4, 3, [], 338)), (15, .ifCond .eq 10, 3, (0, 1, 0, 0, [], 0)), (18, .aload_n 0, 1, (0, 0, 0, 0, [], 0)), (19, .invokevirtual 75, 3, (0, 21, 1, 3, [], 342)), (22, .ifCond .ne 5, 3, (0, 2, 0, 0, [], 0)), (25, .nop, 1, (0, 1, 0, 0, [], 0))]
def bX2_readGap_1 : ms_B := [(25, .iconst 0, 1, (0, 0, 0, 0, [], 0)), (26, .ireturn, 1, (0, 0, 1, 0, [], 0))]
def bX2_readGap_2 : ms_B := [(27, .aload_n 0, 1, (0, 0, 0, 0, [], 0)), (28, .iconst 1, 1, (1, 0, 0, 0, [], 0)), (29, .putfield 31, 3, (6, 2, 1, 0, [], 108)), (32, .aload_n 1, 1, (0, 1, 0, 0, [], 0)), (33, .aload_n 0, 1, (0, 0, 0, 0, [], 0)), (34, .getfield 38, 3, (8, 2, 3, 0, [], 110)), (37, .iconst 0, 1, (0, 0, 0, 0, [], 0)), (38, .iaload, 1, (0, 0, 0, 0, [], 0)), (39, .putfield 83, 3, (4, 3, 0, 0, [], 150)), (42, .iconst 1, 1, (1, 0, 0, 0, [], 0)), (43, .ireturn, 1, (0, 0, 1, 0, [], 0))]
def MX2_readGap : ms_M := (yX2_readGap, cX2_readGap, 2, (some .boolean), (0, 0), (0, 2), [353, 352, 7, 79], [bX2_readGap_0, bX2_readGap_1, bX2_readGap_2], [])
def bX2_readHands_0 : ms_B := [(0, .aload_n 0, 1, (0, 0, 0, 0, [], 0)), (1, .getfield 35, 3, (7, 2, 1, 0, [], 109)), (4, .ifCond .ne 32, 3, (0, 1, 0, 0, [], 0)), (7, .aload_n 0, 1, (0, 0, 0, 0, [], 0)), (8, .iconst 0, 1, (0, 0, 0, 0, [], 0)), (9, .iconst 0, 1, (0, 0, 0, 0, [], 0)), (10, .bipush 9, 2, (9, 0, 0, 0, [], 0)), (12, .invokevirtual 71, 3, (0, 20, 4, 3, [], 338)), (15, .ifCond .eq 21, 3, (0, 1, 0, 0, [], 0)), (18, .aload_n 0, 1, (0, 0, 0, 0, [], 0)), (19, .iconst 1, 1, (1, 0, 0, 0, [], 0)), (20, .iconst 0, 1, (0, 0, 0, 0, [], 0)), (21, .bipush 9, 2, (9, 0, 0, 0, [], 0)), (23, .invokevirtual 71, 3, (0, 20, 4, 3, [], 338)), (26, .ifCond .eq 10, 3, (0, 1, 0, 0, [], 0)), (29, .aload_n 0, 1, (0, 0, 0, 0, [], 0)), (30, .invokevirtual 75, 3, (0, 21, 1, 3, [], 342)), (33, .ifCond .ne 5, 3, (0, 2, 0, 0, [], 0)), (36, .nop, 1, (0, 1, 0, 0, [], 0))]
def bX2_readHands_1 : ms_B := [(36, .iconst 0, 1, (0, 0, 0, 0, [], 0)), (37, .ireturn, 1, (0, 0, 1, 0, [], 0))]
def bX2_readHands_2 : ms_B := [(38, .aload_n 0, 1, (0, 0, 0, 0, [], 0)), (39, .iconst 1, 1, (1, 0, 0, 0, [], 0)), (40, .putfield 35, 3, (7, 2, 1, 0, [], 109)), (43, .aload_n 1, 1, (0, 1, 0, 0, [], 0)), (44, .getfield 86, 3, (5, 3, 3, 0, [], 154)), (47, .iconst 0, 1, (0, 0, 0, 0, [], 0)), (48, .aload_n 0, 1, (0, 0, 0, 0, [], 0)), (49, .getfield 38, 3, (8, 2, 3, 0, [], 110)), (52, .iconst 0, 1, (0, 0, 0, 0, [], 0)), (53, .iaload, 1, (0, 0, 0, 0, [], 0)), (54, .iastore, 1, (0, 0, 0, 0, [], 0)), (55, .aload_n 1, 1, (0, 1, 0, 0, [], 0)), (56, .getfield 86, 3, (5, 3, 3, 0, [], 154)), (59, .iconst 1, 1, (1, 0, 0, 0, [], 0)), (60, .aload_n 0, 1, (0, 0, 0, 0, [], 0)), (61, .getfield 38, 3, (8, 2, 3, 0, [], 110)), (64, .iconst 1, 1, (1, 0, 0, 0, [], 0)), (65, .iaload, 1, (0, 0, 0, 0, [], 0)), (66, .iastore, 1, (0, 0, 0, 0, [], 0)), (67, .iconst 1, 1, (1, 0, 0, 0, [], 0)), (68, .ireturn, 1, (0, 0, 1, 0, [], 0))]
def MX2_readHands : ms_M := (yX2_readHands, cX2_readHands, 2, (some .boolean), (0, 0), (0, 2), [357, 356, 8, 79], [bX2_readHands_0, bX2_readHands_1, bX2_readHands_2], [])
def bX2_readVoter_0 : ms_B := [(0, .aload_n 1, 1, (0, 1, 0, 0, [], 0)), (1, .getfield 89, 3, (6, 3, 0, 0, [], 156)), (4, .bipush 6, 2, (6, 0, 0, 0, [], 0)), (6, .if_icmp .lt 5, 3, (0, 1, 0, 0, [], 0)), (9, .iconst 0, 1, (0, 0, 0, 0, [], 0)), (10, .ireturn, 1, (0, 0, 1, 0, [], 0))]
def bX2_readVoter_1 : ms_B := [(11, .aload_n 0, 1, (0, 0, 0, 0, [], 0)), (12, .iconst 0, 1, (0, 0, 0, 0, [], 0)), (13, .iconst 1, 1, (1, 0, 0, 0, [], 0)), (14, .bipush 9, 2, (9, 0, 0, 0, [], 0)), (16, .invokevirtual 71, 3, (0, 20, 4, 3, [], 338)), (19, .ifCond .eq 20, 3, (0, 2, 0, 0, [], 0)), (22, .aload_n 0, 1, (0, 0, 0, 0, [], 0)), (23, .iconst 1, 1, (1, 0, 0, 0, [], 0)), (24, .iconst 0, 1, (0, 0, 0, 0, [], 0)), (25, .iconst 1, 1, (1, 0, 0, 0, [], 0)), (26, .invokevirtual 71, 3, (0, 20, 4, 3, [], 338)), (29, .ifCond .eq 10, 3, (0, 2, 0, 0, [], 0)), (32, .aload_n 0, 1, (0, 0, 0, 0, [], 0)), (33, .invokevirtual 75, 3, (0, 21, 1, 3, [], 342)), (36, .ifCond .ne 5, 3, (0, 3, 0, 0, [], 0)), (39, .nop, 1, (0, 2, 0, 0, [], 0))]
def bX2_readVoter_2 : ms_B := [(39, .iconst 0, 1, (0, 0, 0, 0, [], 0)), (40, .ireturn, 1, (0, 0, 1, 0, [], 0))]
def bX2_readVoter_3 : ms_B := [(41, .aload_n 1, 1, (0, 1, 0, 0, [], 0)), (42, .aload_n 0, 1, (0, 0, 0, 0, [], 0)), (43, .getfield 38, 3, (8, 2, 3, 0, [], 110)), (46, .iconst 0, 1, (0, 0, 0, 0, [], 0)), (47, .iaload, 1, (0, 0, 0, 0, [], 0)), (48, .aload_n 0, 1, (0, 0, 0, 0, [], 0)), (49, .getfield 38, 3, (8, 2, 3, 0, [], 110)), (52, .iconst 1, 1, (1, 0, 0, 0, [], 0)), (53, .iaload, 1, (0, 0, 0, 0, [], 0)), (54, .invokevirtual 92, 3, (0, 28, 3, 4, [], 362)), (57, .iconst 1, 1, (1, 0, 0, 0, [], 0)), (58, .ireturn, 1, (0, 0, 1, 0, [], 0))]
def MX2_readVoter : ms_M := (yX2_readVoter, cX2_readVoter, 2, (some .boolean), (0, 0), (0, 2), [361, 360, 9, 79], [bX2_readVoter_0, bX2_readVoter_1, bX2_readVoter_2, bX2_readVoter_3], [])
def bX2_readDay_0 : ms_B := [(0, .aload_n 1, 1, (0, 1, 0, 0, [], 0)), (1, .getfield 96, 3, (9, 3, 0, 0, [], 163)), (4, .bipush 8, 2, (8, 0, 0, 0, [], 0)), (6, .if_icmp .ge 21, 3, (0, 1, 0, 0, [], 0)), (9, .aload_n 0, 1, (0, 0, 0, 0, [], 0)), (10, .iconst 0, 1, (0, 0, 0, 0, [], 0)), (11, .iconst 0, 1, (0, 0, 0, 0, [], 0)), (12, .bipush 30, 2, (30, 0, 0, 0, [], 0)), (14, .invokevirtual 71, 3, (0, 20, 4, 3, [], 338)), (17, .ifCond .eq 10, 3, (0, 1, 0, 0, [], 0)), (20, .aload_n 0, 1, (0, 0, 0, 0, [], 0)), (21, .invokevirtual 75, 3, (0, 21, 1, 3, [], 342)), (24, .ifCond .ne 5, 3, (0, 2, 0, 0, [], 0)), (27, .nop, 1, (0, 1, 0, 0, [], 0))]
def bX2_readDay_1 : ms_B := [(27, .iconst 0, 1, (0, 0, 0, 0, [], 0)), (28, .ireturn, 1, (0, 0, 1, 0, [], 0))]
def bX2_readDay_2 : ms_B := [(29, .aload_n 1, 1, (0, 1, 0, 0, [], 0)), (30, .aload_n 0, 1, (0, 0, 0, 0, [], 0)), (31, .getfield 38, 3, (8, 2, 3, 0, [], 110)), (34, .iconst 0, 1, (0, 0, 0, 0, [], 0)), (35, .iaload, 1, (0, 0, 0, 0, [], 0)), (36, .invokevirtual 99, 3, (0, 29, 2, 4, [], 370)), (39, .iconst 1, 1, (1, 0, 0, 0, [], 0)), (40, .ireturn, 1, (0, 0, 1, 0, [], 0))]
def MX2_readDay : ms_M := (yX2_readDay, cX2_readDay, 2, (some .boolean), (0, 0), (0, 2), [369, 368, 10, 79], [bX2_readDay_0, bX2_readDay_1, bX2_readDay_2], [])
def bX2_number_0 : ms_B := [(0, .aload_n 0, 1, (0, 0, 0, 0, [], 0)), (1, .invokevirtual 46, 3, (0, 22, 1, 3, [], 317)), (4, .aload_n 0, 1, (0, 0, 0, 0, [], 0)), (5, .getfield 22, 3, (3, 2, 0, 0, [], 105)), (8, .iconst 2, 1, (2, 0, 0, 0, [], 0)), (9, .if_icmp .ne 15, 3, (0, 1, 0, 0, [], 0)), (12, .aload_n 0, 1, (0, 0, 0, 0, [], 0)), (13, .getfield 28, 3, (5, 2, 0, 0, [], 107)), (16, .iload_n 2, 1, (0, 2, 0, 0, [], 0)), (17, .iload_n 3, 1, (0, 3, 0, 0, [], 0)), (18, .invokestatic 103, 3, (0, 60, 3, 0, [], 321)), (21, .ifCond .ne 5, 3, (0, 2, 0, 0, [], 0)), (24, .nop, 1, (0, 1, 0, 0, [], 0))]
def bX2_number_1 : ms_B := [(24, .iconst 0, 1, (0, 0, 0, 0, [], 0)), (25, .ireturn, 1, (0, 0, 1, 0, [], 0))]
def bX2_number_2 : ms_B := [(26, .aload_n 0, 1, (0, 0, 0, 0, [], 0)), (27, .getfield 38, 3, (8, 2, 3, 0, [], 110)), (30, .iload_n 1, 1, (0, 1, 0, 0, [], 0)), (31, .aload_n 0, 1, (0, 0, 0, 0, [], 0)), (32, .getfield 28, 3, (5, 2, 0, 0, [], 107)), (35, .iastore, 1, (0, 0, 0, 0, [], 0)), (36, .iconst 1, 1, (1, 0, 0, 0, [], 0)), (37, .ireturn, 1, (0, 0, 1, 0, [], 0))]
def MX2_number : ms_M := (yX2_number, cX2_number, 4, (some .boolean), (0, 0), (0, 4), [341, 340, 5, 79], [bX2_number_0, bX2_number_1, bX2_number_2], [])
def bX2_ended_0 : ms_B := [(0, .aload_n 0, 1, (0, 0, 0, 0, [], 0)), (1, .invokevirtual 46, 3, (0, 22, 1, 3, [], 317)), (4, .aload_n 0, 1, (0, 0, 0, 0, [], 0)), (5, .getfield 22, 3, (3, 2, 0, 0, [], 105)), (8, .iconst 3, 1, (3, 0, 0, 0, [], 0)), (9, .if_icmp .ne 7, 3, (0, 1, 0, 0, [], 0)), (12, .iconst 1, 1, (1, 0, 0, 0, [], 0)), (13, .goto 4, 3, (0, 2, 0, 0, [], 0))]
def bX2_ended_1 : ms_B := [(16, .iconst 0, 1, (0, 0, 0, 0, [], 0)), (17, .nop, 1, (0, 2, 0, 0, [], 0))]
def bX2_ended_2 : ms_B := [(17, .ireturn, 1, (0, 0, 1, 0, [], 0))]
def MX2_ended : ms_M := (yX2_ended, cX2_ended, 1, (some .boolean), (0, 0), (0, 1), [345, 344, 6, 79], [bX2_ended_0, bX2_ended_1, bX2_ended_2], [])
def bX2_take_0 : ms_B := [(0, .nop, 1, (0, 100, 0, 0, [], 0))]
def bX2_take_1 : ms_B := [(38, .aload_n 0, 1, (0, 0, 0, 0, [], 0)), (39, .aload_n 0, 1, (0, 0, 0, 0, [], 0)), (40, .getfield 19, 3, (2, 2, 0, 0, [], 104)), (43, .putfield 25, 3, (4, 2, 0, 0, [], 106)), (46, .aload_n 0, 1, (0, 0, 0, 0, [], 0)), (47, .iconst 0, 1, (0, 0, 0, 0, [], 0)), (48, .putfield 28, 3, (5, 2, 0, 0, [], 107)), (51, .aload_n 0, 1, (0, 0, 0, 0, [], 0)), (52, .getfield 19, 3, (2, 2, 0, 0, [], 104)), (55, .aload_n 0, 1, (0, 0, 0, 0, [], 0)), (56, .getfield 15, 3, (1, 2, 0, 0, [], 102)), (59, .if_icmp .lt 11, 3, (0, 2, 0, 0, [], 0)), (62, .aload_n 0, 1, (0, 0, 0, 0, [], 0)), (63, .iconst 0, 1, (0, 0, 0, 0, [], 0)), (64, .putfield 22, 3, (3, 2, 0, 0, [], 105)), (67, .goto 88, 3, (0, 7, 0, 0, [], 0))]
def bX2_take_2 : ms_B := [(70, .aload_n 0, 1, (0, 0, 0, 0, [], 0)), (71, .getfield 9, 3, (0, 2, 3, 0, [], 101)), (74, .aload_n 0, 1, (0, 0, 0, 0, [], 0)), (75, .getfield 19, 3, (2, 2, 0, 0, [], 104)), (78, .iaload, 1, (0, 0, 0, 0, [], 0)), (79, .bipush 97, 2, (97, 0, 0, 0, [], 0)), (81, .bipush 122, 2, (122, 0, 0, 0, [], 0)), (83, .invokestatic 103, 3, (0, 60, 3, 0, [], 321)), (86, .ifCond .eq 10, 3, (0, 3, 0, 0, [], 0)), (89, .aload_n 0, 1, (0, 0, 0, 0, [], 0)), (90, .invokevirtual 106, 3, (0, 23, 1, 3, [], 322)), (93, .goto 62, 3, (0, 7, 0, 0, [], 0))]
def bX2_take_3 : ms_B := [(96, .aload_n 0, 1, (0, 0, 0, 0, [], 0)), (97, .getfield 9, 3, (0, 2, 3, 0, [], 101)), (100, .aload_n 0, 1, (0, 0, 0, 0, [], 0)), (101, .getfield 19, 3, (2, 2, 0, 0, [], 104)), (104, .iaload, 1, (0, 0, 0, 0, [], 0)), (105, .bipush 48, 2, (48, 0, 0, 0, [], 0)), (107, .bipush 57, 2, (57, 0, 0, 0, [], 0)), (109, .invokestatic 103, 3, (0, 60, 3, 0, [], 321)), (112, .ifCond .eq 10, 3, (0, 4, 0, 0, [], 0)), (115, .aload_n 0, 1, (0, 0, 0, 0, [], 0)), (116, .invokevirtual 109, 3, (0, 24, 1, 3, [], 326)), (119, .goto 36, 3, (0, 7, 0, 0, [], 0))]
def bX2_take_4 : ms_B := [(122, .aload_n 0, 1, (0, 0, 0, 0, [], 0)), (123, .aload_n 0, 1, (0, 0, 0, 0, [], 0)), (124, .getfield 9, 3, (0, 2, 3, 0, [], 101)), (127, .aload_n 0, 1, (0, 0, 0, 0, [], 0)), (128, .getfield 19, 3, (2, 2, 0, 0, [], 104)), (131, .iaload, 1, (0, 0, 0, 0, [], 0)), (132, .bipush 59, 2, (59, 0, 0, 0, [], 0)), (134, .if_icmp .ne 7, 3, (0, 5, 0, 0, [], 0)), (137, .iconst 3, 1, (3, 0, 0, 0, [], 0)), (138, .goto 4, 3, (0, 6, 0, 0, [], 0))]
def bX2_take_5 : ms_B := [(141, .iconst 4, 1, (4, 0, 0, 0, [], 0)), (142, .nop, 1, (0, 6, 0, 0, [], 0))]
def bX2_take_6 : ms_B := [(142, .putfield 22, 3, (3, 2, 0, 0, [], 105)), (145, .aload_n 0, 1, (0, 0, 0, 0, [], 0)), (146, .dup, 1, (0, 0, 0, 0, [], 0)), (147, .getfield 19, 3, (2, 2, 0, 0, [], 104)), (150, .iconst 1, 1, (1, 0, 0, 0, [], 0)), (151, .iadd, 1, (0, 0, 0, 0, [], 0)), (152, .putfield 19, 3, (2, 2, 0, 0, [], 104)), (155, .nop, 1, (0, 7, 0, 0, [], 0))]
def bX2_take_7 : ms_B := [(155, .return_, 1, (0, 0, 0, 0, [], 0))]
def bX2_take_100 : ms_B := [(0, .aload_n 0, 1, (0, 0, 0, 0, [], 0)), (1, .getfield 19, 3, (2, 2, 0, 0, [], 104)), (4, .aload_n 0, 1, (0, 0, 0, 0, [], 0)), (5, .getfield 15, 3, (1, 2, 0, 0, [], 102)), (8, .if_icmp .ge 30, 3, (0, 1, 0, 0, [], 0)), (11, .aload_n 0, 1, (0, 0, 0, 0, [], 0)), (12, .getfield 9, 3, (0, 2, 3, 0, [], 101)), (15, .aload_n 0, 1, (0, 0, 0, 0, [], 0)), (16, .getfield 19, 3, (2, 2, 0, 0, [], 104)), (19, .iaload, 1, (0, 0, 0, 0, [], 0)), (20, .bipush 32, 2, (32, 0, 0, 0, [], 0)), (22, .if_icmp .ne 16, 3, (0, 1, 0, 0, [], 0)), (25, .aload_n 0, 1, (0, 0, 0, 0, [], 0)), (26, .dup, 1, (0, 0, 0, 0, [], 0)), (27, .getfield 19, 3, (2, 2, 0, 0, [], 104)), (30, .iconst 1, 1, (1, 0, 0, 0, [], 0)), (31, .iadd, 1, (0, 0, 0, 0, [], 0)), (32, .putfield 19, 3, (2, 2, 0, 0, [], 104)), (35, .goto (-35), 3, (0, 100, 0, 0, [], 0))]
def MX2_take : ms_M := (yX2_take, cX2_take, 1, none, (0, 0), (0, 1), [320, 319, 0, 79], [bX2_take_0, bX2_take_1, bX2_take_2, bX2_take_3, bX2_take_4, bX2_take_5, bX2_take_6, bX2_take_7], [bX2_take_100])
def bX2_takeLetters_0 : ms_B := [(0, .aload_n 0, 1, (0, 0, 0, 0, [], 0)), (1, .iconst 1, 1, (1, 0, 0, 0, [], 0)), (2, .putfield 22, 3, (3, 2, 0, 0, [], 105)), (5, .aload_n 0, 1, (0, 0, 0, 0, [], 0)), (6, .aload_n 0, 1, (0, 0, 0, 0, [], 0)), (7, .getfield 9, 3, (0, 2, 3, 0, [], 101)), (10, .aload_n 0, 1, (0, 0, 0, 0, [], 0)), (11, .getfield 25, 3, (4, 2, 0, 0, [], 106)), (14, .iaload, 1, (0, 0, 0, 0, [], 0)), (15, .putfield 28, 3, (5, 2, 0, 0, [], 107)), (18, .nop, 1, (0, 100, 0, 0, [], 0))]
def bX2_takeLetters_1 : ms_B := [(70, .aload_n 0, 1, (0, 0, 0, 0, [], 0)), (71, .getfield 19, 3, (2, 2, 0, 0, [], 104)), (74, .aload_n 0, 1, (0, 0, 0, 0, [], 0)), (75, .getfield 25, 3, (4, 2, 0, 0, [], 106)), (78, .isub, 1, (0, 0, 0, 0, [], 0)), (79, .iconst 1, 1, (1, 0, 0, 0, [], 0)), (80, .if_icmp .le 8, 3, (0, 2, 0, 0, [], 0)), (83, .aload_n 0, 1, (0, 0, 0, 0, [], 0)), (84, .iconst 0, 1, (0, 0, 0, 0, [], 0)), (85, .putfield 28, 3, (5, 2, 0, 0, [], 107)), (88, .nop, 1, (0, 2, 0, 0, [], 0))]
def bX2_takeLetters_2 : ms_B := [(88, .return_, 1, (0, 0, 0, 0, [], 0))]
def bX2_takeLetters_100 : ms_B := [(18, .aload_n 0, 1, (0, 0, 0, 0, [], 0)), (19, .getfield 19, 3, (2, 2, 0, 0, [], 104)), (22, .aload_n 0, 1, (0, 0, 0, 0, [], 0)), (23, .getfield 15, 3, (1, 2, 0, 0, [], 102)), (26, .if_icmp .ge 44, 3, (0, 1, 0, 0, [], 0)), (29, .aload_n 0, 1, (0, 0, 0, 0, [], 0)), (30, .getfield 9, 3, (0, 2, 3, 0, [], 101)), (33, .aload_n 0, 1, (0, 0, 0, 0, [], 0)), (34, .getfield 19, 3, (2, 2, 0, 0, [], 104)), (37, .iaload, 1, (0, 0, 0, 0, [], 0)), (38, .bipush 97, 2, (97, 0, 0, 0, [], 0)), (40, .if_icmp .lt 30, 3, (0, 1, 0, 0, [], 0)), (43, .aload_n 0, 1, (0, 0, 0, 0, [], 0)), (44, .getfield 9, 3, (0, 2, 3, 0, [], 101)), (47, .aload_n 0, 1, (0, 0, 0, 0, [], 0)), (48, .getfield 19, 3, (2, 2, 0, 0, [], 104)), (51, .iaload, 1, (0, 0, 0, 0, [], 0)), (52, .bipush 122, 2, (122, 0, 0, 0, [], 0)), (54, .if_icmp .gt 16, 3, (0, 1, 0, 0, [], 0)), (57, .aload_n 0, 1, (0, 0, 0, 0, [], 0)), (58, .dup, 1, (0, 0, 0, 0, [], 0)), (59, .getfield 19, 3, (2, 2, 0, 0, [], 104)), (62, .iconst 1, 1, (1, 0, 0, 0, [], 0)), (63, .iadd, 1, (0, 0, 0, 0, [], 0)), (64, .putfield 19, 3, (2, 2, 0, 0, [], 104)), (67, .goto (-49), 3, (0, 100, 0, 0, [], 0))]
def MX2_takeLetters : ms_M := (yX2_takeLetters, cX2_takeLetters, 1, none, (0, 0), (0, 1), [325, 324, 1, 79], [bX2_takeLetters_0, bX2_takeLetters_1, bX2_takeLetters_2], [bX2_takeLetters_100])
def bX2_takeNumber_0 : ms_B := [(0, .nop, 1, (0, 100, 0, 0, [], 0))]
def bX2_takeNumber_1 : ms_B := [(76, .aload_n 0, 1, (0, 0, 0, 0, [], 0)), (77, .dup, 1, (0, 0, 0, 0, [], 0)), (78, .getfield 19, 3, (2, 2, 0, 0, [], 104)), (81, .iconst 1, 1, (1, 0, 0, 0, [], 0)), (82, .iadd, 1, (0, 0, 0, 0, [], 0)), (83, .putfield 19, 3, (2, 2, 0, 0, [], 104)), (86, .goto (-86), 3, (0, 100, 0, 0, [], 0))]
def bX2_takeNumber_2 : ms_B := [(89, .aload_n 0, 1, (0, 0, 0, 0, [], 0)), (90, .getfield 19, 3, (2, 2, 0, 0, [], 104)), (93, .aload_n 0, 1, (0, 0, 0, 0, [], 0)), (94, .getfield 25, 3, (4, 2, 0, 0, [], 106)), (97, .isub, 1, (0, 0, 0, 0, [], 0)), (98, .istore_n 1, 1, (0, 1, 0, 0, [], 0)), (99, .iload_n 1, 1, (0, 1, 0, 0, [], 0)), (100, .iconst 1, 1, (1, 0, 0, 0, [], 0)), (101, .if_icmp .le 21, 3, (0, 3, 0, 0, [], 0)), (104, .aload_n 0, 1, (0, 0, 0, 0, [], 0)), (105, .getfield 9, 3, (0, 2, 3, 0, [], 101)), (108, .aload_n 0, 1, (0, 0, 0, 0, [], 0)), (109, .getfield 25, 3, (4, 2, 0, 0, [], 106)), (112, .iaload, 1, (0, 0, 0, 0, [], 0)), (113, .bipush 48, 2, (48, 0, 0, 0, [], 0)), (115, .if_icmp .ne 7, 3, (0, 3, 0, 0, [], 0)), (118, .iconst 1, 1, (1, 0, 0, 0, [], 0)), (119, .goto 4, 3, (0, 4, 0, 0, [], 0))]
def bX2_takeNumber_3 : ms_B := [(122, .iconst 0, 1, (0, 0, 0, 0, [], 0)), (123, .nop, 1, (0, 4, 0, 0, [], 0))]
def bX2_takeNumber_4 : ms_B := [(123, .istore_n 2, 1, (0, 2, 0, 0, [], 0)), (124, .aload_n 0, 1, (0, 0, 0, 0, [], 0)), (125, .iload_n 1, 1, (0, 1, 0, 0, [], 0)), (126, .iconst 2, 1, (2, 0, 0, 0, [], 0)), (127, .if_icmp .gt 7, 3, (0, 5, 0, 0, [], 0)), (130, .iload_n 2, 1, (0, 2, 0, 0, [], 0)), (131, .ifCond .eq 7, 3, (0, 6, 0, 0, [], 0)), (134, .nop, 1, (0, 5, 0, 0, [], 0))]
def bX2_takeNumber_5 : ms_B := [(134, .iconst 4, 1, (4, 0, 0, 0, [], 0)), (135, .goto 4, 3, (0, 7, 0, 0, [], 0))]
def bX2_takeNumber_6 : ms_B := [(138, .iconst 2, 1, (2, 0, 0, 0, [], 0)), (139, .nop, 1, (0, 7, 0, 0, [], 0))]
def bX2_takeNumber_7 : ms_B := [(139, .putfield 22, 3, (3, 2, 0, 0, [], 105)), (142, .return_, 1, (0, 0, 0, 0, [], 0))]
def bX2_takeNumber_100 : ms_B := [(0, .aload_n 0, 1, (0, 0, 0, 0, [], 0)), (1, .getfield 19, 3, (2, 2, 0, 0, [], 104)), (4, .aload_n 0, 1, (0, 0, 0, 0, [], 0)), (5, .getfield 15, 3, (1, 2, 0, 0, [], 102)), (8, .if_icmp .ge 81, 3, (0, 2, 0, 0, [], 0)), (11, .aload_n 0, 1, (0, 0, 0, 0, [], 0)), (12, .getfield 9, 3, (0, 2, 3, 0, [], 101)), (15, .aload_n 0, 1, (0, 0, 0, 0, [], 0)), (16, .getfield 19, 3, (2, 2, 0, 0, [], 104)), (19, .iaload, 1, (0, 0, 0, 0, [], 0)), (20, .bipush 48, 2, (48, 0, 0, 0, [], 0)), (22, .if_icmp .lt 67, 3, (0, 2, 0, 0, [], 0)), (25, .aload_n 0, 1, (0, 0, 0, 0, [], 0)), (26, .getfield 9, 3, (0, 2, 3, 0, [], 101)), (29, .aload_n 0, 1, (0, 0, 0, 0, [], 0)), (30, .getfield 19, 3, (2, 2, 0, 0, [], 104)), (33, .iaload, 1, (0, 0, 0, 0, [], 0)), (34, .bipush 57, 2, (57, 0, 0, 0, [], 0)), (36, .if_icmp .gt 53, 3, (0, 2, 0, 0, [], 0)), (39, .aload_n 0, 1, (0, 0, 0, 0, [], 0)), (40, .getfield 19, 3, (2, 2, 0, 0, [], 104)), (43, .aload_n 0, 1, (0, 0, 0, 0, [], 0)), (44, .getfield 25, 3, (4, 2, 0, 0, [], 106)), (47, .isub, 1, (0, 0, 0, 0, [], 0)), (48, .iconst 2, 1, (2, 0, 0, 0, [], 0)), (49, .if_icmp .ge 27, 3, (0, 1, 0, 0, [], 0)), (52, .aload_n 0, 1, (0, 0, 0, 0, [], 0)), (53, .aload_n 0, 1, (0, 0, 0, 0, [], 0)), (54, .getfield 28, 3, (5, 2, 0, 0, [], 107)), (57, .bipush 10, 2, (10, 0, 0, 0, [], 0)), (59, .imul, 1, (0, 0, 0, 0, [], 0)), (60, .aload_n 0, 1, (0, 0, 0, 0, [], 0)), (61, .getfield 9, 3, (0, 2, 3, 0, [], 101)), (64, .aload_n 0, 1, (0, 0, 0, 0, [], 0)), (65, .getfield 19, 3, (2, 2, 0, 0, [], 104)), (68, .iaload, 1, (0, 0, 0, 0, [], 0)), (69, .iadd, 1, (0, 0, 0, 0, [], 0)), (70, .bipush 48, 2, (48, 0, 0, 0, [], 0)), (72, .isub, 1, (0, 0, 0, 0, [], 0)), (73, .putfield 28, 3, (5, 2, 0, 0, [], 107)), (76, .nop, 1, (0, 1, 0, 0, [], 0))]
def MX2_takeNumber : ms_M := (yX2_takeNumber, cX2_takeNumber, 3, none, (0, 0), (0, 1), [329, 328, 2, 79], [bX2_takeNumber_0, bX2_takeNumber_1, bX2_takeNumber_2, bX2_takeNumber_3, bX2_takeNumber_4, bX2_takeNumber_5, bX2_takeNumber_6, bX2_takeNumber_7], [bX2_takeNumber_100])
def bX3_init_0 : ms_B := [(0, .aload_n 0, 1, (0, 0, 0, 0, [], 0)), (1, .invokespecial 3, 3, (0, 1003, 0, 0, [], 136)), (4, .aload_n 0, 1, (0, 0, 0, 0, [], 0)), (5, .iconst 0, 1, (0, 0, 0, 0, [], 0)), (6, .putfield 9, 3, (0, 3, 0, 0, [], 137)), (9, .aload_n 0, 1, (0, 0, 0, 0, [], 0)), (10, .bipush 8, 2, (8, 0, 0, 0, [], 0)), (12, .newarray .int, 2, (0, 0, 10, 0, [], 0)), (14, .putfield 15, 3, (1, 3, 3, 0, [], 141)), (17, .aload_n 0, 1, (0, 0, 0, 0, [], 0)), (18, .bipush 8, 2, (8, 0, 0, 0, [], 0)), (20, .newarray .int, 2, (0, 0, 10, 0, [], 0)), (22, .putfield 19, 3, (2, 3, 3, 0, [], 143)), (25, .aload_n 0, 1, (0, 0, 0, 0, [], 0)), (26, .bipush 8, 2, (8, 0, 0, 0, [], 0)), (28, .newarray .int, 2, (0, 0, 10, 0, [], 0)), (30, .putfield 22, 3, (3, 3, 3, 0, [], 146)), (33, .aload_n 0, 1, (0, 0, 0, 0, [], 0)), (34, .iconst 2, 1, (2, 0, 0, 0, [], 0)), (35, .putfield 25, 3, (4, 3, 0, 0, [], 149)), (38, .aload_n 0, 1, (0, 0, 0, 0, [], 0)), (39, .iconst 2, 1, (2, 0, 0, 0, [], 0)), (40, .newarray .int, 2, (0, 0, 10, 0, [], 0)), (42, .dup, 1, (0, 0, 0, 0, [], 0)), (43, .iconst 0, 1, (0, 0, 0, 0, [], 0)), (44, .iconst 0, 1, (0, 0, 0, 0, [], 0)), (45, .iastore, 1, (0, 0, 0, 0, [], 0)), (46, .dup, 1, (0, 0, 0, 0, [], 0)), (47, .iconst 1, 1, (1, 0, 0, 0, [], 0)), (48, .iconst 3, 1, (3, 0, 0, 0, [], 0)), (49, .iastore, 1, (0, 0, 0, 0, [], 0)), (50, .putfield 28, 3, (5, 3, 3, 0, [], 152)), (53, .aload_n 0, 1, (0, 0, 0, 0, [], 0)), (54, .iconst 0, 1, (0, 0, 0, 0, [], 0)), (55, .putfield 31, 3, (6, 3, 0, 0, [], 155)), (58, .aload_n 0, 1, (0, 0, 0, 0, [], 0)), (59, .bipush 6, 2, (6, 0, 0, 0, [], 0)), (61, .newarray .int, 2, (0, 0, 10, 0, [], 0)), (63, .putfield 34, 3, (7, 3, 3, 0, [], 158)), (66, .aload_n 0, 1, (0, 0, 0, 0, [], 0)), (67, .bipush 6, 2, (6, 0, 0, 0, [], 0)), (69, .newarray .int, 2, (0, 0, 10, 0, [], 0)), (71, .putfield 37, 3, (8, 3, 3, 0, [], 160)), (74, .aload_n 0, 1, (0, 0, 0, 0, [], 0)), (75, .iconst 0, 1, (0, 0, 0, 0, [], 0)), (76, .putfield 40, 3, (9, 3, 0, 0, [], 162)), (79, .aload_n 0, 1, (0, 0, 0, 0, [], 0)), (80, .bipush 8, 2, (8, 0, 0, 0, [], 0)), (82, .newarray .int, 2, (0, 0, 10, 0, [], 0)), (84, .putfield 43, 3, (10, 3, 3, 0, [], 165)), (87, .return_, 1, (0, 0, 0, 0, [], 0))]
def MX3_init : ms_M := (yX3_init, cX3_init, 1, none, (7, 46), (2, 1), [135, 134, 0, 80], [bX3_init_0], [])
def bX3_begin_0 : ms_B := [(0, .aload_n 0, 1, (0, 0, 0, 0, [], 0)), (1, .iconst 0, 1, (0, 0, 0, 0, [], 0)), (2, .putfield 9, 3, (0, 3, 0, 0, [], 137)), (5, .aload_n 0, 1, (0, 0, 0, 0, [], 0)), (6, .iconst 2, 1, (2, 0, 0, 0, [], 0)), (7, .putfield 25, 3, (4, 3, 0, 0, [], 149)), (10, .aload_n 0, 1, (0, 0, 0, 0, [], 0)), (11, .getfield 28, 3, (5, 3, 3, 0, [], 152)), (14, .iconst 0, 1, (0, 0, 0, 0, [], 0)), (15, .iconst 0, 1, (0, 0, 0, 0, [], 0)), (16, .iastore, 1, (0, 0, 0, 0, [], 0)), (17, .aload_n 0, 1, (0, 0, 0, 0, [], 0)), (18, .getfield 28, 3, (5, 3, 3, 0, [], 152)), (21, .iconst 1, 1, (1, 0, 0, 0, [], 0)), (22, .iconst 3, 1, (3, 0, 0, 0, [], 0)), (23, .iastore, 1, (0, 0, 0, 0, [], 0)), (24, .aload_n 0, 1, (0, 0, 0, 0, [], 0)), (25, .iconst 0, 1, (0, 0, 0, 0, [], 0)), (26, .putfield 31, 3, (6, 3, 0, 0, [], 155)), (29, .aload_n 0, 1, (0, 0, 0, 0, [], 0)), (30, .iconst 0, 1, (0, 0, 0, 0, [], 0)), (31, .putfield 40, 3, (9, 3, 0, 0, [], 162)), (34, .return_, 1, (0, 0, 0, 0, [], 0))]
def MX3_begin : ms_M := (yX3_begin, cX3_begin, 1, none, (0, 0), (0, 1), [316, 314, 315, 80], [bX3_begin_0], [])
def bX3_addColumn_0 : ms_B := [(0, .aload_n 0, 1, (0, 0, 0, 0, [], 0)), (1, .getfield 9, 3, (0, 3, 0, 0, [], 137)), (4, .bipush 8, 2, (8, 0, 0, 0, [], 0)), (6, .if_icmp .ge 43, 3, (0, 1, 0, 0, [], 0)), (9, .aload_n 0, 1, (0, 0, 0, 0, [], 0)), (10, .getfield 15, 3, (1, 3, 3, 0, [], 141)), (13, .aload_n 0, 1, (0, 0, 0, 0, [], 0)), (14, .getfield 9, 3, (0, 3, 0, 0, [], 137)), (17, .iload_n 1, 1, (0, 1, 0, 0, [], 0)), (18, .iastore, 1, (0, 0, 0, 0, [], 0)), (19, .aload_n 0, 1, (0, 0, 0, 0, [], 0)), (20, .getfield 19, 3, (2, 3, 3, 0, [], 143)), (23, .aload_n 0, 1, (0, 0, 0, 0, [], 0)), (24, .getfield 9, 3, (0, 3, 0, 0, [], 137)), (27, .iload_n 2, 1, (0, 2, 0, 0, [], 0)), (28, .iastore, 1, (0, 0, 0, 0, [], 0)), (29, .aload_n 0, 1, (0, 0, 0, 0, [], 0)), (30, .getfield 22, 3, (3, 3, 3, 0, [], 146)), (33, .aload_n 0, 1, (0, 0, 0, 0, [], 0)), (34, .getfield 9, 3, (0, 3, 0, 0, [], 137)), (37, .iload_n 3, 1, (0, 3, 0, 0, [], 0)), (38, .iastore, 1, (0, 0, 0, 0, [], 0)), (39, .aload_n 0, 1, (0, 0, 0, 0, [], 0)), (40, .dup, 1, (0, 0, 0, 0, [], 0)), (41, .getfield 9, 3, (0, 3, 0, 0, [], 137)), (44, .iconst 1, 1, (1, 0, 0, 0, [], 0)), (45, .iadd, 1, (0, 0, 0, 0, [], 0)), (46, .putfield 9, 3, (0, 3, 0, 0, [], 137)), (49, .nop, 1, (0, 1, 0, 0, [], 0))]
def bX3_addColumn_1 : ms_B := [(49, .return_, 1, (0, 0, 0, 0, [], 0))]
def MX3_addColumn : ms_M := (yX3_addColumn, cX3_addColumn, 4, none, (0, 0), (0, 4), [349, 347, 348, 80], [bX3_addColumn_0, bX3_addColumn_1], [])
def bX3_addVoter_0 : ms_B := [(0, .aload_n 0, 1, (0, 0, 0, 0, [], 0)), (1, .getfield 31, 3, (6, 3, 0, 0, [], 155)), (4, .bipush 6, 2, (6, 0, 0, 0, [], 0)), (6, .if_icmp .ge 33, 3, (0, 1, 0, 0, [], 0)), (9, .aload_n 0, 1, (0, 0, 0, 0, [], 0)), (10, .getfield 34, 3, (7, 3, 3, 0, [], 158)), (13, .aload_n 0, 1, (0, 0, 0, 0, [], 0)), (14, .getfield 31, 3, (6, 3, 0, 0, [], 155)), (17, .iload_n 1, 1, (0, 1, 0, 0, [], 0)), (18, .iastore, 1, (0, 0, 0, 0, [], 0)), (19, .aload_n 0, 1, (0, 0, 0, 0, [], 0)), (20, .getfield 37, 3, (8, 3, 3, 0, [], 160)), (23, .aload_n 0, 1, (0, 0, 0, 0, [], 0)), (24, .getfield 31, 3, (6, 3, 0, 0, [], 155)), (27, .iload_n 2, 1, (0, 2, 0, 0, [], 0)), (28, .iastore, 1, (0, 0, 0, 0, [], 0)), (29, .aload_n 0, 1, (0, 0, 0, 0, [], 0)), (30, .dup, 1, (0, 0, 0, 0, [], 0)), (31, .getfield 31, 3, (6, 3, 0, 0, [], 155)), (34, .iconst 1, 1, (1, 0, 0, 0, [], 0)), (35, .iadd, 1, (0, 0, 0, 0, [], 0)), (36, .putfield 31, 3, (6, 3, 0, 0, [], 155)), (39, .nop, 1, (0, 1, 0, 0, [], 0))]
def bX3_addVoter_1 : ms_B := [(39, .return_, 1, (0, 0, 0, 0, [], 0))]
def MX3_addVoter : ms_M := (yX3_addVoter, cX3_addVoter, 3, none, (0, 0), (0, 3), [365, 363, 364, 80], [bX3_addVoter_0, bX3_addVoter_1], [])
def bX3_addDay_0 : ms_B := [(0, .aload_n 0, 1, (0, 0, 0, 0, [], 0)), (1, .getfield 40, 3, (9, 3, 0, 0, [], 162)), (4, .bipush 8, 2, (8, 0, 0, 0, [], 0)), (6, .if_icmp .ge 23, 3, (0, 1, 0, 0, [], 0)), (9, .aload_n 0, 1, (0, 0, 0, 0, [], 0)), (10, .getfield 43, 3, (10, 3, 3, 0, [], 165)), (13, .aload_n 0, 1, (0, 0, 0, 0, [], 0)), (14, .getfield 40, 3, (9, 3, 0, 0, [], 162)), (17, .iload_n 1, 1, (0, 1, 0, 0, [], 0)), (18, .iastore, 1, (0, 0, 0, 0, [], 0)), (19, .aload_n 0, 1, (0, 0, 0, 0, [], 0)), (20, .dup, 1, (0, 0, 0, 0, [], 0)), (21, .getfield 40, 3, (9, 3, 0, 0, [], 162)), (24, .iconst 1, 1, (1, 0, 0, 0, [], 0)), (25, .iadd, 1, (0, 0, 0, 0, [], 0)), (26, .putfield 40, 3, (9, 3, 0, 0, [], 162)), (29, .nop, 1, (0, 1, 0, 0, [], 0))]
def bX3_addDay_1 : ms_B := [(29, .return_, 1, (0, 0, 0, 0, [], 0))]
def MX3_addDay : ms_M := (yX3_addDay, cX3_addDay, 2, none, (0, 0), (0, 2), [373, 371, 372, 80], [bX3_addDay_0, bX3_addDay_1], [])
def bX3_warmOn_0 : ms_B := [(0, .aload_n 0, 1, (0, 0, 0, 0, [], 0)), (1, .getfield 40, 3, (9, 3, 0, 0, [], 162)), (4, .ifCond .le 21, 3, (0, 1, 0, 0, [], 0)), (7, .iload_n 1, 1, (0, 1, 0, 0, [], 0)), (8, .ifCond .lt 17, 3, (0, 1, 0, 0, [], 0)), (11, .aload_n 0, 1, (0, 0, 0, 0, [], 0)), (12, .getfield 43, 3, (10, 3, 3, 0, [], 165)), (15, .iload_n 1, 1, (0, 1, 0, 0, [], 0)), (16, .aload_n 0, 1, (0, 0, 0, 0, [], 0)), (17, .getfield 40, 3, (9, 3, 0, 0, [], 162)), (20, .irem, 1, (0, 0, 0, 0, [], 0)), (21, .iaload, 1, (0, 0, 0, 0, [], 0)), (22, .goto 4, 3, (0, 2, 0, 0, [], 0))]
def bX3_warmOn_1 : ms_B := [(25, .iconst 0, 1, (0, 0, 0, 0, [], 0)), (26, .nop, 1, (0, 2, 0, 0, [], 0))]
def bX3_warmOn_2 : ms_B := [(26, .ireturn, 1, (0, 0, 0, 0, [], 0))]
def MX3_warmOn : ms_M := (yX3_warmOn, cX3_warmOn, 2, (some .int), (0, 0), (0, 2), [409, 407, 408, 80], [bX3_warmOn_0, bX3_warmOn_1, bX3_warmOn_2], [])
def bX3_snowLimit_0 : ms_B := [(0, .aload_n 0, 1, (0, 0, 0, 0, [], 0)), (1, .getfield 15, 3, (1, 3, 3, 0, [], 141)), (4, .iload_n 2, 1, (0, 2, 0, 0, [], 0)), (5, .iaload, 1, (0, 0, 0, 0, [], 0)), (6, .iload_n 3, 1, (0, 3, 0, 0, [], 0)), (7, .iadd, 1, (0, 0, 0, 0, [], 0)), (8, .aload_n 0, 1, (0, 0, 0, 0, [], 0)), (9, .getfield 28, 3, (5, 3, 3, 0, [], 152)), (12, .iload_n 1, 1, (0, 1, 0, 0, [], 0)), (13, .iaload, 1, (0, 0, 0, 0, [], 0)), (14, .iadd, 1, (0, 0, 0, 0, [], 0)), (15, .ireturn, 1, (0, 0, 0, 0, [], 0))]
def MX3_snowLimit : ms_M := (yX3_snowLimit, cX3_snowLimit, 4, (some .int), (0, 0), (0, 4), [580, 578, 579, 80], [bX3_snowLimit_0], [])
def bX4_init_0 : ms_B := [(0, .aload_n 0, 1, (0, 0, 0, 0, [], 0)), (1, .invokespecial 1, 3, (0, 1003, 0, 0, [], 92)), (4, .aload_n 0, 1, (0, 0, 0, 0, [], 0)), (5, .new 7, 3, (0, 2, 96, 79, [], 95)), (8, .dup, 1, (0, 0, 0, 0, [], 0)), (9, .invokespecial 9, 3, (0, 11, 1, 3, [(2, 143)], 97)), (12, .putfield 10, 3, (0, 4, 3, 0, [], 255)), (15, .aload_n 0, 1, (0, 0, 0, 0, [], 0)), (16, .new 16, 3, (0, 3, 132, 80, [], 131)), (19, .dup, 1, (0, 0, 0, 0, [], 0)), (20, .invokespecial 18, 3, (0, 25, 1, 4, [(7, 46)], 133)), (23, .putfield 19, 3, (1, 4, 3, 0, [], 256)), (26, .aload_n 0, 1, (0, 0, 0, 0, [], 0)), (27, .new 16, 3, (0, 3, 132, 80, [], 131)), (30, .dup, 1, (0, 0, 0, 0, [], 0)), (31, .invokespecial 18, 3, (0, 25, 1, 4, [(7, 46)], 133)), (34, .putfield 23, 3, (2, 4, 3, 0, [], 257)), (37, .aload_n 0, 1, (0, 0, 0, 0, [], 0)), (38, .new 26, 3, (0, 0, 190, 81, [], 189)), (41, .dup, 1, (0, 0, 0, 0, [], 0)), (42, .invokespecial 28, 3, (0, 0, 1, 1, [], 191)), (45, .putfield 29, 3, (3, 4, 3, 0, [], 258)), (48, .aload_n 0, 1, (0, 0, 0, 0, [], 0)), (49, .new 33, 3, (0, 1, 223, 82, [], 222)), (52, .dup, 1, (0, 0, 0, 0, [], 0)), (53, .invokespecial 35, 3, (0, 4, 1, 2, [(4, 38)], 224)), (56, .putfield 36, 3, (4, 4, 3, 0, [], 259)), (59, .aload_n 0, 1, (0, 0, 0, 0, [], 0)), (60, .iconst 2, 1, (2, 0, 0, 0, [], 0)), (61, .anewarray 33, 3, (0, 0, 12, 0, [], 222)), (64, .dup, 1, (0, 0, 0, 0, [], 0)), (65, .iconst 0, 1, (0, 0, 0, 0, [], 0)), (66, .new 33, 3, (0, 1, 223, 82, [], 222)), (69, .dup, 1, (0, 0, 0, 0, [], 0)), (70, .invokespecial 35, 3, (0, 4, 1, 2, [(4, 38)], 224)), (73, .aastore, 1, (0, 0, 0, 0, [], 0)), (74, .dup, 1, (0, 0, 0, 0, [], 0)), (75, .iconst 1, 1, (1, 0, 0, 0, [], 0)), (76, .new 33, 3, (0, 1, 223, 82, [], 222)), (79, .dup, 1, (0, 0, 0, 0, [], 0)), (80, .invokespecial 35, 3, (0, 4, 1, 2, [(4, 38)], 224)), (83, .aastore, 1, (0, 0, 0, 0, [], 0)), (84, .putfield 40, 3, (5, 4, 3, 0, [], 260)), (87, .aload_n 0, 1, (0, 0, 0, 0, [], 0)), (88, .iconst 2, 1, (2, 0, 0, 0, [], 0)), (89, .newarray .boolean, 2, (0, 0, 11, 0, [], 0)), (91, .putfield 44, 3, (6, 4, 3, 0, [], 261)), (94, .aload_n 0, 1, (0, 0, 0, 0, [], 0)), (95, .iconst 0, 1, (0, 0, 0, 0, [], 0)), (96, .putfield 48, 3, (7, 4, 0, 0, [], 262)), (99, .aload_n 0, 1, (0, 0, 0, 0, [], 0)), (100, .iconst 0, 1, (0, 0, 0, 0, [], 0)), (101, .putfield 52, 3, (8, 4, 0, 0, [], 263)), (104, .aload_n 0, 1, (0, 0, 0, 0, [], 0)), (105, .bipush 39, 2, (39, 0, 0, 0, [], 0)), (107, .putfield 55, 3, (9, 4, 0, 0, [], 264)), (110, .aload_n 0, 1, (0, 0, 0, 0, [], 0)), (111, .lconst 0, 1, (0, 0, 0, 0, [], 0)), (112, .putfield 58, 3, (10, 4, 2, 0, [], 265)), (115, .return_, 1, (0, 0, 0, 0, [], 0))]
def MX4_init : ms_M := (yX4_init, cX4_init, 1, none, (37, 412), (2, 1), [91, 90, 0, 78], [bX4_init_0], [])
def bX4_type_0 : ms_B := [(0, .iload_n 1, 1, (0, 1, 0, 0, [], 0)), (1, .iconst 0, 1, (0, 0, 0, 0, [], 0)), (2, .sipush 255, 3, (255, 0, 0, 0, [], 0)), (5, .invokestatic 62, 3, (0, 60, 3, 0, [], 294)), (8, .ifCond .ne 5, 3, (0, 1, 0, 0, [], 0)), (11, .iconst (-1), 1, (-1, 0, 0, 0, [], 0)), (12, .ireturn, 1, (0, 0, 0, 0, [], 0))]
def bX4_type_1 : ms_B := [(13, .aload_n 0, 1, (0, 0, 0, 0, [], 0)), (14, .getfield 10, 3, (0, 4, 3, 0, [], 255)), (17, .iload_n 1, 1, (0, 1, 0, 0, [], 0)), (18, .invokevirtual 66, 3, (0, 12, 2, 3, [], 297)), (21, .ifCond .eq 13, 3, (0, 2, 0, 0, [], 0)), (24, .aload_n 0, 1, (0, 0, 0, 0, [], 0)), (25, .getfield 10, 3, (0, 4, 3, 0, [], 255)), (28, .getfield 70, 3, (1, 2, 0, 0, [], 103)), (31, .goto 5, 3, (0, 3, 0, 0, [], 0))]
def bX4_type_2 : ms_B := [(34, .bipush (-3), 2, (-3, 0, 0, 0, [], 0)), (36, .nop, 1, (0, 3, 0, 0, [], 0))]
def bX4_type_3 : ms_B := [(36, .ireturn, 1, (0, 0, 0, 0, [], 0))]
def MX4_type : ms_M := (yX4_type, cX4_type, 2, (some .int), (0, 0), (0, 2), [293, 291, 292, 78], [bX4_type_0, bX4_type_1, bX4_type_2, bX4_type_3], [])
def bX4_clear_0 : ms_B := [(0, .aload_n 0, 1, (0, 0, 0, 0, [], 0)), (1, .getfield 10, 3, (0, 4, 3, 0, [], 255)), (4, .getfield 70, 3, (1, 2, 0, 0, [], 103)), (7, .istore_n 1, 1, (0, 1, 0, 0, [], 0)), (8, .aload_n 0, 1, (0, 0, 0, 0, [], 0)), (9, .getfield 10, 3, (0, 4, 3, 0, [], 255)), (12, .iconst 0, 1, (0, 0, 0, 0, [], 0)), (13, .putfield 70, 3, (1, 2, 0, 0, [], 103)), (16, .iload_n 1, 1, (0, 1, 0, 0, [], 0)), (17, .ireturn, 1, (0, 0, 0, 0, [], 0))]
def MX4_clear : ms_M := (yX4_clear, cX4_clear, 2, (some .int), (0, 0), (0, 1), [304, 302, 303, 78], [bX4_clear_0], [])
def bX4_wold_0 : ms_B := [(0, .aload_n 0, 1, (0, 0, 0, 0, [], 0)), (1, .getfield 10, 3, (0, 4, 3, 0, [], 255)), (4, .aload_n 0, 1, (0, 0, 0, 0, [], 0)), (5, .getfield 23, 3, (2, 4, 3, 0, [], 257)), (8, .invokevirtual 73, 3, (0, 13, 2, 3, [], 309)), (11, .istore_n 1, 1, (0, 1, 0, 0, [], 0)), (12, .iload_n 1, 1, (0, 1, 0, 0, [], 0)), (13, .ifCond .ge 5, 3, (0, 1, 0, 0, [], 0)), (16, .iload_n 1, 1, (0, 1, 0, 0, [], 0)), (17, .ireturn, 1, (0, 0, 0, 0, [], 0))]
def bX4_wold_1 : ms_B := [(18, .aload_n 0, 1, (0, 0, 0, 0, [], 0)), (19, .getfield 19, 3, (1, 4, 3, 0, [], 256)), (22, .astore_n 2, 1, (0, 2, 0, 0, [], 0)), (23, .aload_n 0, 1, (0, 0, 0, 0, [], 0)), (24, .aload_n 0, 1, (0, 0, 0, 0, [], 0)), (25, .getfield 23, 3, (2, 4, 3, 0, [], 257)), (28, .putfield 19, 3, (1, 4, 3, 0, [], 256)), (31, .aload_n 0, 1, (0, 0, 0, 0, [], 0)), (32, .aload_n 2, 1, (0, 2, 0, 0, [], 0)), (33, .putfield 23, 3, (2, 4, 3, 0, [], 257)), (36, .aload_n 0, 1, (0, 0, 0, 0, [], 0)), (37, .getfield 10, 3, (0, 4, 3, 0, [], 255)), (40, .iconst 0, 1, (0, 0, 0, 0, [], 0)), (41, .putfield 70, 3, (1, 2, 0, 0, [], 103)), (44, .aload_n 0, 1, (0, 0, 0, 0, [], 0)), (45, .getfield 29, 3, (3, 4, 3, 0, [], 258)), (48, .iconst 0, 1, (0, 0, 0, 0, [], 0)), (49, .putfield 77, 3, (0, 0, 1, 0, [], 196)), (52, .aload_n 0, 1, (0, 0, 0, 0, [], 0)), (53, .getfield 36, 3, (4, 4, 3, 0, [], 259)), (56, .invokevirtual 81, 3, (0, 5, 1, 2, [], 374)), (59, .iconst 0, 1, (0, 0, 0, 0, [], 0)), (60, .istore_n 3, 1, (0, 3, 0, 0, [], 0)), (61, .nop, 1, (0, 100, 0, 0, [], 0))]
def bX4_wold_2 : ms_B := [(79, .aload_n 0, 1, (0, 0, 0, 0, [], 0)), (80, .invokevirtual 84, 3, (0, 82, 1, 5, [], 378)), (83, .iload_n 1, 1, (0, 1, 0, 0, [], 0)), (84, .ireturn, 1, (0, 0, 0, 0, [], 0))]
def bX4_wold_100 : ms_B := [(61, .iload_n 3, 1, (0, 3, 0, 0, [], 0)), (62, .iconst 2, 1, (2, 0, 0, 0, [], 0)), (63, .if_icmp .ge 16, 3, (0, 2, 0, 0, [], 0)), (66, .aload_n 0, 1, (0, 0, 0, 0, [], 0)), (67, .getfield 44, 3, (6, 4, 3, 0, [], 261)), (70, .iload_n 3, 1, (0, 3, 0, 0, [], 0)), (71, .iconst 0, 1, (0, 0, 0, 0, [], 0)), (72, .bastore, 1, (0, 0, 0, 0, [], 0)), (73, .iinc 3 1, 3, (1, 3, 0, 0, [], 0)), (76, .goto (-15), 3, (0, 100, 0, 0, [], 0))]
def MX4_wold : ms_M := (yX4_wold, cX4_wold, 4, (some .int), (0, 0), (0, 1), [308, 306, 307, 78], [bX4_wold_0, bX4_wold_1, bX4_wold_2], [bX4_wold_100])
def bX4_column_0 : ms_B := [(0, .aload_n 0, 1, (0, 0, 0, 0, [], 0)), (1, .iload_n 1, 1, (0, 1, 0, 0, [], 0)), (2, .invokevirtual 87, 3, (0, 61, 2, 5, [], 386)), (5, .ifCond .ne 5, 3, (0, 1, 0, 0, [], 0)), (8, .iconst (-1), 1, (-1, 0, 0, 0, [], 0)), (9, .ireturn, 1, (0, 0, 0, 0, [], 0))]
def bX4_column_1 : ms_B := [(10, .iload_n 2, 1, (0, 2, 0, 0, [], 0)), (11, .tableswitch 133 0 9 #[53, 63, 73, 83, 89, 95, 105, 112, 119, 126], 53, (0, 12, 0, 0, [(0, 2), (1, 3), (2, 4), (3, 5), (4, 6), (5, 7), (6, 8), (7, 9), (8, 10), (9, 11)], 0))]
def bX4_column_2 : ms_B := [(64, .aload_n 0, 1, (0, 0, 0, 0, [], 0)), (65, .getfield 19, 3, (1, 4, 3, 0, [], 256)), (68, .getfield 90, 3, (1, 3, 3, 0, [], 142)), (71, .iload_n 1, 1, (0, 1, 0, 0, [], 0)), (72, .iaload, 1, (0, 0, 0, 0, [], 0)), (73, .ireturn, 1, (0, 0, 0, 0, [], 0))]
def bX4_column_3 : ms_B := [(74, .aload_n 0, 1, (0, 0, 0, 0, [], 0)), (75, .getfield 19, 3, (1, 4, 3, 0, [], 256)), (78, .getfield 94, 3, (2, 3, 3, 0, [], 145)), (81, .iload_n 1, 1, (0, 1, 0, 0, [], 0)), (82, .iaload, 1, (0, 0, 0, 0, [], 0)), (83, .ireturn, 1, (0, 0, 0, 0, [], 0))]
def bX4_column_4 : ms_B := [(84, .aload_n 0, 1, (0, 0, 0, 0, [], 0)), (85, .getfield 19, 3, (1, 4, 3, 0, [], 256)), (88, .getfield 97, 3, (3, 3, 3, 0, [], 148)), (91, .iload_n 1, 1, (0, 1, 0, 0, [], 0)), (92, .iaload, 1, (0, 0, 0, 0, [], 0)), (93, .ireturn, 1, (0, 0, 0, 0, [], 0))]
def bX4_column_5 : ms_B := [(94, .aload_n 0, 1, (0, 0, 0, 0, [], 0)), (95, .iload_n 1, 1, (0, 1, 0, 0, [], 0)), (96, .invokevirtual 100, 3, (0, 68, 2, 5, [], 390)), (99, .ireturn, 1, (0, 0, 0, 0, [], 0))]
def bX4_column_6 : ms_B := [(100, .aload_n 0, 1, (0, 0, 0, 0, [], 0)), (101, .iload_n 1, 1, (0, 1, 0, 0, [], 0)), (102, .invokevirtual 104, 3, (0, 69, 2, 5, [], 410)), (105, .ireturn, 1, (0, 0, 0, 0, [], 0))]
def bX4_column_7 : ms_B := [(106, .aload_n 0, 1, (0, 0, 0, 0, [], 0)), (107, .getfield 36, 3, (4, 4, 3, 0, [], 259)), (110, .getfield 107, 3, (2, 1, 3, 0, [], 233)), (113, .iload_n 1, 1, (0, 1, 0, 0, [], 0)), (114, .iaload, 1, (0, 0, 0, 0, [], 0)), (115, .ireturn, 1, (0, 0, 0, 0, [], 0))]
def bX4_column_8 : ms_B := [(116, .aload_n 0, 1, (0, 0, 0, 0, [], 0)), (117, .iload_n 1, 1, (0, 1, 0, 0, [], 0)), (118, .iconst 0, 1, (0, 0, 0, 0, [], 0)), (119, .invokevirtual 110, 3, (0, 70, 3, 5, [], 414)), (122, .ireturn, 1, (0, 0, 0, 0, [], 0))]
def bX4_column_9 : ms_B := [(123, .aload_n 0, 1, (0, 0, 0, 0, [], 0)), (124, .iload_n 1, 1, (0, 1, 0, 0, [], 0)), (125, .iconst 1, 1, (1, 0, 0, 0, [], 0)), (126, .invokevirtual 110, 3, (0, 70, 3, 5, [], 414)), (129, .ireturn, 1, (0, 0, 0, 0, [], 0))]
def bX4_column_10 : ms_B := [(130, .aload_n 0, 1, (0, 0, 0, 0, [], 0)), (131, .iload_n 1, 1, (0, 1, 0, 0, [], 0)), (132, .iconst 0, 1, (0, 0, 0, 0, [], 0)), (133, .invokevirtual 114, 3, (0, 71, 3, 5, [], 418)), (136, .ireturn, 1, (0, 0, 0, 0, [], 0))]
def bX4_column_11 : ms_B := [(137, .aload_n 0, 1, (0, 0, 0, 0, [], 0)), (138, .iload_n 1, 1, (0, 1, 0, 0, [], 0)), (139, .iconst 1, 1, (1, 0, 0, 0, [], 0)), (140, .invokevirtual 114, 3, (0, 71, 3, 5, [], 418)), (143, .ireturn, 1, (0, 0, 0, 0, [], 0))]
def bX4_column_12 : ms_B := [(144, .iconst (-1), 1, (-1, 0, 0, 0, [], 0)), (145, .ireturn, 1, (0, 0, 0, 0, [], 0))]
def MX4_column : ms_M := (yX4_column, cX4_column, 3, (some .int), (0, 0), (0, 3), [385, 383, 384, 78], [bX4_column_0, bX4_column_1, bX4_column_2, bX4_column_3, bX4_column_4, bX4_column_5, bX4_column_6, bX4_column_7, bX4_column_8, bX4_column_9, bX4_column_10, bX4_column_11, bX4_column_12], [])
def bX4_field_0 : ms_B := [(0, .aload_n 0, 1, (0, 0, 0, 0, [], 0)), (1, .iload_n 1, 1, (0, 1, 0, 0, [], 0)), (2, .iload_n 2, 1, (0, 2, 0, 0, [], 0)), (3, .invokevirtual 118, 3, (0, 62, 3, 5, [], 429)), (6, .ifCond .ne 6, 3, (0, 1, 0, 0, [], 0)), (9, .ldc 122, 2, (-1000000, 0, 0, 0, [], 433)), (11, .ireturn, 1, (0, 0, 0, 0, [], 0))]
def bX4_field_1 : ms_B := [(12, .iload_n 3, 1, (0, 3, 0, 0, [], 0)), (13, .tableswitch 93 0 3 #[31, 38, 45, 69], 31, (0, 10, 0, 0, [(0, 2), (1, 3), (2, 4), (3, 7)], 0))]
def bX4_field_2 : ms_B := [(44, .aload_n 0, 1, (0, 0, 0, 0, [], 0)), (45, .iload_n 1, 1, (0, 1, 0, 0, [], 0)), (46, .iload_n 2, 1, (0, 2, 0, 0, [], 0)), (47, .invokevirtual 123, 3, (0, 65, 3, 5, [], 398)), (50, .ireturn, 1, (0, 0, 0, 0, [], 0))]
def bX4_field_3 : ms_B := [(51, .aload_n 0, 1, (0, 0, 0, 0, [], 0)), (52, .iload_n 1, 1, (0, 1, 0, 0, [], 0)), (53, .iload_n 2, 1, (0, 2, 0, 0, [], 0)), (54, .invokevirtual 126, 3, (0, 66, 3, 5, [], 434)), (57, .ireturn, 1, (0, 0, 0, 0, [], 0))]
def bX4_field_4 : ms_B := [(58, .aload_n 0, 1, (0, 0, 0, 0, [], 0)), (59, .iload_n 1, 1, (0, 1, 0, 0, [], 0)), (60, .iload_n 2, 1, (0, 2, 0, 0, [], 0)), (61, .invokevirtual 123, 3, (0, 65, 3, 5, [], 398)), (64, .aload_n 0, 1, (0, 0, 0, 0, [], 0)), (65, .getfield 19, 3, (1, 4, 3, 0, [], 256)), (68, .getfield 129, 3, (5, 3, 3, 0, [], 153)), (71, .iconst 0, 1, (0, 0, 0, 0, [], 0)), (72, .iaload, 1, (0, 0, 0, 0, [], 0)), (73, .if_icmp .gt 7, 3, (0, 5, 0, 0, [], 0)), (76, .iconst 1, 1, (1, 0, 0, 0, [], 0)), (77, .goto 4, 3, (0, 6, 0, 0, [], 0))]
def bX4_field_5 : ms_B := [(80, .iconst 0, 1, (0, 0, 0, 0, [], 0)), (81, .nop, 1, (0, 6, 0, 0, [], 0))]
def bX4_field_6 : ms_B := [(81, .ireturn, 1, (0, 0, 0, 0, [], 0))]
def bX4_field_7 : ms_B := [(82, .aload_n 0, 1, (0, 0, 0, 0, [], 0)), (83, .iload_n 1, 1, (0, 1, 0, 0, [], 0)), (84, .iload_n 2, 1, (0, 2, 0, 0, [], 0)), (85, .invokevirtual 123, 3, (0, 65, 3, 5, [], 398)), (88, .aload_n 0, 1, (0, 0, 0, 0, [], 0)), (89, .getfield 19, 3, (1, 4, 3, 0, [], 256)), (92, .getfield 129, 3, (5, 3, 3, 0, [], 153)), (95, .iconst 1, 1, (1, 0, 0, 0, [], 0)), (96, .iaload, 1, (0, 0, 0, 0, [], 0)), (97, .if_icmp .gt 7, 3, (0, 8, 0, 0, [], 0)), (100, .iconst 1, 1, (1, 0, 0, 0, [], 0)), (101, .goto 4, 3, (0, 9, 0, 0, [], 0))]
def bX4_field_8 : ms_B := [(104, .iconst 0, 1, (0, 0, 0, 0, [], 0)), (105, .nop, 1, (0, 9, 0, 0, [], 0))]
def bX4_field_9 : ms_B := [(105, .ireturn, 1, (0, 0, 0, 0, [], 0))]
def bX4_field_10 : ms_B := [(106, .ldc 122, 2, (-1000000, 0, 0, 0, [], 433)), (108, .ireturn, 1, (0, 0, 0, 0, [], 0))]
def MX4_field : ms_M := (yX4_field, cX4_field, 4, (some .int), (0, 0), (0, 4), [428, 426, 427, 78], [bX4_field_0, bX4_field_1, bX4_field_2, bX4_field_3, bX4_field_4, bX4_field_5, bX4_field_6, bX4_field_7, bX4_field_8, bX4_field_9, bX4_field_10], [])
def bX4_voter_0 : ms_B := [(0, .aload_n 0, 1, (0, 0, 0, 0, [], 0)), (1, .iload_n 1, 1, (0, 1, 0, 0, [], 0)), (2, .invokevirtual 132, 3, (0, 63, 2, 5, [], 442)), (5, .ifCond .ne 5, 3, (0, 1, 0, 0, [], 0)), (8, .iconst (-1), 1, (-1, 0, 0, 0, [], 0)), (9, .ireturn, 1, (0, 0, 0, 0, [], 0))]
def bX4_voter_1 : ms_B := [(10, .iload_n 2, 1, (0, 2, 0, 0, [], 0)), (11, .lookupswitch 45 #[(0, 25), (1, 35)], 25, (0, 4, 0, 0, [(0, 2), (1, 3)], 0))]
def bX4_voter_2 : ms_B := [(36, .aload_n 0, 1, (0, 0, 0, 0, [], 0)), (37, .getfield 19, 3, (1, 4, 3, 0, [], 256)), (40, .getfield 135, 3, (7, 3, 3, 0, [], 159)), (43, .iload_n 1, 1, (0, 1, 0, 0, [], 0)), (44, .iaload, 1, (0, 0, 0, 0, [], 0)), (45, .ireturn, 1, (0, 0, 0, 0, [], 0))]
def bX4_voter_3 : ms_B := [(46, .aload_n 0, 1, (0, 0, 0, 0, [], 0)), (47, .getfield 19, 3, (1, 4, 3, 0, [], 256)), (50, .getfield 138, 3, (8, 3, 3, 0, [], 161)), (53, .iload_n 1, 1, (0, 1, 0, 0, [], 0)), (54, .iaload, 1, (0, 0, 0, 0, [], 0)), (55, .ireturn, 1, (0, 0, 0, 0, [], 0))]
def bX4_voter_4 : ms_B := [(56, .iconst (-1), 1, (-1, 0, 0, 0, [], 0)), (57, .ireturn, 1, (0, 0, 0, 0, [], 0))]
def MX4_voter : ms_M := (yX4_voter, cX4_voter, 3, (some .int), (0, 0), (0, 3), [441, 439, 440, 78], [bX4_voter_0, bX4_voter_1, bX4_voter_2, bX4_voter_3, bX4_voter_4], [])
def bX4_days_0 : ms_B := [(0, .iload_n 1, 1, (0, 1, 0, 0, [], 0)), (1, .iconst 1, 1, (1, 0, 0, 0, [], 0)), (2, .bipush 9, 2, (9, 0, 0, 0, [], 0)), (4, .invokestatic 62, 3, (0, 60, 3, 0, [], 294)), (7, .ifCond .ne 5, 3, (0, 1, 0, 0, [], 0)), (10, .iconst (-1), 1, (-1, 0, 0, 0, [], 0)), (11, .ireturn, 1, (0, 0, 0, 0, [], 0))]
def bX4_days_1 : ms_B := [(12, .aload_n 0, 1, (0, 0, 0, 0, [], 0)), (13, .getfield 36, 3, (4, 4, 3, 0, [], 259)), (16, .getfield 141, 3, (0, 1, 0, 0, [], 229)), (19, .iload_n 1, 1, (0, 1, 0, 0, [], 0)), (20, .iadd, 1, (0, 0, 0, 0, [], 0)), (21, .sipush 9999, 3, (9999, 0, 0, 0, [], 0)), (24, .if_icmp .le 6, 3, (0, 2, 0, 0, [], 0)), (27, .bipush (-2), 2, (-2, 0, 0, 0, [], 0)), (29, .ireturn, 1, (0, 0, 0, 0, [], 0))]
def bX4_days_2 : ms_B := [(30, .aload_n 0, 1, (0, 0, 0, 0, [], 0)), (31, .getfield 36, 3, (4, 4, 3, 0, [], 259)), (34, .iconst 0, 1, (0, 0, 0, 0, [], 0)), (35, .iconst 0, 1, (0, 0, 0, 0, [], 0)), (36, .aload_n 0, 1, (0, 0, 0, 0, [], 0)), (37, .getfield 36, 3, (4, 4, 3, 0, [], 259)), (40, .getfield 141, 3, (0, 1, 0, 0, [], 229)), (43, .invokevirtual 144, 3, (0, 7, 4, 2, [], 450)), (46, .aload_n 0, 1, (0, 0, 0, 0, [], 0)), (47, .getfield 36, 3, (4, 4, 3, 0, [], 259)), (50, .dup, 1, (0, 0, 0, 0, [], 0)), (51, .getfield 141, 3, (0, 1, 0, 0, [], 229)), (54, .iload_n 1, 1, (0, 1, 0, 0, [], 0)), (55, .iadd, 1, (0, 0, 0, 0, [], 0)), (56, .putfield 141, 3, (0, 1, 0, 0, [], 229)), (59, .aload_n 0, 1, (0, 0, 0, 0, [], 0)), (60, .invokevirtual 148, 3, (0, 64, 1, 5, [], 402)), (63, .ireturn, 1, (0, 0, 0, 0, [], 0))]
def MX4_days : ms_M := (yX4_days, cX4_days, 2, (some .int), (0, 0), (0, 2), [449, 447, 448, 78], [bX4_days_0, bX4_days_1, bX4_days_2], [])
def bX4_warms_0 : ms_B := [(0, .iload_n 1, 1, (0, 1, 0, 0, [], 0)), (1, .bipush (-3), 2, (-3, 0, 0, 0, [], 0)), (3, .iconst 3, 1, (3, 0, 0, 0, [], 0)), (4, .invokestatic 62, 3, (0, 60, 3, 0, [], 294)), (7, .ifCond .eq 7, 3, (0, 1, 0, 0, [], 0)), (10, .iload_n 1, 1, (0, 1, 0, 0, [], 0)), (11, .ifCond .ne 5, 3, (0, 2, 0, 0, [], 0)), (14, .nop, 1, (0, 1, 0, 0, [], 0))]
def bX4_warms_1 : ms_B := [(14, .iconst (-1), 1, (-1, 0, 0, 0, [], 0)), (15, .ireturn, 1, (0, 0, 0, 0, [], 0))]
def bX4_warms_2 : ms_B := [(16, .aload_n 0, 1, (0, 0, 0, 0, [], 0)), (17, .getfield 36, 3, (4, 4, 3, 0, [], 259)), (20, .getfield 152, 3, (1, 1, 0, 0, [], 231)), (23, .iload_n 1, 1, (0, 1, 0, 0, [], 0)), (24, .iadd, 1, (0, 0, 0, 0, [], 0)), (25, .bipush (-9), 2, (-9, 0, 0, 0, [], 0)), (27, .bipush 9, 2, (9, 0, 0, 0, [], 0)), (29, .invokestatic 62, 3, (0, 60, 3, 0, [], 294)), (32, .ifCond .ne 6, 3, (0, 3, 0, 0, [], 0)), (35, .bipush (-2), 2, (-2, 0, 0, 0, [], 0)), (37, .ireturn, 1, (0, 0, 0, 0, [], 0))]
def bX4_warms_3 : ms_B := [(38, .aload_n 0, 1, (0, 0, 0, 0, [], 0)), (39, .getfield 36, 3, (4, 4, 3, 0, [], 259)), (42, .iconst 1, 1, (1, 0, 0, 0, [], 0)), (43, .iconst 0, 1, (0, 0, 0, 0, [], 0)), (44, .aload_n 0, 1, (0, 0, 0, 0, [], 0)), (45, .getfield 36, 3, (4, 4, 3, 0, [], 259)), (48, .getfield 152, 3, (1, 1, 0, 0, [], 231)), (51, .invokevirtual 144, 3, (0, 7, 4, 2, [], 450)), (54, .aload_n 0, 1, (0, 0, 0, 0, [], 0)), (55, .getfield 36, 3, (4, 4, 3, 0, [], 259)), (58, .dup, 1, (0, 0, 0, 0, [], 0)), (59, .getfield 152, 3, (1, 1, 0, 0, [], 231)), (62, .iload_n 1, 1, (0, 1, 0, 0, [], 0)), (63, .iadd, 1, (0, 0, 0, 0, [], 0)), (64, .putfield 152, 3, (1, 1, 0, 0, [], 231)), (67, .aload_n 0, 1, (0, 0, 0, 0, [], 0)), (68, .aload_n 0, 1, (0, 0, 0, 0, [], 0)), (69, .getfield 36, 3, (4, 4, 3, 0, [], 259)), (72, .getfield 152, 3, (1, 1, 0, 0, [], 231)), (75, .invokevirtual 155, 3, (0, 73, 2, 5, [], 465)), (78, .ireturn, 1, (0, 0, 0, 0, [], 0))]
def MX4_warms : ms_M := (yX4_warms, cX4_warms, 2, (some .int), (0, 0), (0, 2), [464, 462, 463, 78], [bX4_warms_0, bX4_warms_1, bX4_warms_2, bX4_warms_3], [])
def bX4_stakes_0 : ms_B := [(0, .aload_n 0, 1, (0, 0, 0, 0, [], 0)), (1, .iload_n 1, 1, (0, 1, 0, 0, [], 0)), (2, .invokevirtual 87, 3, (0, 61, 2, 5, [], 386)), (5, .ifCond .ne 5, 3, (0, 1, 0, 0, [], 0)), (8, .iconst (-1), 1, (-1, 0, 0, 0, [], 0)), (9, .ireturn, 1, (0, 0, 0, 0, [], 0))]
def bX4_stakes_1 : ms_B := [(10, .aload_n 0, 1, (0, 0, 0, 0, [], 0)), (11, .iload_n 1, 1, (0, 1, 0, 0, [], 0)), (12, .iconst 0, 1, (0, 0, 0, 0, [], 0)), (13, .invokevirtual 114, 3, (0, 71, 3, 5, [], 418)), (16, .istore_n 2, 1, (0, 2, 0, 0, [], 0)), (17, .aload_n 0, 1, (0, 0, 0, 0, [], 0)), (18, .getfield 36, 3, (4, 4, 3, 0, [], 259)), (21, .getfield 107, 3, (2, 1, 3, 0, [], 233)), (24, .iload_n 1, 1, (0, 1, 0, 0, [], 0)), (25, .iaload, 1, (0, 0, 0, 0, [], 0)), (26, .iload_n 2, 1, (0, 2, 0, 0, [], 0)), (27, .if_icmp .ne 6, 3, (0, 2, 0, 0, [], 0)), (30, .bipush (-2), 2, (-2, 0, 0, 0, [], 0)), (32, .ireturn, 1, (0, 0, 0, 0, [], 0))]
def bX4_stakes_2 : ms_B := [(33, .aload_n 0, 1, (0, 0, 0, 0, [], 0)), (34, .getfield 36, 3, (4, 4, 3, 0, [], 259)), (37, .iconst 2, 1, (2, 0, 0, 0, [], 0)), (38, .iload_n 1, 1, (0, 1, 0, 0, [], 0)), (39, .aload_n 0, 1, (0, 0, 0, 0, [], 0)), (40, .getfield 36, 3, (4, 4, 3, 0, [], 259)), (43, .getfield 107, 3, (2, 1, 3, 0, [], 233)), (46, .iload_n 1, 1, (0, 1, 0, 0, [], 0)), (47, .iaload, 1, (0, 0, 0, 0, [], 0)), (48, .invokevirtual 144, 3, (0, 7, 4, 2, [], 450)), (51, .aload_n 0, 1, (0, 0, 0, 0, [], 0)), (52, .getfield 36, 3, (4, 4, 3, 0, [], 259)), (55, .getfield 107, 3, (2, 1, 3, 0, [], 233)), (58, .iload_n 1, 1, (0, 1, 0, 0, [], 0)), (59, .iload_n 2, 1, (0, 2, 0, 0, [], 0)), (60, .iastore, 1, (0, 0, 0, 0, [], 0)), (61, .iload_n 2, 1, (0, 2, 0, 0, [], 0)), (62, .ireturn, 1, (0, 0, 0, 0, [], 0))]
def MX4_stakes : ms_M := (yX4_stakes, cX4_stakes, 3, (some .int), (0, 0), (0, 2), [478, 476, 477, 78], [bX4_stakes_0, bX4_stakes_1, bX4_stakes_2], [])
def bX4_pulls_0 : ms_B := [(0, .aload_n 0, 1, (0, 0, 0, 0, [], 0)), (1, .iload_n 1, 1, (0, 1, 0, 0, [], 0)), (2, .invokevirtual 87, 3, (0, 61, 2, 5, [], 386)), (5, .ifCond .ne 5, 3, (0, 1, 0, 0, [], 0)), (8, .iconst (-1), 1, (-1, 0, 0, 0, [], 0)), (9, .ireturn, 1, (0, 0, 0, 0, [], 0))]
def bX4_pulls_1 : ms_B := [(10, .aload_n 0, 1, (0, 0, 0, 0, [], 0)), (11, .getfield 36, 3, (4, 4, 3, 0, [], 259)), (14, .getfield 107, 3, (2, 1, 3, 0, [], 233)), (17, .iload_n 1, 1, (0, 1, 0, 0, [], 0)), (18, .iaload, 1, (0, 0, 0, 0, [], 0)), (19, .istore_n 2, 1, (0, 2, 0, 0, [], 0)), (20, .iload_n 2, 1, (0, 2, 0, 0, [], 0)), (21, .bipush (-9), 2, (-9, 0, 0, 0, [], 0)), (23, .if_icmp .ne 6, 3, (0, 2, 0, 0, [], 0)), (26, .bipush (-2), 2, (-2, 0, 0, 0, [], 0)), (28, .ireturn, 1, (0, 0, 0, 0, [], 0))]
def bX4_pulls_2 : ms_B := [(29, .aload_n 0, 1, (0, 0, 0, 0, [], 0)), (30, .getfield 36, 3, (4, 4, 3, 0, [], 259)), (33, .iconst 2, 1, (2, 0, 0, 0, [], 0)), (34, .iload_n 1, 1, (0, 1, 0, 0, [], 0)), (35, .iload_n 2, 1, (0, 2, 0, 0, [], 0)), (36, .invokevirtual 144, 3, (0, 7, 4, 2, [], 450)), (39, .aload_n 0, 1, (0, 0, 0, 0, [], 0)), (40, .getfield 36, 3, (4, 4, 3, 0, [], 259)), (43, .getfield 107, 3, (2, 1, 3, 0, [], 233)), (46, .iload_n 1, 1, (0, 1, 0, 0, [], 0)), (47, .bipush (-9), 2, (-9, 0, 0, 0, [], 0)), (49, .iastore, 1, (0, 0, 0, 0, [], 0)), (50, .iload_n 2, 1, (0, 2, 0, 0, [], 0)), (51, .ireturn, 1, (0, 0, 0, 0, [], 0))]
def MX4_pulls : ms_M := (yX4_pulls, cX4_pulls, 3, (some .int), (0, 0), (0, 2), [482, 480, 481, 78], [bX4_pulls_0, bX4_pulls_1, bX4_pulls_2], [])
def bX4_undo_0 : ms_B := [(0, .aload_n 0, 1, (0, 0, 0, 0, [], 0)), (1, .getfield 36, 3, (4, 4, 3, 0, [], 259)), (4, .getfield 158, 3, (3, 1, 0, 0, [], 235)), (7, .ifCond .gt 6, 3, (0, 1, 0, 0, [], 0)), (10, .bipush (-2), 2, (-2, 0, 0, 0, [], 0)), (12, .ireturn, 1, (0, 0, 0, 0, [], 0))]
def bX4_undo_1 : ms_B := [(13, .aload_n 0, 1, (0, 0, 0, 0, [], 0)), (14, .getfield 36, 3, (4, 4, 3, 0, [], 259)), (17, .invokevirtual 161, 3, (0, 9, 1, 2, [], 487)), (20, .aload_n 0, 1, (0, 0, 0, 0, [], 0)), (21, .getfield 36, 3, (4, 4, 3, 0, [], 259)), (24, .getfield 158, 3, (3, 1, 0, 0, [], 235)), (27, .ireturn, 1, (0, 0, 0, 0, [], 0))]
def MX4_undo : ms_M := (yX4_undo, cX4_undo, 1, (some .int), (0, 0), (0, 1), [486, 484, 485, 78], [bX4_undo_0, bX4_undo_1], [])
def bX4_now_0 : ms_B := [(0, .iload_n 1, 1, (0, 1, 0, 0, [], 0)), (1, .tableswitch 103 0 7 #[47, 55, 60, 68, 80, 85, 90, 98], 47, (0, 9, 0, 0, [(0, 1), (1, 2), (2, 3), (3, 4), (4, 5), (5, 6), (6, 7), (7, 8)], 0))]
def bX4_now_1 : ms_B := [(48, .aload_n 0, 1, (0, 0, 0, 0, [], 0)), (49, .getfield 36, 3, (4, 4, 3, 0, [], 259)), (52, .getfield 141, 3, (0, 1, 0, 0, [], 229)), (55, .ireturn, 1, (0, 0, 0, 0, [], 0))]
def bX4_now_2 : ms_B := [(56, .aload_n 0, 1, (0, 0, 0, 0, [], 0)), (57, .invokevirtual 148, 3, (0, 64, 1, 5, [], 402)), (60, .ireturn, 1, (0, 0, 0, 0, [], 0))]
def bX4_now_3 : ms_B := [(61, .aload_n 0, 1, (0, 0, 0, 0, [], 0)), (62, .getfield 36, 3, (4, 4, 3, 0, [], 259)), (65, .getfield 152, 3, (1, 1, 0, 0, [], 231)), (68, .ireturn, 1, (0, 0, 0, 0, [], 0))]
def bX4_now_4 : ms_B := [(69, .aload_n 0, 1, (0, 0, 0, 0, [], 0)), (70, .aload_n 0, 1, (0, 0, 0, 0, [], 0)), (71, .getfield 36, 3, (4, 4, 3, 0, [], 259)), (74, .getfield 152, 3, (1, 1, 0, 0, [], 231)), (77, .invokevirtual 155, 3, (0, 73, 2, 5, [], 465)), (80, .ireturn, 1, (0, 0, 0, 0, [], 0))]
def bX4_now_5 : ms_B := [(81, .aload_n 0, 1, (0, 0, 0, 0, [], 0)), (82, .invokevirtual 164, 3, (0, 74, 1, 5, [], 495)), (85, .ireturn, 1, (0, 0, 0, 0, [], 0))]
def bX4_now_6 : ms_B := [(86, .aload_n 0, 1, (0, 0, 0, 0, [], 0)), (87, .invokevirtual 167, 3, (0, 75, 1, 5, [], 499)), (90, .ireturn, 1, (0, 0, 0, 0, [], 0))]
def bX4_now_7 : ms_B := [(91, .aload_n 0, 1, (0, 0, 0, 0, [], 0)), (92, .getfield 36, 3, (4, 4, 3, 0, [], 259)), (95, .invokevirtual 170, 3, (0, 10, 1, 2, [], 503)), (98, .ireturn, 1, (0, 0, 0, 0, [], 0))]
def bX4_now_8 : ms_B := [(99, .aload_n 0, 1, (0, 0, 0, 0, [], 0)), (100, .invokevirtual 173, 3, (0, 76, 1, 5, [], 507)), (103, .ireturn, 1, (0, 0, 0, 0, [], 0))]
def bX4_now_9 : ms_B := [(104, .ldc 122, 2, (-1000000, 0, 0, 0, [], 433)), (106, .ireturn, 1, (0, 0, 0, 0, [], 0))]
def MX4_now : ms_M := (yX4_now, cX4_now, 2, (some .int), (0, 0), (0, 2), [494, 492, 493, 78], [bX4_now_0, bX4_now_1, bX4_now_2, bX4_now_3, bX4_now_4, bX4_now_5, bX4_now_6, bX4_now_7, bX4_now_8, bX4_now_9], [])
def bX4_first_0 : ms_B := [(0, .aload_n 0, 1, (0, 0, 0, 0, [], 0)), (1, .iload_n 1, 1, (0, 1, 0, 0, [], 0)), (2, .iload_n 2, 1, (0, 2, 0, 0, [], 0)), (3, .invokevirtual 118, 3, (0, 62, 3, 5, [], 429)), (6, .ifCond .ne 5, 3, (0, 1, 0, 0, [], 0)), (9, .iconst (-1), 1, (-1, 0, 0, 0, [], 0)), (10, .ireturn, 1, (0, 0, 0, 0, [], 0))]
def bX4_first_1 : ms_B := [(11, .aload_n 0, 1, (0, 0, 0, 0, [], 0)), (12, .getfield 19, 3, (1, 4, 3, 0, [], 256)), (15, .getfield 90, 3, (1, 3, 3, 0, [], 142)), (18, .iload_n 1, 1, (0, 1, 0, 0, [], 0)), (19, .iaload, 1, (0, 0, 0, 0, [], 0)), (20, .iload_n 2, 1, (0, 2, 0, 0, [], 0)), (21, .iadd, 1, (0, 0, 0, 0, [], 0)), (22, .istore_n 3, 1, (0, 3, 0, 0, [], 0)), (23, .iconst 0, 1, (0, 0, 0, 0, [], 0)), (24, .istore 4, 2, (0, 4, 0, 0, [], 0)), (26, .nop, 1, (0, 100, 0, 0, [], 0))]
def bX4_first_2 : ms_B := [(65, .iinc 4 1, 3, (1, 4, 0, 0, [], 0)), (68, .goto (-42), 3, (0, 100, 0, 0, [], 0))]
def bX4_first_3 : ms_B := [(71, .bipush (-9), 2, (-9, 0, 0, 0, [], 0)), (73, .ireturn, 1, (0, 0, 0, 0, [], 0))]
def bX4_first_100 : ms_B := [(26, .iload 4, 2, (0, 4, 0, 0, [], 0)), (28, .bipush 99, 2, (99, 0, 0, 0, [], 0)), (30, .if_icmp .gt 41, 3, (0, 3, 0, 0, [], 0)), (33, .aload_n 0, 1, (0, 0, 0, 0, [], 0)), (34, .getfield 19, 3, (1, 4, 3, 0, [], 256)), (37, .aload_n 0, 1, (0, 0, 0, 0, [], 0)), (38, .getfield 36, 3, (4, 4, 3, 0, [], 259)), (41, .getfield 141, 3, (0, 1, 0, 0, [], 229)), (44, .iload 4, 2, (0, 4, 0, 0, [], 0)), (46, .iadd, 1, (0, 0, 0, 0, [], 0)), (47, .invokevirtual 176, 3, (0, 30, 2, 4, [], 406)), (50, .aload_n 0, 1, (0, 0, 0, 0, [], 0)), (51, .getfield 36, 3, (4, 4, 3, 0, [], 259)), (54, .getfield 152, 3, (1, 1, 0, 0, [], 231)), (57, .iadd, 1, (0, 0, 0, 0, [], 0)), (58, .iload_n 3, 1, (0, 3, 0, 0, [], 0)), (59, .if_icmp .gt 6, 3, (0, 2, 0, 0, [], 0)), (62, .iload 4, 2, (0, 4, 0, 0, [], 0)), (64, .ireturn, 1, (0, 0, 0, 0, [], 0))]
def MX4_first : ms_M := (yX4_first, cX4_first, 5, (some .int), (0, 0), (0, 3), [514, 512, 513, 78], [bX4_first_0, bX4_first_1, bX4_first_2, bX4_first_3], [bX4_first_100])
def bX4_fair_0 : ms_B := [(0, .iload_n 1, 1, (0, 1, 0, 0, [], 0)), (1, .iconst 0, 1, (0, 0, 0, 0, [], 0)), (2, .iconst 1, 1, (1, 0, 0, 0, [], 0)), (3, .invokestatic 62, 3, (0, 60, 3, 0, [], 294)), (6, .ifCond .ne 5, 3, (0, 1, 0, 0, [], 0)), (9, .iconst (-1), 1, (-1, 0, 0, 0, [], 0)), (10, .ireturn, 1, (0, 0, 0, 0, [], 0))]
def bX4_fair_1 : ms_B := [(11, .aload_n 0, 1, (0, 0, 0, 0, [], 0)), (12, .getfield 29, 3, (3, 4, 3, 0, [], 258)), (15, .aload_n 0, 1, (0, 0, 0, 0, [], 0)), (16, .getfield 19, 3, (1, 4, 3, 0, [], 256)), (19, .invokevirtual 179, 3, (0, 1, 2, 1, [], 519)), (22, .iload_n 1, 1, (0, 1, 0, 0, [], 0)), (23, .ifCond .ne 13, 3, (0, 2, 0, 0, [], 0)), (26, .aload_n 0, 1, (0, 0, 0, 0, [], 0)), (27, .getfield 29, 3, (3, 4, 3, 0, [], 258)), (30, .getfield 183, 3, (1, 0, 0, 0, [], 198)), (33, .goto 10, 3, (0, 3, 0, 0, [], 0))]
def bX4_fair_2 : ms_B := [(36, .aload_n 0, 1, (0, 0, 0, 0, [], 0)), (37, .getfield 29, 3, (3, 4, 3, 0, [], 258)), (40, .getfield 186, 3, (2, 0, 0, 0, [], 200)), (43, .nop, 1, (0, 3, 0, 0, [], 0))]
def bX4_fair_3 : ms_B := [(43, .ireturn, 1, (0, 0, 0, 0, [], 0))]
def MX4_fair : ms_M := (yX4_fair, cX4_fair, 2, (some .int), (0, 0), (0, 2), [518, 516, 517, 78], [bX4_fair_0, bX4_fair_1, bX4_fair_2, bX4_fair_3], [])
def bX4_best_0 : ms_B := [(0, .iload_n 1, 1, (0, 1, 0, 0, [], 0)), (1, .iconst 0, 1, (0, 0, 0, 0, [], 0)), (2, .iconst 1, 1, (1, 0, 0, 0, [], 0)), (3, .invokestatic 62, 3, (0, 60, 3, 0, [], 294)), (6, .ifCond .ne 5, 3, (0, 1, 0, 0, [], 0)), (9, .iconst (-1), 1, (-1, 0, 0, 0, [], 0)), (10, .ireturn, 1, (0, 0, 0, 0, [], 0))]
def bX4_best_1 : ms_B := [(11, .aload_n 0, 1, (0, 0, 0, 0, [], 0)), (12, .getfield 29, 3, (3, 4, 3, 0, [], 258)), (15, .aload_n 0, 1, (0, 0, 0, 0, [], 0)), (16, .getfield 19, 3, (1, 4, 3, 0, [], 256)), (19, .invokevirtual 179, 3, (0, 1, 2, 1, [], 519)), (22, .iload_n 1, 1, (0, 1, 0, 0, [], 0)), (23, .ifCond .ne 13, 3, (0, 2, 0, 0, [], 0)), (26, .aload_n 0, 1, (0, 0, 0, 0, [], 0)), (27, .getfield 29, 3, (3, 4, 3, 0, [], 258)), (30, .getfield 189, 3, (3, 0, 0, 0, [], 202)), (33, .goto 10, 3, (0, 3, 0, 0, [], 0))]
def bX4_best_2 : ms_B := [(36, .aload_n 0, 1, (0, 0, 0, 0, [], 0)), (37, .getfield 29, 3, (3, 4, 3, 0, [], 258)), (40, .getfield 192, 3, (4, 0, 0, 0, [], 204)), (43, .nop, 1, (0, 3, 0, 0, [], 0))]
def bX4_best_3 : ms_B := [(43, .ireturn, 1, (0, 0, 0, 0, [], 0))]
def MX4_best : ms_M := (yX4_best, cX4_best, 2, (some .int), (0, 0), (0, 2), [535, 533, 534, 78], [bX4_best_0, bX4_best_1, bX4_best_2, bX4_best_3], [])
def bX4_power_0 : ms_B := [(0, .aload_n 0, 1, (0, 0, 0, 0, [], 0)), (1, .iload_n 1, 1, (0, 1, 0, 0, [], 0)), (2, .invokevirtual 132, 3, (0, 63, 2, 5, [], 442)), (5, .ifCond .eq 12, 3, (0, 1, 0, 0, [], 0)), (8, .iload_n 2, 1, (0, 2, 0, 0, [], 0)), (9, .iconst 0, 1, (0, 0, 0, 0, [], 0)), (10, .iconst 1, 1, (1, 0, 0, 0, [], 0)), (11, .invokestatic 62, 3, (0, 60, 3, 0, [], 294)), (14, .ifCond .ne 5, 3, (0, 2, 0, 0, [], 0)), (17, .nop, 1, (0, 1, 0, 0, [], 0))]
def bX4_power_1 : ms_B := [(17, .iconst (-1), 1, (-1, 0, 0, 0, [], 0)), (18, .ireturn, 1, (0, 0, 0, 0, [], 0))]
def bX4_power_2 : ms_B := [(19, .aload_n 0, 1, (0, 0, 0, 0, [], 0)), (20, .iload_n 1, 1, (0, 1, 0, 0, [], 0)), (21, .invokevirtual 195, 3, (0, 77, 2, 5, [], 540)), (24, .getstatic 198, 3, (0, 0, 0, 0, [], 554)), (27, .aload_n 0, 1, (0, 0, 0, 0, [], 0)), (28, .getfield 19, 3, (1, 4, 3, 0, [], 256)), (31, .getfield 201, 3, (6, 3, 0, 0, [], 157)), (34, .iaload, 1, (0, 0, 0, 0, [], 0)), (35, .iload_n 2, 1, (0, 2, 0, 0, [], 0)), (36, .invokestatic 204, 3, (0, 80, 3, 0, [], 556)), (39, .ireturn, 1, (0, 0, 0, 0, [], 0))]
def MX4_power : ms_M := (yX4_power, cX4_power, 3, (some .int), (0, 0), (0, 3), [539, 537, 538, 78], [bX4_power_0, bX4_power_1, bX4_power_2], [])
def bX4_duel_0 : ms_B := [(0, .iload_n 1, 1, (0, 1, 0, 0, [], 0)), (1, .iconst 0, 1, (0, 0, 0, 0, [], 0)), (2, .bipush 6, 2, (6, 0, 0, 0, [], 0)), (4, .invokestatic 62, 3, (0, 60, 3, 0, [], 294)), (7, .ifCond .ne 5, 3, (0, 1, 0, 0, [], 0)), (10, .iconst (-1), 1, (-1, 0, 0, 0, [], 0)), (11, .ireturn, 1, (0, 0, 0, 0, [], 0))]
def bX4_duel_1 : ms_B := [(12, .aload_n 0, 1, (0, 0, 0, 0, [], 0)), (13, .getfield 36, 3, (4, 4, 3, 0, [], 259)), (16, .getfield 152, 3, (1, 1, 0, 0, [], 231)), (19, .istore_n 2, 1, (0, 2, 0, 0, [], 0)), (20, .iconst 0, 1, (0, 0, 0, 0, [], 0)), (21, .istore_n 3, 1, (0, 3, 0, 0, [], 0)), (22, .nop, 1, (0, 100, 0, 0, [], 0))]
def bX4_duel_2 : ms_B := [(44, .iload_n 2, 1, (0, 2, 0, 0, [], 0)), (45, .iconst 1, 1, (1, 0, 0, 0, [], 0)), (46, .iadd, 1, (0, 0, 0, 0, [], 0)), (47, .bipush 9, 2, (9, 0, 0, 0, [], 0)), (49, .invokestatic 213, 3, (0, 1001, 0, 0, [], 472)), (52, .nop, 1, (0, 3, 0, 0, [], 0))]
def bX4_duel_3 : ms_B := [(52, .istore_n 2, 1, (0, 2, 0, 0, [], 0)), (53, .iinc 3 1, 3, (1, 3, 0, 0, [], 0)), (56, .goto (-34), 3, (0, 100, 0, 0, [], 0))]
def bX4_duel_4 : ms_B := [(59, .aload_n 0, 1, (0, 0, 0, 0, [], 0)), (60, .iload_n 2, 1, (0, 2, 0, 0, [], 0)), (61, .invokevirtual 155, 3, (0, 73, 2, 5, [], 465)), (64, .ireturn, 1, (0, 0, 0, 0, [], 0))]
def bX4_duel_100 : ms_B := [(22, .iload_n 3, 1, (0, 3, 0, 0, [], 0)), (23, .iload_n 1, 1, (0, 1, 0, 0, [], 0)), (24, .if_icmp .ge 35, 3, (0, 4, 0, 0, [], 0)), (27, .iload_n 3, 1, (0, 3, 0, 0, [], 0)), (28, .iconst 2, 1, (2, 0, 0, 0, [], 0)), (29, .irem, 1, (0, 0, 0, 0, [], 0)), (30, .ifCond .ne 14, 3, (0, 2, 0, 0, [], 0)), (33, .iload_n 2, 1, (0, 2, 0, 0, [], 0)), (34, .iconst 1, 1, (1, 0, 0, 0, [], 0)), (35, .isub, 1, (0, 0, 0, 0, [], 0)), (36, .bipush (-9), 2, (-9, 0, 0, 0, [], 0)), (38, .invokestatic 208, 3, (0, 1000, 0, 0, [], 469)), (41, .goto 11, 3, (0, 3, 0, 0, [], 0))]
def MX4_duel : ms_M := (yX4_duel, cX4_duel, 4, (some .int), (0, 0), (0, 2), [565, 563, 564, 78], [bX4_duel_0, bX4_duel_1, bX4_duel_2, bX4_duel_3, bX4_duel_4], [bX4_duel_100])
def bX4_odds_0 : ms_B := [(0, .aload_n 0, 1, (0, 0, 0, 0, [], 0)), (1, .iload_n 1, 1, (0, 1, 0, 0, [], 0)), (2, .iload_n 2, 1, (0, 2, 0, 0, [], 0)), (3, .invokevirtual 118, 3, (0, 62, 3, 5, [], 429)), (6, .ifCond .eq 34, 3, (0, 1, 0, 0, [], 0)), (9, .iload_n 3, 1, (0, 3, 0, 0, [], 0)), (10, .iconst 0, 1, (0, 0, 0, 0, [], 0)), (11, .bipush 10, 2, (10, 0, 0, 0, [], 0)), (13, .invokestatic 62, 3, (0, 60, 3, 0, [], 294)), (16, .ifCond .eq 24, 3, (0, 1, 0, 0, [], 0)), (19, .iload 4, 2, (0, 4, 0, 0, [], 0)), (21, .iconst 0, 1, (0, 0, 0, 0, [], 0)), (22, .bipush 6, 2, (6, 0, 0, 0, [], 0)), (24, .invokestatic 62, 3, (0, 60, 3, 0, [], 294)), (27, .ifCond .eq 13, 3, (0, 1, 0, 0, [], 0)), (30, .iload 5, 2, (0, 5, 0, 0, [], 0)), (32, .iconst 0, 1, (0, 0, 0, 0, [], 0)), (33, .iconst 1, 1, (1, 0, 0, 0, [], 0)), (34, .invokestatic 62, 3, (0, 60, 3, 0, [], 294)), (37, .ifCond .ne 5, 3, (0, 2, 0, 0, [], 0)), (40, .nop, 1, (0, 1, 0, 0, [], 0))]
def bX4_odds_1 : ms_B := [(40, .iconst (-1), 1, (-1, 0, 0, 0, [], 0)), (41, .ireturn, 1, (0, 0, 0, 0, [], 0))]
def bX4_odds_2 : ms_B := [(42, .iconst 1, 1, (1, 0, 0, 0, [], 0)), (43, .istore 6, 2, (0, 6, 0, 0, [], 0)), (45, .iconst 0, 1, (0, 0, 0, 0, [], 0)), (46, .istore 7, 2, (0, 7, 0, 0, [], 0)), (48, .nop, 1, (0, 100, 0, 0, [], 0))]
def bX4_odds_3 : ms_B := [(68, .aload_n 0, 1, (0, 0, 0, 0, [], 0)), (69, .iload_n 1, 1, (0, 1, 0, 0, [], 0)), (70, .iload_n 2, 1, (0, 2, 0, 0, [], 0)), (71, .invokevirtual 123, 3, (0, 65, 3, 5, [], 398)), (74, .iload_n 3, 1, (0, 3, 0, 0, [], 0)), (75, .iload 4, 2, (0, 4, 0, 0, [], 0)), (77, .invokestatic 216, 3, (0, 79, 3, 0, [], 570)), (80, .iload 6, 2, (0, 6, 0, 0, [], 0)), (82, .iload 5, 2, (0, 5, 0, 0, [], 0)), (84, .invokestatic 204, 3, (0, 80, 3, 0, [], 556)), (87, .ireturn, 1, (0, 0, 0, 0, [], 0))]
def bX4_odds_100 : ms_B := [(48, .iload 7, 2, (0, 7, 0, 0, [], 0)), (50, .iload 4, 2, (0, 4, 0, 0, [], 0)), (52, .if_icmp .ge 16, 3, (0, 3, 0, 0, [], 0)), (55, .iload 6, 2, (0, 6, 0, 0, [], 0)), (57, .bipush 10, 2, (10, 0, 0, 0, [], 0)), (59, .imul, 1, (0, 0, 0, 0, [], 0)), (60, .istore 6, 2, (0, 6, 0, 0, [], 0)), (62, .iinc 7 1, 3, (1, 7, 0, 0, [], 0)), (65, .goto (-17), 3, (0, 100, 0, 0, [], 0))]
def MX4_odds : ms_M := (yX4_odds, cX4_odds, 8, (some .int), (0, 0), (0, 6), [569, 567, 568, 78], [bX4_odds_0, bX4_odds_1, bX4_odds_2, bX4_odds_3], [bX4_odds_100])
def bX4_hears_0 : ms_B := [(0, .iload_n 1, 1, (0, 1, 0, 0, [], 0)), (1, .iconst 0, 1, (0, 0, 0, 0, [], 0)), (2, .iconst 1, 1, (1, 0, 0, 0, [], 0)), (3, .invokestatic 62, 3, (0, 60, 3, 0, [], 294)), (6, .ifCond .eq 22, 3, (0, 1, 0, 0, [], 0)), (9, .aload_n 0, 1, (0, 0, 0, 0, [], 0)), (10, .iload_n 2, 1, (0, 2, 0, 0, [], 0)), (11, .iload_n 3, 1, (0, 3, 0, 0, [], 0)), (12, .invokevirtual 118, 3, (0, 62, 3, 5, [], 429)), (15, .ifCond .eq 13, 3, (0, 1, 0, 0, [], 0)), (18, .iload 4, 2, (0, 4, 0, 0, [], 0)), (20, .iconst 0, 1, (0, 0, 0, 0, [], 0)), (21, .iconst 1, 1, (1, 0, 0, 0, [], 0)), (22, .invokestatic 62, 3, (0, 60, 3, 0, [], 294)), (25, .ifCond .ne 5, 3, (0, 2, 0, 0, [], 0)), (28, .nop, 1, (0, 1, 0, 0, [], 0))]
def bX4_hears_1 : ms_B := [(28, .iconst (-1), 1, (-1, 0, 0, 0, [], 0)), (29, .ireturn, 1, (0, 0, 0, 0, [], 0))]
def bX4_hears_2 : ms_B := [(30, .aload_n 0, 1, (0, 0, 0, 0, [], 0)), (31, .getfield 48, 3, (7, 4, 0, 0, [], 262)), (34, .bipush 6, 2, (6, 0, 0, 0, [], 0)), (36, .if_icmp .lt 6, 3, (0, 3, 0, 0, [], 0)), (39, .bipush (-3), 2, (-3, 0, 0, 0, [], 0)), (41, .ireturn, 1, (0, 0, 0, 0, [], 0))]
def bX4_hears_3 : ms_B := [(42, .aload_n 0, 1, (0, 0, 0, 0, [], 0)), (43, .getfield 19, 3, (1, 4, 3, 0, [], 256)), (46, .iload_n 1, 1, (0, 1, 0, 0, [], 0)), (47, .iload_n 2, 1, (0, 2, 0, 0, [], 0)), (48, .iload_n 3, 1, (0, 3, 0, 0, [], 0)), (49, .invokevirtual 219, 3, (0, 31, 4, 4, [], 577)), (52, .istore 5, 2, (0, 5, 0, 0, [], 0)), (54, .iload 4, 2, (0, 4, 0, 0, [], 0)), (56, .iconst 1, 1, (1, 0, 0, 0, [], 0)), (57, .if_icmp .ne 19, 3, (0, 4, 0, 0, [], 0)), (60, .aload_n 0, 1, (0, 0, 0, 0, [], 0)), (61, .aload_n 0, 1, (0, 0, 0, 0, [], 0)), (62, .getfield 55, 3, (9, 4, 0, 0, [], 264)), (65, .iload 5, 2, (0, 5, 0, 0, [], 0)), (67, .invokestatic 213, 3, (0, 1001, 0, 0, [], 472)), (70, .putfield 55, 3, (9, 4, 0, 0, [], 264)), (73, .goto 18, 3, (0, 5, 0, 0, [], 0))]
def bX4_hears_4 : ms_B := [(76, .aload_n 0, 1, (0, 0, 0, 0, [], 0)), (77, .aload_n 0, 1, (0, 0, 0, 0, [], 0)), (78, .getfield 52, 3, (8, 4, 0, 0, [], 263)), (81, .iload 5, 2, (0, 5, 0, 0, [], 0)), (83, .iconst 1, 1, (1, 0, 0, 0, [], 0)), (84, .iadd, 1, (0, 0, 0, 0, [], 0)), (85, .invokestatic 208, 3, (0, 1000, 0, 0, [], 469)), (88, .putfield 52, 3, (8, 4, 0, 0, [], 263)), (91, .nop, 1, (0, 5, 0, 0, [], 0))]
def bX4_hears_5 : ms_B := [(91, .aload_n 0, 1, (0, 0, 0, 0, [], 0)), (92, .dup, 1, (0, 0, 0, 0, [], 0)), (93, .getfield 48, 3, (7, 4, 0, 0, [], 262)), (96, .iconst 1, 1, (1, 0, 0, 0, [], 0)), (97, .iadd, 1, (0, 0, 0, 0, [], 0)), (98, .putfield 48, 3, (7, 4, 0, 0, [], 262)), (101, .aload_n 0, 1, (0, 0, 0, 0, [], 0)), (102, .getfield 48, 3, (7, 4, 0, 0, [], 262)), (105, .ireturn, 1, (0, 0, 0, 0, [], 0))]
def MX4_hears : ms_M := (yX4_hears, cX4_hears, 6, (some .int), (0, 0), (0, 5), [576, 574, 575, 78], [bX4_hears_0, bX4_hears_1, bX4_hears_2, bX4_hears_3, bX4_hears_4, bX4_hears_5], [])
def bX4_forget_0 : ms_B := [(0, .aload_n 0, 1, (0, 0, 0, 0, [], 0)), (1, .getfield 48, 3, (7, 4, 0, 0, [], 262)), (4, .istore_n 1, 1, (0, 1, 0, 0, [], 0)), (5, .aload_n 0, 1, (0, 0, 0, 0, [], 0)), (6, .invokevirtual 84, 3, (0, 82, 1, 5, [], 378)), (9, .iload_n 1, 1, (0, 1, 0, 0, [], 0)), (10, .ireturn, 1, (0, 0, 0, 0, [], 0))]
def MX4_forget : ms_M := (yX4_forget, cX4_forget, 2, (some .int), (0, 0), (0, 1), [584, 582, 583, 78], [bX4_forget_0], [])
def bX4_warmth_0 : ms_B := [(0, .iload_n 1, 1, (0, 1, 0, 0, [], 0)), (1, .iconst 0, 1, (0, 0, 0, 0, [], 0)), (2, .iconst 1, 1, (1, 0, 0, 0, [], 0)), (3, .invokestatic 62, 3, (0, 60, 3, 0, [], 294)), (6, .ifCond .ne 5, 3, (0, 1, 0, 0, [], 0)), (9, .iconst (-1), 1, (-1, 0, 0, 0, [], 0)), (10, .ireturn, 1, (0, 0, 0, 0, [], 0))]
def bX4_warmth_1 : ms_B := [(11, .aload_n 0, 1, (0, 0, 0, 0, [], 0)), (12, .invokevirtual 222, 3, (0, 83, 1, 5, [], 589)), (15, .istore_n 2, 1, (0, 2, 0, 0, [], 0)), (16, .iload_n 1, 1, (0, 1, 0, 0, [], 0)), (17, .ifCond .ne 5, 3, (0, 2, 0, 0, [], 0)), (20, .iload_n 2, 1, (0, 2, 0, 0, [], 0)), (21, .ireturn, 1, (0, 0, 0, 0, [], 0))]
def bX4_warmth_2 : ms_B := [(22, .iload_n 2, 1, (0, 2, 0, 0, [], 0)), (23, .ifCond .ne 8, 3, (0, 3, 0, 0, [], 0)), (26, .bipush (-9), 2, (-9, 0, 0, 0, [], 0)), (28, .goto 7, 3, (0, 4, 0, 0, [], 0))]
def bX4_warmth_3 : ms_B := [(31, .aload_n 0, 1, (0, 0, 0, 0, [], 0)), (32, .getfield 52, 3, (8, 4, 0, 0, [], 263)), (35, .nop, 1, (0, 4, 0, 0, [], 0))]
def bX4_warmth_4 : ms_B := [(35, .ireturn, 1, (0, 0, 0, 0, [], 0))]
def MX4_warmth : ms_M := (yX4_warmth, cX4_warmth, 3, (some .int), (0, 0), (0, 2), [588, 586, 587, 78], [bX4_warmth_0, bX4_warmth_1, bX4_warmth_2, bX4_warmth_3, bX4_warmth_4], [])
def bX4_ask_0 : ms_B := [(0, .aload_n 0, 1, (0, 0, 0, 0, [], 0)), (1, .invokevirtual 222, 3, (0, 83, 1, 5, [], 589)), (4, .istore_n 1, 1, (0, 1, 0, 0, [], 0)), (5, .bipush (-9), 2, (-9, 0, 0, 0, [], 0)), (7, .istore_n 2, 1, (0, 2, 0, 0, [], 0)), (8, .iload_n 1, 1, (0, 1, 0, 0, [], 0)), (9, .istore_n 3, 1, (0, 3, 0, 0, [], 0)), (10, .iconst 0, 1, (0, 0, 0, 0, [], 0)), (11, .istore 4, 2, (0, 4, 0, 0, [], 0)), (13, .nop, 1, (0, 100, 0, 0, [], 0))]
def bX4_ask_1 : ms_B := [(88, .iinc 6 1, 3, (1, 6, 0, 0, [], 0)), (91, .goto (-54), 3, (0, 102, 0, 0, [], 0))]
def bX4_ask_2 : ms_B := [(94, .iinc 5 1, 3, (1, 5, 0, 0, [], 0)), (97, .goto (-75), 3, (0, 101, 0, 0, [], 0))]
def bX4_ask_3 : ms_B := [(100, .iinc 4 1, 3, (1, 4, 0, 0, [], 0)), (103, .goto (-90), 3, (0, 100, 0, 0, [], 0))]
def bX4_ask_4 : ms_B := [(106, .iload_n 2, 1, (0, 2, 0, 0, [], 0)), (107, .ireturn, 1, (0, 0, 0, 0, [], 0))]
def bX4_ask_100 : ms_B := [(13, .iload 4, 2, (0, 4, 0, 0, [], 0)), (15, .iconst 2, 1, (2, 0, 0, 0, [], 0)), (16, .if_icmp .ge 90, 3, (0, 4, 0, 0, [], 0)), (19, .iconst 0, 1, (0, 0, 0, 0, [], 0)), (20, .istore 5, 2, (0, 5, 0, 0, [], 0)), (22, .nop, 1, (0, 101, 0, 0, [], 0))]
def bX4_ask_101 : ms_B := [(22, .iload 5, 2, (0, 5, 0, 0, [], 0)), (24, .aload_n 0, 1, (0, 0, 0, 0, [], 0)), (25, .getfield 19, 3, (1, 4, 3, 0, [], 256)), (28, .getfield 225, 3, (0, 3, 0, 0, [], 140)), (31, .if_icmp .ge 69, 3, (0, 3, 0, 0, [], 0)), (34, .iconst 0, 1, (0, 0, 0, 0, [], 0)), (35, .istore 6, 2, (0, 6, 0, 0, [], 0)), (37, .nop, 1, (0, 102, 0, 0, [], 0))]
def bX4_ask_102 : ms_B := [(37, .iload 6, 2, (0, 6, 0, 0, [], 0)), (39, .bipush 8, 2, (8, 0, 0, 0, [], 0)), (41, .if_icmp .ge 53, 3, (0, 2, 0, 0, [], 0)), (44, .aload_n 0, 1, (0, 0, 0, 0, [], 0)), (45, .aload_n 0, 1, (0, 0, 0, 0, [], 0)), (46, .getfield 19, 3, (1, 4, 3, 0, [], 256)), (49, .iload 4, 2, (0, 4, 0, 0, [], 0)), (51, .iload 5, 2, (0, 5, 0, 0, [], 0)), (53, .iload 6, 2, (0, 6, 0, 0, [], 0)), (55, .invokevirtual 219, 3, (0, 31, 4, 4, [], 577)), (58, .iload_n 1, 1, (0, 1, 0, 0, [], 0)), (59, .invokevirtual 228, 3, (0, 84, 3, 5, [], 597)), (62, .istore 7, 2, (0, 7, 0, 0, [], 0)), (64, .iload 7, 2, (0, 7, 0, 0, [], 0)), (66, .iload_n 3, 1, (0, 3, 0, 0, [], 0)), (67, .if_icmp .ge 21, 3, (0, 1, 0, 0, [], 0)), (70, .iload 7, 2, (0, 7, 0, 0, [], 0)), (72, .istore_n 3, 1, (0, 3, 0, 0, [], 0)), (73, .bipush 100, 2, (100, 0, 0, 0, [], 0)), (75, .iload 4, 2, (0, 4, 0, 0, [], 0)), (77, .imul, 1, (0, 0, 0, 0, [], 0)), (78, .bipush 10, 2, (10, 0, 0, 0, [], 0)), (80, .iload 5, 2, (0, 5, 0, 0, [], 0)), (82, .imul, 1, (0, 0, 0, 0, [], 0)), (83, .iadd, 1, (0, 0, 0, 0, [], 0)), (84, .iload 6, 2, (0, 6, 0, 0, [], 0)), (86, .iadd, 1, (0, 0, 0, 0, [], 0)), (87, .istore_n 2, 1, (0, 2, 0, 0, [], 0)), (88, .nop, 1, (0, 1, 0, 0, [], 0))]
def MX4_ask : ms_M := (yX4_ask, cX4_ask, 8, (some .int), (0, 0), (0, 1), [596, 594, 595, 78], [bX4_ask_0, bX4_ask_1, bX4_ask_2, bX4_ask_3, bX4_ask_4], [bX4_ask_100, bX4_ask_101, bX4_ask_102])
def bX4_mark_0 : ms_B := [(0, .aload_n 0, 1, (0, 0, 0, 0, [], 0)), (1, .iload_n 2, 1, (0, 2, 0, 0, [], 0)), (2, .invokevirtual 87, 3, (0, 61, 2, 5, [], 386)), (5, .ifCond .ne 6, 3, (0, 1, 0, 0, [], 0)), (8, .ldc 122, 2, (-1000000, 0, 0, 0, [], 433)), (10, .ireturn, 1, (0, 0, 0, 0, [], 0))]
def bX4_mark_1 : ms_B := [(11, .iload_n 1, 1, (0, 1, 0, 0, [], 0)), (12, .tableswitch 76 0 5 #[40, 46, 52, 58, 64, 70], 40, (0, 8, 0, 0, [(0, 2), (1, 3), (2, 4), (3, 5), (4, 6), (5, 7)], 0))]
def bX4_mark_2 : ms_B := [(52, .aload_n 0, 1, (0, 0, 0, 0, [], 0)), (53, .iload_n 2, 1, (0, 2, 0, 0, [], 0)), (54, .invokevirtual 231, 3, (0, 85, 2, 5, [], 605)), (57, .ireturn, 1, (0, 0, 0, 0, [], 0))]
def bX4_mark_3 : ms_B := [(58, .aload_n 0, 1, (0, 0, 0, 0, [], 0)), (59, .iload_n 2, 1, (0, 2, 0, 0, [], 0)), (60, .invokevirtual 234, 3, (0, 86, 2, 5, [], 609)), (63, .ireturn, 1, (0, 0, 0, 0, [], 0))]
def bX4_mark_4 : ms_B := [(64, .aload_n 0, 1, (0, 0, 0, 0, [], 0)), (65, .iload_n 2, 1, (0, 2, 0, 0, [], 0)), (66, .invokevirtual 237, 3, (0, 87, 2, 5, [], 614)), (69, .ireturn, 1, (0, 0, 0, 0, [], 0))]
def bX4_mark_5 : ms_B := [(70, .aload_n 0, 1, (0, 0, 0, 0, [], 0)), (71, .iload_n 2, 1, (0, 2, 0, 0, [], 0)), (72, .invokevirtual 240, 3, (0, 88, 2, 5, [], 619)), (75, .ireturn, 1, (0, 0, 0, 0, [], 0))]
def bX4_mark_6 : ms_B := [(76, .aload_n 0, 1, (0, 0, 0, 0, [], 0)), (77, .iload_n 2, 1, (0, 2, 0, 0, [], 0)), (78, .invokevirtual 243, 3, (0, 89, 2, 5, [], 624)), (81, .ireturn, 1, (0, 0, 0, 0, [], 0))]
def bX4_mark_7 : ms_B := [(82, .aload_n 0, 1, (0, 0, 0, 0, [], 0)), (83, .iload_n 2, 1, (0, 2, 0, 0, [], 0)), (84, .invokevirtual 246, 3, (0, 90, 2, 5, [], 629)), (87, .ireturn, 1, (0, 0, 0, 0, [], 0))]
def bX4_mark_8 : ms_B := [(88, .ldc 122, 2, (-1000000, 0, 0, 0, [], 433)), (90, .ireturn, 1, (0, 0, 0, 0, [], 0))]
def MX4_mark : ms_M := (yX4_mark, cX4_mark, 3, (some .int), (0, 0), (0, 3), [604, 602, 603, 78], [bX4_mark_0, bX4_mark_1, bX4_mark_2, bX4_mark_3, bX4_mark_4, bX4_mark_5, bX4_mark_6, bX4_mark_7, bX4_mark_8], [])
def bX4_keep_0 : ms_B := [(0, .iload_n 1, 1, (0, 1, 0, 0, [], 0)), (1, .iconst 0, 1, (0, 0, 0, 0, [], 0)), (2, .iconst 1, 1, (1, 0, 0, 0, [], 0)), (3, .invokestatic 62, 3, (0, 60, 3, 0, [], 294)), (6, .ifCond .ne 5, 3, (0, 1, 0, 0, [], 0)), (9, .iconst (-1), 1, (-1, 0, 0, 0, [], 0)), (10, .ireturn, 1, (0, 0, 0, 0, [], 0))]
def bX4_keep_1 : ms_B := [(11, .aload_n 0, 1, (0, 0, 0, 0, [], 0)), (12, .getfield 40, 3, (5, 4, 3, 0, [], 260)), (15, .iload_n 1, 1, (0, 1, 0, 0, [], 0)), (16, .aaload, 1, (0, 0, 0, 0, [], 0)), (17, .aload_n 0, 1, (0, 0, 0, 0, [], 0)), (18, .getfield 36, 3, (4, 4, 3, 0, [], 259)), (21, .invokevirtual 249, 3, (0, 6, 2, 2, [], 638)), (24, .aload_n 0, 1, (0, 0, 0, 0, [], 0)), (25, .getfield 44, 3, (6, 4, 3, 0, [], 261)), (28, .iload_n 1, 1, (0, 1, 0, 0, [], 0)), (29, .iconst 1, 1, (1, 0, 0, 0, [], 0)), (30, .bastore, 1, (0, 0, 0, 0, [], 0)), (31, .aload_n 0, 1, (0, 0, 0, 0, [], 0)), (32, .getfield 36, 3, (4, 4, 3, 0, [], 259)), (35, .getfield 141, 3, (0, 1, 0, 0, [], 229)), (38, .ireturn, 1, (0, 0, 0, 0, [], 0))]
def MX4_keep : ms_M := (yX4_keep, cX4_keep, 2, (some .int), (0, 0), (0, 2), [637, 635, 636, 78], [bX4_keep_0, bX4_keep_1], [])
def bX4_back_0 : ms_B := [(0, .iload_n 1, 1, (0, 1, 0, 0, [], 0)), (1, .iconst 0, 1, (0, 0, 0, 0, [], 0)), (2, .iconst 1, 1, (1, 0, 0, 0, [], 0)), (3, .invokestatic 62, 3, (0, 60, 3, 0, [], 294)), (6, .ifCond .ne 5, 3, (0, 1, 0, 0, [], 0)), (9, .iconst (-1), 1, (-1, 0, 0, 0, [], 0)), (10, .ireturn, 1, (0, 0, 0, 0, [], 0))]
def bX4_back_1 : ms_B := [(11, .aload_n 0, 1, (0, 0, 0, 0, [], 0)), (12, .getfield 44, 3, (6, 4, 3, 0, [], 261)), (15, .iload_n 1, 1, (0, 1, 0, 0, [], 0)), (16, .baload, 1, (0, 0, 0, 0, [], 0)), (17, .ifCond .ne 6, 3, (0, 2, 0, 0, [], 0)), (20, .bipush (-2), 2, (-2, 0, 0, 0, [], 0)), (22, .ireturn, 1, (0, 0, 0, 0, [], 0))]
def bX4_back_2 : ms_B := [(23, .aload_n 0, 1, (0, 0, 0, 0, [], 0)), (24, .getfield 36, 3, (4, 4, 3, 0, [], 259)), (27, .aload_n 0, 1, (0, 0, 0, 0, [], 0)), (28, .getfield 40, 3, (5, 4, 3, 0, [], 260)), (31, .iload_n 1, 1, (0, 1, 0, 0, [], 0)), (32, .aaload, 1, (0, 0, 0, 0, [], 0)), (33, .invokevirtual 249, 3, (0, 6, 2, 2, [], 638)), (36, .aload_n 0, 1, (0, 0, 0, 0, [], 0)), (37, .getfield 36, 3, (4, 4, 3, 0, [], 259)), (40, .getfield 141, 3, (0, 1, 0, 0, [], 229)), (43, .ireturn, 1, (0, 0, 0, 0, [], 0))]
def MX4_back : ms_M := (yX4_back, cX4_back, 2, (some .int), (0, 0), (0, 2), [645, 643, 644, 78], [bX4_back_0, bX4_back_1, bX4_back_2], [])
def bX4_count_0 : ms_B := [(0, .iload_n 1, 1, (0, 1, 0, 0, [], 0)), (1, .tableswitch 96 0 6 #[43, 51, 59, 67, 75, 80, 88], 43, (0, 8, 0, 0, [(0, 1), (1, 2), (2, 3), (3, 4), (4, 5), (5, 6), (6, 7)], 0))]
def bX4_count_1 : ms_B := [(44, .aload_n 0, 1, (0, 0, 0, 0, [], 0)), (45, .getfield 19, 3, (1, 4, 3, 0, [], 256)), (48, .getfield 225, 3, (0, 3, 0, 0, [], 140)), (51, .ireturn, 1, (0, 0, 0, 0, [], 0))]
def bX4_count_2 : ms_B := [(52, .aload_n 0, 1, (0, 0, 0, 0, [], 0)), (53, .getfield 19, 3, (1, 4, 3, 0, [], 256)), (56, .getfield 201, 3, (6, 3, 0, 0, [], 157)), (59, .ireturn, 1, (0, 0, 0, 0, [], 0))]
def bX4_count_3 : ms_B := [(60, .aload_n 0, 1, (0, 0, 0, 0, [], 0)), (61, .getfield 19, 3, (1, 4, 3, 0, [], 256)), (64, .getfield 253, 3, (9, 3, 0, 0, [], 164)), (67, .ireturn, 1, (0, 0, 0, 0, [], 0))]
def bX4_count_4 : ms_B := [(68, .aload_n 0, 1, (0, 0, 0, 0, [], 0)), (69, .getfield 19, 3, (1, 4, 3, 0, [], 256)), (72, .getfield 256, 3, (4, 3, 0, 0, [], 151)), (75, .ireturn, 1, (0, 0, 0, 0, [], 0))]
def bX4_count_5 : ms_B := [(76, .aload_n 0, 1, (0, 0, 0, 0, [], 0)), (77, .getfield 48, 3, (7, 4, 0, 0, [], 262)), (80, .ireturn, 1, (0, 0, 0, 0, [], 0))]
def bX4_count_6 : ms_B := [(81, .aload_n 0, 1, (0, 0, 0, 0, [], 0)), (82, .getfield 36, 3, (4, 4, 3, 0, [], 259)), (85, .getfield 158, 3, (3, 1, 0, 0, [], 235)), (88, .ireturn, 1, (0, 0, 0, 0, [], 0))]
def bX4_count_7 : ms_B := [(89, .aload_n 0, 1, (0, 0, 0, 0, [], 0)), (90, .getfield 10, 3, (0, 4, 3, 0, [], 255)), (93, .getfield 70, 3, (1, 2, 0, 0, [], 103)), (96, .ireturn, 1, (0, 0, 0, 0, [], 0))]
def bX4_count_8 : ms_B := [(97, .iconst (-1), 1, (-1, 0, 0, 0, [], 0)), (98, .ireturn, 1, (0, 0, 0, 0, [], 0))]
def MX4_count : ms_M := (yX4_count, cX4_count, 2, (some .int), (0, 0), (0, 2), [649, 647, 648, 78], [bX4_count_0, bX4_count_1, bX4_count_2, bX4_count_3, bX4_count_4, bX4_count_5, bX4_count_6, bX4_count_7, bX4_count_8], [])
def bX4_trace_0 : ms_B := [(0, .aload_n 0, 1, (0, 0, 0, 0, [], 0)), (1, .getfield 58, 3, (10, 4, 2, 0, [], 265)), (4, .lreturn, 1, (0, 0, 0, 0, [], 0))]
def MX4_trace : ms_M := (yX4_trace, cX4_trace, 1, (some .long), (0, 0), (0, 1), [653, 651, 652, 78], [bX4_trace_0], [])
def bX4_within_0 : ms_B := [(0, .iload_n 0, 1, (0, 0, 0, 0, [], 0)), (1, .iload_n 1, 1, (0, 1, 0, 0, [], 0)), (2, .if_icmp .lt 12, 3, (0, 1, 0, 0, [], 0)), (5, .iload_n 0, 1, (0, 0, 0, 0, [], 0)), (6, .iload_n 2, 1, (0, 2, 0, 0, [], 0)), (7, .if_icmp .gt 7, 3, (0, 1, 0, 0, [], 0)), (10, .iconst 1, 1, (1, 0, 0, 0, [], 0)), (11, .goto 4, 3, (0, 2, 0, 0, [], 0))]
def bX4_within_1 : ms_B := [(14, .iconst 0, 1, (0, 0, 0, 0, [], 0)), (15, .nop, 1, (0, 2, 0, 0, [], 0))]
def bX4_within_2 : ms_B := [(15, .ireturn, 1, (0, 0, 1, 0, [], 0))]
def MX4_within : ms_M := (yX4_within, cX4_within, 3, (some .boolean), (0, 0), (1, 3), [296, 295, 0, 78], [bX4_within_0, bX4_within_1, bX4_within_2], [])
def bX4_isColumn_0 : ms_B := [(0, .iload_n 1, 1, (0, 1, 0, 0, [], 0)), (1, .ifCond .lt 18, 3, (0, 1, 0, 0, [], 0)), (4, .iload_n 1, 1, (0, 1, 0, 0, [], 0)), (5, .aload_n 0, 1, (0, 0, 0, 0, [], 0)), (6, .getfield 19, 3, (1, 4, 3, 0, [], 256)), (9, .getfield 225, 3, (0, 3, 0, 0, [], 140)), (12, .if_icmp .ge 7, 3, (0, 1, 0, 0, [], 0)), (15, .iconst 1, 1, (1, 0, 0, 0, [], 0)), (16, .goto 4, 3, (0, 2, 0, 0, [], 0))]
def bX4_isColumn_1 : ms_B := [(19, .iconst 0, 1, (0, 0, 0, 0, [], 0)), (20, .nop, 1, (0, 2, 0, 0, [], 0))]
def bX4_isColumn_2 : ms_B := [(20, .ireturn, 1, (0, 0, 1, 0, [], 0))]
def MX4_isColumn : ms_M := (yX4_isColumn, cX4_isColumn, 2, (some .boolean), (0, 0), (0, 2), [389, 388, 12, 78], [bX4_isColumn_0, bX4_isColumn_1, bX4_isColumn_2], [])
def bX4_isField_0 : ms_B := [(0, .aload_n 0, 1, (0, 0, 0, 0, [], 0)), (1, .iload_n 1, 1, (0, 1, 0, 0, [], 0)), (2, .invokevirtual 87, 3, (0, 61, 2, 5, [], 386)), (5, .ifCond .eq 17, 3, (0, 1, 0, 0, [], 0)), (8, .iload_n 2, 1, (0, 2, 0, 0, [], 0)), (9, .iconst 0, 1, (0, 0, 0, 0, [], 0)), (10, .bipush 7, 2, (7, 0, 0, 0, [], 0)), (12, .invokestatic 62, 3, (0, 60, 3, 0, [], 294)), (15, .ifCond .eq 7, 3, (0, 1, 0, 0, [], 0)), (18, .iconst 1, 1, (1, 0, 0, 0, [], 0)), (19, .goto 4, 3, (0, 2, 0, 0, [], 0))]
def bX4_isField_1 : ms_B := [(22, .iconst 0, 1, (0, 0, 0, 0, [], 0)), (23, .nop, 1, (0, 2, 0, 0, [], 0))]
def bX4_isField_2 : ms_B := [(23, .ireturn, 1, (0, 0, 1, 0, [], 0))]
def MX4_isField : ms_M := (yX4_isField, cX4_isField, 3, (some .boolean), (0, 0), (0, 3), [432, 431, 20, 78], [bX4_isField_0, bX4_isField_1, bX4_isField_2], [])
def bX4_isVoter_0 : ms_B := [(0, .iload_n 1, 1, (0, 1, 0, 0, [], 0)), (1, .ifCond .lt 18, 3, (0, 1, 0, 0, [], 0)), (4, .iload_n 1, 1, (0, 1, 0, 0, [], 0)), (5, .aload_n 0, 1, (0, 0, 0, 0, [], 0)), (6, .getfield 19, 3, (1, 4, 3, 0, [], 256)), (9, .getfield 201, 3, (6, 3, 0, 0, [], 157)), (12, .if_icmp .ge 7, 3, (0, 1, 0, 0, [], 0)), (15, .iconst 1, 1, (1, 0, 0, 0, [], 0)), (16, .goto 4, 3, (0, 2, 0, 0, [], 0))]
def bX4_isVoter_1 : ms_B := [(19, .iconst 0, 1, (0, 0, 0, 0, [], 0)), (20, .nop, 1, (0, 2, 0, 0, [], 0))]
def bX4_isVoter_2 : ms_B := [(20, .ireturn, 1, (0, 0, 1, 0, [], 0))]
def MX4_isVoter : ms_M := (yX4_isVoter, cX4_isVoter, 2, (some .boolean), (0, 0), (0, 2), [445, 444, 22, 78], [bX4_isVoter_0, bX4_isVoter_1, bX4_isVoter_2], [])
def bX4_warmToday_0 : ms_B := [(0, .aload_n 0, 1, (0, 0, 0, 0, [], 0)), (1, .getfield 19, 3, (1, 4, 3, 0, [], 256)), (4, .aload_n 0, 1, (0, 0, 0, 0, [], 0)), (5, .getfield 36, 3, (4, 4, 3, 0, [], 259)), (8, .getfield 141, 3, (0, 1, 0, 0, [], 229)), (11, .invokevirtual 176, 3, (0, 30, 2, 4, [], 406)), (14, .ireturn, 1, (0, 0, 0, 0, [], 0))]
def MX4_warmToday : ms_M := (yX4_warmToday, cX4_warmToday, 1, (some .int), (0, 0), (0, 1), [405, 404, 16, 78], [bX4_warmToday_0], [])
def bX4_mild_0 : ms_B := [(0, .aload_n 0, 1, (0, 0, 0, 0, [], 0)), (1, .invokevirtual 148, 3, (0, 64, 1, 5, [], 402)), (4, .aload_n 0, 1, (0, 0, 0, 0, [], 0)), (5, .getfield 36, 3, (4, 4, 3, 0, [], 259)), (8, .getfield 152, 3, (1, 1, 0, 0, [], 231)), (11, .iadd, 1, (0, 0, 0, 0, [], 0)), (12, .aload_n 0, 1, (0, 0, 0, 0, [], 0)), (13, .getfield 19, 3, (1, 4, 3, 0, [], 256)), (16, .getfield 90, 3, (1, 3, 3, 0, [], 142)), (19, .iload_n 1, 1, (0, 1, 0, 0, [], 0)), (20, .iaload, 1, (0, 0, 0, 0, [], 0)), (21, .iload_n 2, 1, (0, 2, 0, 0, [], 0)), (22, .iadd, 1, (0, 0, 0, 0, [], 0)), (23, .isub, 1, (0, 0, 0, 0, [], 0)), (24, .ireturn, 1, (0, 0, 0, 0, [], 0))]
def MX4_mild : ms_M := (yX4_mild, cX4_mild, 3, (some .int), (0, 0), (0, 3), [401, 400, 15, 78], [bX4_mild_0], [])
def bX4_falls_0 : ms_B := [(0, .aload_n 0, 1, (0, 0, 0, 0, [], 0)), (1, .iload_n 1, 1, (0, 1, 0, 0, [], 0)), (2, .iload_n 2, 1, (0, 2, 0, 0, [], 0)), (3, .invokevirtual 123, 3, (0, 65, 3, 5, [], 398)), (6, .istore_n 3, 1, (0, 3, 0, 0, [], 0)), (7, .iload_n 3, 1, (0, 3, 0, 0, [], 0)), (8, .ifCond .gt 5, 3, (0, 1, 0, 0, [], 0)), (11, .iconst 2, 1, (2, 0, 0, 0, [], 0)), (12, .ireturn, 1, (0, 0, 0, 0, [], 0))]
def bX4_falls_1 : ms_B := [(13, .iload_n 3, 1, (0, 3, 0, 0, [], 0)), (14, .aload_n 0, 1, (0, 0, 0, 0, [], 0)), (15, .getfield 19, 3, (1, 4, 3, 0, [], 256)), (18, .getfield 256, 3, (4, 3, 0, 0, [], 151)), (21, .if_icmp .le 7, 3, (0, 2, 0, 0, [], 0)), (24, .iconst 0, 1, (0, 0, 0, 0, [], 0)), (25, .goto 4, 3, (0, 3, 0, 0, [], 0))]
def bX4_falls_2 : ms_B := [(28, .iconst 1, 1, (1, 0, 0, 0, [], 0)), (29, .nop, 1, (0, 3, 0, 0, [], 0))]
def bX4_falls_3 : ms_B := [(29, .ireturn, 1, (0, 0, 0, 0, [], 0))]
def MX4_falls : ms_M := (yX4_falls, cX4_falls, 4, (some .int), (0, 0), (0, 3), [437, 436, 21, 78], [bX4_falls_0, bX4_falls_1, bX4_falls_2, bX4_falls_3], [])
def bX4_lowestUpTo_0 : ms_B := [(0, .iconst 0, 1, (0, 0, 0, 0, [], 0)), (1, .istore_n 3, 1, (0, 3, 0, 0, [], 0)), (2, .nop, 1, (0, 100, 0, 0, [], 0))]
def bX4_lowestUpTo_1 : ms_B := [(20, .iinc 3 1, 3, (1, 3, 0, 0, [], 0)), (23, .goto (-21), 3, (0, 100, 0, 0, [], 0))]
def bX4_lowestUpTo_2 : ms_B := [(26, .bipush 8, 2, (8, 0, 0, 0, [], 0)), (28, .ireturn, 1, (0, 0, 0, 0, [], 0))]
def bX4_lowestUpTo_100 : ms_B := [(2, .iload_n 3, 1, (0, 3, 0, 0, [], 0)), (3, .bipush 8, 2, (8, 0, 0, 0, [], 0)), (5, .if_icmp .ge 21, 3, (0, 2, 0, 0, [], 0)), (8, .aload_n 0, 1, (0, 0, 0, 0, [], 0)), (9, .iload_n 1, 1, (0, 1, 0, 0, [], 0)), (10, .iload_n 3, 1, (0, 3, 0, 0, [], 0)), (11, .invokevirtual 123, 3, (0, 65, 3, 5, [], 398)), (14, .iload_n 2, 1, (0, 2, 0, 0, [], 0)), (15, .if_icmp .gt 5, 3, (0, 1, 0, 0, [], 0)), (18, .iload_n 3, 1, (0, 3, 0, 0, [], 0)), (19, .ireturn, 1, (0, 0, 0, 0, [], 0))]
def MX4_lowestUpTo : ms_M := (yX4_lowestUpTo, cX4_lowestUpTo, 4, (some .int), (0, 0), (0, 3), [397, 396, 14, 78], [bX4_lowestUpTo_0, bX4_lowestUpTo_1, bX4_lowestUpTo_2], [bX4_lowestUpTo_100])
def bX4_edge_0 : ms_B := [(0, .aload_n 0, 1, (0, 0, 0, 0, [], 0)), (1, .iload_n 1, 1, (0, 1, 0, 0, [], 0)), (2, .iconst 0, 1, (0, 0, 0, 0, [], 0)), (3, .invokevirtual 259, 3, (0, 67, 3, 5, [], 394)), (6, .ireturn, 1, (0, 0, 0, 0, [], 0))]
def MX4_edge : ms_M := (yX4_edge, cX4_edge, 2, (some .int), (0, 0), (0, 2), [393, 392, 13, 78], [bX4_edge_0], [])
def bX4_wet_0 : ms_B := [(0, .aload_n 0, 1, (0, 0, 0, 0, [], 0)), (1, .iload_n 1, 1, (0, 1, 0, 0, [], 0)), (2, .aload_n 0, 1, (0, 0, 0, 0, [], 0)), (3, .getfield 19, 3, (1, 4, 3, 0, [], 256)), (6, .getfield 256, 3, (4, 3, 0, 0, [], 151)), (9, .invokevirtual 259, 3, (0, 67, 3, 5, [], 394)), (12, .ireturn, 1, (0, 0, 0, 0, [], 0))]
def MX4_wet : ms_M := (yX4_wet, cX4_wet, 2, (some .int), (0, 0), (0, 2), [413, 412, 17, 78], [bX4_wet_0], [])
def bX4_claim_0 : ms_B := [(0, .aload_n 0, 1, (0, 0, 0, 0, [], 0)), (1, .iload_n 1, 1, (0, 1, 0, 0, [], 0)), (2, .aload_n 0, 1, (0, 0, 0, 0, [], 0)), (3, .getfield 19, 3, (1, 4, 3, 0, [], 256)), (6, .getfield 129, 3, (5, 3, 3, 0, [], 153)), (9, .iload_n 2, 1, (0, 2, 0, 0, [], 0)), (10, .iaload, 1, (0, 0, 0, 0, [], 0)), (11, .invokevirtual 259, 3, (0, 67, 3, 5, [], 394)), (14, .ireturn, 1, (0, 0, 0, 0, [], 0))]
def MX4_claim : ms_M := (yX4_claim, cX4_claim, 3, (some .int), (0, 0), (0, 3), [417, 416, 18, 78], [bX4_claim_0], [])
def bX4_halves_0 : ms_B := [(0, .aload_n 0, 1, (0, 0, 0, 0, [], 0)), (1, .iload_n 1, 1, (0, 1, 0, 0, [], 0)), (2, .iconst 0, 1, (0, 0, 0, 0, [], 0)), (3, .invokevirtual 110, 3, (0, 70, 3, 5, [], 414)), (6, .istore_n 3, 1, (0, 3, 0, 0, [], 0)), (7, .aload_n 0, 1, (0, 0, 0, 0, [], 0)), (8, .iload_n 1, 1, (0, 1, 0, 0, [], 0)), (9, .iconst 1, 1, (1, 0, 0, 0, [], 0)), (10, .invokevirtual 110, 3, (0, 70, 3, 5, [], 414)), (13, .istore 4, 2, (0, 4, 0, 0, [], 0)), (15, .iconst 0, 1, (0, 0, 0, 0, [], 0)), (16, .istore 5, 2, (0, 5, 0, 0, [], 0)), (18, .nop, 1, (0, 100, 0, 0, [], 0))]
def bX4_halves_1 : ms_B := [(51, .iload 4, 2, (0, 4, 0, 0, [], 0)), (53, .iload_n 3, 1, (0, 3, 0, 0, [], 0)), (54, .iload 4, 2, (0, 4, 0, 0, [], 0)), (56, .isub, 1, (0, 0, 0, 0, [], 0)), (57, .invokestatic 262, 3, (0, 72, 1, 0, [], 422)), (60, .iadd, 1, (0, 0, 0, 0, [], 0)), (61, .istore 4, 2, (0, 4, 0, 0, [], 0)), (63, .nop, 1, (0, 2, 0, 0, [], 0))]
def bX4_halves_2 : ms_B := [(63, .iinc 5 1, 3, (1, 5, 0, 0, [], 0)), (66, .goto (-48), 3, (0, 100, 0, 0, [], 0))]
def bX4_halves_3 : ms_B := [(69, .iload_n 2, 1, (0, 2, 0, 0, [], 0)), (70, .ifCond .eq 8, 3, (0, 4, 0, 0, [], 0)), (73, .iload 5, 2, (0, 5, 0, 0, [], 0)), (75, .goto 4, 3, (0, 5, 0, 0, [], 0))]
def bX4_halves_4 : ms_B := [(78, .iload_n 3, 1, (0, 3, 0, 0, [], 0)), (79, .nop, 1, (0, 5, 0, 0, [], 0))]
def bX4_halves_5 : ms_B := [(79, .ireturn, 1, (0, 0, 0, 0, [], 0))]
def bX4_halves_100 : ms_B := [(18, .iload_n 3, 1, (0, 3, 0, 0, [], 0)), (19, .iload 4, 2, (0, 4, 0, 0, [], 0)), (21, .if_icmp .eq 48, 3, (0, 3, 0, 0, [], 0)), (24, .iload 5, 2, (0, 5, 0, 0, [], 0)), (26, .bipush 8, 2, (8, 0, 0, 0, [], 0)), (28, .if_icmp .ge 41, 3, (0, 3, 0, 0, [], 0)), (31, .iload 5, 2, (0, 5, 0, 0, [], 0)), (33, .iconst 2, 1, (2, 0, 0, 0, [], 0)), (34, .irem, 1, (0, 0, 0, 0, [], 0)), (35, .ifCond .ne 16, 3, (0, 1, 0, 0, [], 0)), (38, .iload_n 3, 1, (0, 3, 0, 0, [], 0)), (39, .iload 4, 2, (0, 4, 0, 0, [], 0)), (41, .iload_n 3, 1, (0, 3, 0, 0, [], 0)), (42, .isub, 1, (0, 0, 0, 0, [], 0)), (43, .invokestatic 262, 3, (0, 72, 1, 0, [], 422)), (46, .iadd, 1, (0, 0, 0, 0, [], 0)), (47, .istore_n 3, 1, (0, 3, 0, 0, [], 0)), (48, .goto 15, 3, (0, 2, 0, 0, [], 0))]
def MX4_halves : ms_M := (yX4_halves, cX4_halves, 6, (some .int), (0, 0), (0, 3), [421, 420, 19, 78], [bX4_halves_0, bX4_halves_1, bX4_halves_2, bX4_halves_3, bX4_halves_4, bX4_halves_5], [bX4_halves_100])
def bX4_greaterHalf_0 : ms_B := [(0, .iload_n 0, 1, (0, 0, 0, 0, [], 0)), (1, .ifCond .lt 11, 3, (0, 1, 0, 0, [], 0)), (4, .iload_n 0, 1, (0, 0, 0, 0, [], 0)), (5, .iconst 1, 1, (1, 0, 0, 0, [], 0)), (6, .iadd, 1, (0, 0, 0, 0, [], 0)), (7, .iconst 2, 1, (2, 0, 0, 0, [], 0)), (8, .idiv, 1, (0, 0, 0, 0, [], 0)), (9, .goto 8, 3, (0, 2, 0, 0, [], 0))]
def bX4_greaterHalf_1 : ms_B := [(12, .iload_n 0, 1, (0, 0, 0, 0, [], 0)), (13, .iconst 1, 1, (1, 0, 0, 0, [], 0)), (14, .isub, 1, (0, 0, 0, 0, [], 0)), (15, .iconst 2, 1, (2, 0, 0, 0, [], 0)), (16, .idiv, 1, (0, 0, 0, 0, [], 0)), (17, .nop, 1, (0, 2, 0, 0, [], 0))]
def bX4_greaterHalf_2 : ms_B := [(17, .ireturn, 1, (0, 0, 0, 0, [], 0))]
def MX4_greaterHalf : ms_M := (yX4_greaterHalf, cX4_greaterHalf, 1, (some .int), (0, 0), (1, 1), [424, 423, 0, 78], [bX4_greaterHalf_0, bX4_greaterHalf_1, bX4_greaterHalf_2], [])
def bX4_snowyFields_0 : ms_B := [(0, .iconst 0, 1, (0, 0, 0, 0, [], 0)), (1, .istore_n 2, 1, (0, 2, 0, 0, [], 0)), (2, .iconst 0, 1, (0, 0, 0, 0, [], 0)), (3, .istore_n 3, 1, (0, 3, 0, 0, [], 0)), (4, .nop, 1, (0, 100, 0, 0, [], 0))]
def bX4_snowyFields_1 : ms_B := [(56, .iload_n 2, 1, (0, 2, 0, 0, [], 0)), (57, .ireturn, 1, (0, 0, 0, 0, [], 0))]
def bX4_snowyFields_100 : ms_B := [(4, .iload_n 3, 1, (0, 3, 0, 0, [], 0)), (5, .aload_n 0, 1, (0, 0, 0, 0, [], 0)), (6, .getfield 19, 3, (1, 4, 3, 0, [], 256)), (9, .getfield 225, 3, (0, 3, 0, 0, [], 140)), (12, .if_icmp .ge 44, 3, (0, 1, 0, 0, [], 0)), (15, .aload_n 0, 1, (0, 0, 0, 0, [], 0)), (16, .invokevirtual 148, 3, (0, 64, 1, 5, [], 402)), (19, .iload_n 1, 1, (0, 1, 0, 0, [], 0)), (20, .iadd, 1, (0, 0, 0, 0, [], 0)), (21, .aload_n 0, 1, (0, 0, 0, 0, [], 0)), (22, .getfield 19, 3, (1, 4, 3, 0, [], 256)), (25, .getfield 90, 3, (1, 3, 3, 0, [], 142)), (28, .iload_n 3, 1, (0, 3, 0, 0, [], 0)), (29, .iaload, 1, (0, 0, 0, 0, [], 0)), (30, .isub, 1, (0, 0, 0, 0, [], 0)), (31, .istore 4, 2, (0, 4, 0, 0, [], 0)), (33, .iload_n 2, 1, (0, 2, 0, 0, [], 0)), (34, .bipush 8, 2, (8, 0, 0, 0, [], 0)), (36, .iload 4, 2, (0, 4, 0, 0, [], 0)), (38, .iconst 0, 1, (0, 0, 0, 0, [], 0)), (39, .invokestatic 208, 3, (0, 1000, 0, 0, [], 469)), (42, .bipush 8, 2, (8, 0, 0, 0, [], 0)), (44, .invokestatic 213, 3, (0, 1001, 0, 0, [], 472)), (47, .isub, 1, (0, 0, 0, 0, [], 0)), (48, .iadd, 1, (0, 0, 0, 0, [], 0)), (49, .istore_n 2, 1, (0, 2, 0, 0, [], 0)), (50, .iinc 3 1, 3, (1, 3, 0, 0, [], 0)), (53, .goto (-49), 3, (0, 100, 0, 0, [], 0))]
def MX4_snowyFields : ms_M := (yX4_snowyFields, cX4_snowyFields, 5, (some .int), (0, 0), (0, 2), [468, 467, 24, 78], [bX4_snowyFields_0, bX4_snowyFields_1], [bX4_snowyFields_100])
def bX4_rainyFields_0 : ms_B := [(0, .iconst 0, 1, (0, 0, 0, 0, [], 0)), (1, .istore_n 1, 1, (0, 1, 0, 0, [], 0)), (2, .iconst 0, 1, (0, 0, 0, 0, [], 0)), (3, .istore_n 2, 1, (0, 2, 0, 0, [], 0)), (4, .nop, 1, (0, 100, 0, 0, [], 0))]
def bX4_rainyFields_1 : ms_B := [(29, .iload_n 1, 1, (0, 1, 0, 0, [], 0)), (30, .ireturn, 1, (0, 0, 0, 0, [], 0))]
def bX4_rainyFields_100 : ms_B := [(4, .iload_n 2, 1, (0, 2, 0, 0, [], 0)), (5, .aload_n 0, 1, (0, 0, 0, 0, [], 0)), (6, .getfield 19, 3, (1, 4, 3, 0, [], 256)), (9, .getfield 225, 3, (0, 3, 0, 0, [], 140)), (12, .if_icmp .ge 17, 3, (0, 1, 0, 0, [], 0)), (15, .iload_n 1, 1, (0, 1, 0, 0, [], 0)), (16, .aload_n 0, 1, (0, 0, 0, 0, [], 0)), (17, .iload_n 2, 1, (0, 2, 0, 0, [], 0)), (18, .invokevirtual 104, 3, (0, 69, 2, 5, [], 410)), (21, .iadd, 1, (0, 0, 0, 0, [], 0)), (22, .istore_n 1, 1, (0, 1, 0, 0, [], 0)), (23, .iinc 2 1, 3, (1, 2, 0, 0, [], 0)), (26, .goto (-22), 3, (0, 100, 0, 0, [], 0))]
def MX4_rainyFields : ms_M := (yX4_rainyFields, cX4_rainyFields, 3, (some .int), (0, 0), (0, 1), [498, 497, 25, 78], [bX4_rainyFields_0, bX4_rainyFields_1], [bX4_rainyFields_100])
def bX4_widest_0 : ms_B := [(0, .iconst 0, 1, (0, 0, 0, 0, [], 0)), (1, .istore_n 1, 1, (0, 1, 0, 0, [], 0)), (2, .iconst 0, 1, (0, 0, 0, 0, [], 0)), (3, .istore_n 2, 1, (0, 2, 0, 0, [], 0)), (4, .nop, 1, (0, 100, 0, 0, [], 0))]
def bX4_widest_1 : ms_B := [(37, .iload_n 1, 1, (0, 1, 0, 0, [], 0)), (38, .ireturn, 1, (0, 0, 0, 0, [], 0))]
def bX4_widest_100 : ms_B := [(4, .iload_n 2, 1, (0, 2, 0, 0, [], 0)), (5, .aload_n 0, 1, (0, 0, 0, 0, [], 0)), (6, .getfield 19, 3, (1, 4, 3, 0, [], 256)), (9, .getfield 225, 3, (0, 3, 0, 0, [], 140)), (12, .if_icmp .ge 25, 3, (0, 1, 0, 0, [], 0)), (15, .iload_n 1, 1, (0, 1, 0, 0, [], 0)), (16, .aload_n 0, 1, (0, 0, 0, 0, [], 0)), (17, .iload_n 2, 1, (0, 2, 0, 0, [], 0)), (18, .invokevirtual 100, 3, (0, 68, 2, 5, [], 390)), (21, .aload_n 0, 1, (0, 0, 0, 0, [], 0)), (22, .iload_n 2, 1, (0, 2, 0, 0, [], 0)), (23, .invokevirtual 104, 3, (0, 69, 2, 5, [], 410)), (26, .isub, 1, (0, 0, 0, 0, [], 0)), (27, .invokestatic 208, 3, (0, 1000, 0, 0, [], 469)), (30, .istore_n 1, 1, (0, 1, 0, 0, [], 0)), (31, .iinc 2 1, 3, (1, 2, 0, 0, [], 0)), (34, .goto (-30), 3, (0, 100, 0, 0, [], 0))]
def MX4_widest : ms_M := (yX4_widest, cX4_widest, 3, (some .int), (0, 0), (0, 1), [502, 501, 26, 78], [bX4_widest_0, bX4_widest_1], [bX4_widest_100])
def bX4_vote_0 : ms_B := [(0, .iconst 0, 1, (0, 0, 0, 0, [], 0)), (1, .istore_n 1, 1, (0, 1, 0, 0, [], 0)), (2, .iconst 0, 1, (0, 0, 0, 0, [], 0)), (3, .istore_n 2, 1, (0, 2, 0, 0, [], 0)), (4, .nop, 1, (0, 100, 0, 0, [], 0))]
def bX4_vote_1 : ms_B := [(41, .aload_n 0, 1, (0, 0, 0, 0, [], 0)), (42, .getfield 19, 3, (1, 4, 3, 0, [], 256)), (45, .getfield 135, 3, (7, 3, 3, 0, [], 159)), (48, .iload_n 2, 1, (0, 2, 0, 0, [], 0)), (49, .iaload, 1, (0, 0, 0, 0, [], 0)), (50, .ineg, 1, (0, 0, 0, 0, [], 0)), (51, .nop, 1, (0, 2, 0, 0, [], 0))]
def bX4_vote_2 : ms_B := [(51, .iadd, 1, (0, 0, 0, 0, [], 0)), (52, .istore_n 1, 1, (0, 1, 0, 0, [], 0)), (53, .iinc 2 1, 3, (1, 2, 0, 0, [], 0)), (56, .goto (-52), 3, (0, 100, 0, 0, [], 0))]
def bX4_vote_3 : ms_B := [(59, .iload_n 1, 1, (0, 1, 0, 0, [], 0)), (60, .ireturn, 1, (0, 0, 0, 0, [], 0))]
def bX4_vote_100 : ms_B := [(4, .iload_n 2, 1, (0, 2, 0, 0, [], 0)), (5, .aload_n 0, 1, (0, 0, 0, 0, [], 0)), (6, .getfield 19, 3, (1, 4, 3, 0, [], 256)), (9, .getfield 201, 3, (6, 3, 0, 0, [], 157)), (12, .if_icmp .ge 47, 3, (0, 3, 0, 0, [], 0)), (15, .iload_n 1, 1, (0, 1, 0, 0, [], 0)), (16, .aload_n 0, 1, (0, 0, 0, 0, [], 0)), (17, .getfield 19, 3, (1, 4, 3, 0, [], 256)), (20, .getfield 138, 3, (8, 3, 3, 0, [], 161)), (23, .iload_n 2, 1, (0, 2, 0, 0, [], 0)), (24, .iaload, 1, (0, 0, 0, 0, [], 0)), (25, .iconst 1, 1, (1, 0, 0, 0, [], 0)), (26, .if_icmp .ne 15, 3, (0, 1, 0, 0, [], 0)), (29, .aload_n 0, 1, (0, 0, 0, 0, [], 0)), (30, .getfield 19, 3, (1, 4, 3, 0, [], 256)), (33, .getfield 135, 3, (7, 3, 3, 0, [], 159)), (36, .iload_n 2, 1, (0, 2, 0, 0, [], 0)), (37, .iaload, 1, (0, 0, 0, 0, [], 0)), (38, .goto 13, 3, (0, 2, 0, 0, [], 0))]
def MX4_vote : ms_M := (yX4_vote, cX4_vote, 3, (some .int), (0, 0), (0, 1), [510, 509, 27, 78], [bX4_vote_0, bX4_vote_1, bX4_vote_2, bX4_vote_3], [bX4_vote_100])
def bX4_decidedOrders_0 : ms_B := [(0, .aload_n 0, 1, (0, 0, 0, 0, [], 0)), (1, .iconst 1, 1, (1, 0, 0, 0, [], 0)), (2, .aload_n 0, 1, (0, 0, 0, 0, [], 0)), (3, .getfield 19, 3, (1, 4, 3, 0, [], 256)), (6, .getfield 201, 3, (6, 3, 0, 0, [], 157)), (9, .ishl, 1, (0, 0, 0, 0, [], 0)), (10, .iconst 1, 1, (1, 0, 0, 0, [], 0)), (11, .isub, 1, (0, 0, 0, 0, [], 0)), (12, .invokevirtual 265, 3, (0, 78, 2, 5, [], 544)), (15, .istore_n 2, 1, (0, 2, 0, 0, [], 0)), (16, .iconst 0, 1, (0, 0, 0, 0, [], 0)), (17, .istore_n 3, 1, (0, 3, 0, 0, [], 0)), (18, .iconst 0, 1, (0, 0, 0, 0, [], 0)), (19, .istore 4, 2, (0, 4, 0, 0, [], 0)), (21, .nop, 1, (0, 100, 0, 0, [], 0))]
def bX4_decidedOrders_1 : ms_B := [(48, .aload_n 0, 1, (0, 0, 0, 0, [], 0)), (49, .iload 4, 2, (0, 4, 0, 0, [], 0)), (51, .invokevirtual 265, 3, (0, 78, 2, 5, [], 544)), (54, .istore 5, 2, (0, 5, 0, 0, [], 0)), (56, .iconst 2, 1, (2, 0, 0, 0, [], 0)), (57, .iload 5, 2, (0, 5, 0, 0, [], 0)), (59, .imul, 1, (0, 0, 0, 0, [], 0)), (60, .iload_n 2, 1, (0, 2, 0, 0, [], 0)), (61, .if_icmp .gt 54, 3, (0, 2, 0, 0, [], 0)), (64, .iconst 2, 1, (2, 0, 0, 0, [], 0)), (65, .iload 5, 2, (0, 5, 0, 0, [], 0)), (67, .aload_n 0, 1, (0, 0, 0, 0, [], 0)), (68, .getfield 19, 3, (1, 4, 3, 0, [], 256)), (71, .getfield 135, 3, (7, 3, 3, 0, [], 159)), (74, .iload_n 1, 1, (0, 1, 0, 0, [], 0)), (75, .iaload, 1, (0, 0, 0, 0, [], 0)), (76, .iadd, 1, (0, 0, 0, 0, [], 0)), (77, .imul, 1, (0, 0, 0, 0, [], 0)), (78, .iload_n 2, 1, (0, 2, 0, 0, [], 0)), (79, .if_icmp .le 36, 3, (0, 2, 0, 0, [], 0)), (82, .iload 4, 2, (0, 4, 0, 0, [], 0)), (84, .invokestatic 268, 3, (0, 161, 1, 0, [], 548)), (87, .istore 6, 2, (0, 6, 0, 0, [], 0)), (89, .iload_n 3, 1, (0, 3, 0, 0, [], 0)), (90, .getstatic 198, 3, (0, 0, 0, 0, [], 554)), (93, .iload 6, 2, (0, 6, 0, 0, [], 0)), (95, .iaload, 1, (0, 0, 0, 0, [], 0)), (96, .getstatic 198, 3, (0, 0, 0, 0, [], 554)), (99, .aload_n 0, 1, (0, 0, 0, 0, [], 0)), (100, .getfield 19, 3, (1, 4, 3, 0, [], 256)), (103, .getfield 201, 3, (6, 3, 0, 0, [], 157)), (106, .iconst 1, 1, (1, 0, 0, 0, [], 0)), (107, .isub, 1, (0, 0, 0, 0, [], 0)), (108, .iload 6, 2, (0, 6, 0, 0, [], 0)), (110, .isub, 1, (0, 0, 0, 0, [], 0)), (111, .iaload, 1, (0, 0, 0, 0, [], 0)), (112, .imul, 1, (0, 0, 0, 0, [], 0)), (113, .iadd, 1, (0, 0, 0, 0, [], 0)), (114, .istore_n 3, 1, (0, 3, 0, 0, [], 0)), (115, .nop, 1, (0, 2, 0, 0, [], 0))]
def bX4_decidedOrders_2 : ms_B := [(115, .iinc 4 1, 3, (1, 4, 0, 0, [], 0)), (118, .goto (-97), 3, (0, 100, 0, 0, [], 0))]
def bX4_decidedOrders_3 : ms_B := [(121, .iload_n 3, 1, (0, 3, 0, 0, [], 0)), (122, .ireturn, 1, (0, 0, 0, 0, [], 0))]
def bX4_decidedOrders_100 : ms_B := [(21, .iload 4, 2, (0, 4, 0, 0, [], 0)), (23, .iconst 1, 1, (1, 0, 0, 0, [], 0)), (24, .aload_n 0, 1, (0, 0, 0, 0, [], 0)), (25, .getfield 19, 3, (1, 4, 3, 0, [], 256)), (28, .getfield 201, 3, (6, 3, 0, 0, [], 157)), (31, .ishl, 1, (0, 0, 0, 0, [], 0)), (32, .if_icmp .ge 89, 3, (0, 3, 0, 0, [], 0)), (35, .iload 4, 2, (0, 4, 0, 0, [], 0)), (37, .iload_n 1, 1, (0, 1, 0, 0, [], 0)), (38, .ishr, 1, (0, 0, 0, 0, [], 0)), (39, .iconst 1, 1, (1, 0, 0, 0, [], 0)), (40, .iand, 1, (0, 0, 0, 0, [], 0)), (41, .iconst 1, 1, (1, 0, 0, 0, [], 0)), (42, .if_icmp .ne 6, 3, (0, 1, 0, 0, [], 0)), (45, .goto 70, 3, (0, 2, 0, 0, [], 0))]
def MX4_decidedOrders : ms_M := (yX4_decidedOrders, cX4_decidedOrders, 7, (some .int), (0, 0), (0, 2), [543, 542, 29, 78], [bX4_decidedOrders_0, bX4_decidedOrders_1, bX4_decidedOrders_2, bX4_decidedOrders_3], [bX4_decidedOrders_100])
def bX4_weightOf_0 : ms_B := [(0, .iconst 0, 1, (0, 0, 0, 0, [], 0)), (1, .istore_n 2, 1, (0, 2, 0, 0, [], 0)), (2, .iconst 0, 1, (0, 0, 0, 0, [], 0)), (3, .istore_n 3, 1, (0, 3, 0, 0, [], 0)), (4, .nop, 1, (0, 100, 0, 0, [], 0))]
def bX4_weightOf_1 : ms_B := [(36, .iinc 3 1, 3, (1, 3, 0, 0, [], 0)), (39, .goto (-35), 3, (0, 100, 0, 0, [], 0))]
def bX4_weightOf_2 : ms_B := [(42, .iload_n 2, 1, (0, 2, 0, 0, [], 0)), (43, .ireturn, 1, (0, 0, 0, 0, [], 0))]
def bX4_weightOf_100 : ms_B := [(4, .iload_n 3, 1, (0, 3, 0, 0, [], 0)), (5, .aload_n 0, 1, (0, 0, 0, 0, [], 0)), (6, .getfield 19, 3, (1, 4, 3, 0, [], 256)), (9, .getfield 201, 3, (6, 3, 0, 0, [], 157)), (12, .if_icmp .ge 30, 3, (0, 2, 0, 0, [], 0)), (15, .iload_n 1, 1, (0, 1, 0, 0, [], 0)), (16, .iload_n 3, 1, (0, 3, 0, 0, [], 0)), (17, .ishr, 1, (0, 0, 0, 0, [], 0)), (18, .iconst 1, 1, (1, 0, 0, 0, [], 0)), (19, .iand, 1, (0, 0, 0, 0, [], 0)), (20, .iconst 1, 1, (1, 0, 0, 0, [], 0)), (21, .if_icmp .ne 15, 3, (0, 1, 0, 0, [], 0)), (24, .iload_n 2, 1, (0, 2, 0, 0, [], 0)), (25, .aload_n 0, 1, (0, 0, 0, 0, [], 0)), (26, .getfield 19, 3, (1, 4, 3, 0, [], 256)), (29, .getfield 135, 3, (7, 3, 3, 0, [], 159)), (32, .iload_n 3, 1, (0, 3, 0, 0, [], 0)), (33, .iaload, 1, (0, 0, 0, 0, [], 0)), (34, .iadd, 1, (0, 0, 0, 0, [], 0)), (35, .istore_n 2, 1, (0, 2, 0, 0, [], 0)), (36, .nop, 1, (0, 1, 0, 0, [], 0))]
def MX4_weightOf : ms_M := (yX4_weightOf, cX4_weightOf, 4, (some .int), (0, 0), (0, 2), [547, 546, 30, 78], [bX4_weightOf_0, bX4_weightOf_1, bX4_weightOf_2], [bX4_weightOf_100])
def bX4_snowyWays_0 : ms_B := [(0, .iload_n 2, 1, (0, 2, 0, 0, [], 0)), (1, .ifCond .gt 13, 3, (0, 3, 0, 0, [], 0)), (4, .iload_n 0, 1, (0, 0, 0, 0, [], 0)), (5, .ifCond .gt 7, 3, (0, 1, 0, 0, [], 0)), (8, .iconst 1, 1, (1, 0, 0, 0, [], 0)), (9, .goto 4, 3, (0, 2, 0, 0, [], 0))]
def bX4_snowyWays_1 : ms_B := [(12, .iconst 0, 1, (0, 0, 0, 0, [], 0)), (13, .nop, 1, (0, 2, 0, 0, [], 0))]
def bX4_snowyWays_2 : ms_B := [(13, .ireturn, 1, (0, 0, 0, 0, [], 0))]
def bX4_snowyWays_3 : ms_B := [(14, .iload_n 1, 1, (0, 1, 0, 0, [], 0)), (15, .iload_n 0, 1, (0, 0, 0, 0, [], 0)), (16, .iconst 1, 1, (1, 0, 0, 0, [], 0)), (17, .iadd, 1, (0, 0, 0, 0, [], 0)), (18, .iload_n 1, 1, (0, 1, 0, 0, [], 0)), (19, .iload_n 2, 1, (0, 2, 0, 0, [], 0)), (20, .iconst 1, 1, (1, 0, 0, 0, [], 0)), (21, .isub, 1, (0, 0, 0, 0, [], 0)), (22, .invokestatic 216, 3, (0, 79, 3, 0, [], 570)), (25, .imul, 1, (0, 0, 0, 0, [], 0)), (26, .bipush 10, 2, (10, 0, 0, 0, [], 0)), (28, .iload_n 1, 1, (0, 1, 0, 0, [], 0)), (29, .isub, 1, (0, 0, 0, 0, [], 0)), (30, .iload_n 0, 1, (0, 0, 0, 0, [], 0)), (31, .iconst 1, 1, (1, 0, 0, 0, [], 0)), (32, .isub, 1, (0, 0, 0, 0, [], 0)), (33, .iload_n 1, 1, (0, 1, 0, 0, [], 0)), (34, .iload_n 2, 1, (0, 2, 0, 0, [], 0)), (35, .iconst 1, 1, (1, 0, 0, 0, [], 0)), (36, .isub, 1, (0, 0, 0, 0, [], 0)), (37, .invokestatic 216, 3, (0, 79, 3, 0, [], 570)), (40, .imul, 1, (0, 0, 0, 0, [], 0)), (41, .iadd, 1, (0, 0, 0, 0, [], 0)), (42, .ireturn, 1, (0, 0, 0, 0, [], 0))]
def MX4_snowyWays : ms_M := (yX4_snowyWays, cX4_snowyWays, 3, (some .int), (0, 0), (1, 3), [572, 571, 0, 78], [bX4_snowyWays_0, bX4_snowyWays_1, bX4_snowyWays_2, bX4_snowyWays_3], [])
def bX4_leastTerms_0 : ms_B := [(0, .iload_n 0, 1, (0, 0, 0, 0, [], 0)), (1, .iload_n 1, 1, (0, 1, 0, 0, [], 0)), (2, .invokestatic 273, 3, (0, 81, 2, 0, [], 559)), (5, .istore_n 3, 1, (0, 3, 0, 0, [], 0)), (6, .iload_n 3, 1, (0, 3, 0, 0, [], 0)), (7, .ifCond .gt 5, 3, (0, 1, 0, 0, [], 0)), (10, .iconst 0, 1, (0, 0, 0, 0, [], 0)), (11, .ireturn, 1, (0, 0, 0, 0, [], 0))]
def bX4_leastTerms_1 : ms_B := [(12, .iload_n 2, 1, (0, 2, 0, 0, [], 0)), (13, .ifCond .ne 7, 3, (0, 2, 0, 0, [], 0)), (16, .iload_n 0, 1, (0, 0, 0, 0, [], 0)), (17, .goto 4, 3, (0, 3, 0, 0, [], 0))]
def bX4_leastTerms_2 : ms_B := [(20, .iload_n 1, 1, (0, 1, 0, 0, [], 0)), (21, .nop, 1, (0, 3, 0, 0, [], 0))]
def bX4_leastTerms_3 : ms_B := [(21, .iload_n 3, 1, (0, 3, 0, 0, [], 0)), (22, .idiv, 1, (0, 0, 0, 0, [], 0)), (23, .ireturn, 1, (0, 0, 0, 0, [], 0))]
def MX4_leastTerms : ms_M := (yX4_leastTerms, cX4_leastTerms, 4, (some .int), (0, 0), (1, 3), [558, 557, 0, 78], [bX4_leastTerms_0, bX4_leastTerms_1, bX4_leastTerms_2, bX4_leastTerms_3], [])
def bX4_greatestShared_0 : ms_B := [(0, .iload_n 0, 1, (0, 0, 0, 0, [], 0)), (1, .istore_n 2, 1, (0, 2, 0, 0, [], 0)), (2, .iload_n 1, 1, (0, 1, 0, 0, [], 0)), (3, .istore_n 3, 1, (0, 3, 0, 0, [], 0)), (4, .iconst 0, 1, (0, 0, 0, 0, [], 0)), (5, .istore 4, 2, (0, 4, 0, 0, [], 0)), (7, .nop, 1, (0, 100, 0, 0, [], 0))]
def bX4_greatestShared_1 : ms_B := [(34, .iload_n 2, 1, (0, 2, 0, 0, [], 0)), (35, .ireturn, 1, (0, 0, 0, 0, [], 0))]
def bX4_greatestShared_100 : ms_B := [(7, .iload 4, 2, (0, 4, 0, 0, [], 0)), (9, .bipush 100, 2, (100, 0, 0, 0, [], 0)), (11, .if_icmp .ge 23, 3, (0, 1, 0, 0, [], 0)), (14, .iload_n 3, 1, (0, 3, 0, 0, [], 0)), (15, .ifCond .eq 19, 3, (0, 1, 0, 0, [], 0)), (18, .iload_n 2, 1, (0, 2, 0, 0, [], 0)), (19, .iload_n 3, 1, (0, 3, 0, 0, [], 0)), (20, .irem, 1, (0, 0, 0, 0, [], 0)), (21, .istore 5, 2, (0, 5, 0, 0, [], 0)), (23, .iload_n 3, 1, (0, 3, 0, 0, [], 0)), (24, .istore_n 2, 1, (0, 2, 0, 0, [], 0)), (25, .iload 5, 2, (0, 5, 0, 0, [], 0)), (27, .istore_n 3, 1, (0, 3, 0, 0, [], 0)), (28, .iinc 4 1, 3, (1, 4, 0, 0, [], 0)), (31, .goto (-24), 3, (0, 100, 0, 0, [], 0))]
def MX4_greatestShared : ms_M := (yX4_greatestShared, cX4_greatestShared, 6, (some .int), (0, 0), (1, 2), [561, 560, 0, 78], [bX4_greatestShared_0, bX4_greatestShared_1], [bX4_greatestShared_100])
def bX4_hearNothing_0 : ms_B := [(0, .aload_n 0, 1, (0, 0, 0, 0, [], 0)), (1, .iconst 0, 1, (0, 0, 0, 0, [], 0)), (2, .putfield 48, 3, (7, 4, 0, 0, [], 262)), (5, .aload_n 0, 1, (0, 0, 0, 0, [], 0)), (6, .iconst 0, 1, (0, 0, 0, 0, [], 0)), (7, .putfield 52, 3, (8, 4, 0, 0, [], 263)), (10, .aload_n 0, 1, (0, 0, 0, 0, [], 0)), (11, .bipush 39, 2, (39, 0, 0, 0, [], 0)), (13, .putfield 55, 3, (9, 4, 0, 0, [], 264)), (16, .return_, 1, (0, 0, 0, 0, [], 0))]
def MX4_hearNothing : ms_M := (yX4_hearNothing, cX4_hearNothing, 1, none, (0, 0), (0, 1), [381, 380, 11, 78], [bX4_hearNothing_0], [])
def bX4_warmths_0 : ms_B := [(0, .aload_n 0, 1, (0, 0, 0, 0, [], 0)), (1, .getfield 55, 3, (9, 4, 0, 0, [], 264)), (4, .aload_n 0, 1, (0, 0, 0, 0, [], 0)), (5, .getfield 52, 3, (8, 4, 0, 0, [], 263)), (8, .isub, 1, (0, 0, 0, 0, [], 0)), (9, .iconst 1, 1, (1, 0, 0, 0, [], 0)), (10, .iadd, 1, (0, 0, 0, 0, [], 0)), (11, .iconst 0, 1, (0, 0, 0, 0, [], 0)), (12, .invokestatic 208, 3, (0, 1000, 0, 0, [], 469)), (15, .ireturn, 1, (0, 0, 0, 0, [], 0))]
def MX4_warmths : ms_M := (yX4_warmths, cX4_warmths, 1, (some .int), (0, 0), (0, 1), [592, 591, 31, 78], [bX4_warmths_0], [])
def bX4_greaterPart_0 : ms_B := [(0, .iload_n 1, 1, (0, 1, 0, 0, [], 0)), (1, .aload_n 0, 1, (0, 0, 0, 0, [], 0)), (2, .getfield 52, 3, (8, 4, 0, 0, [], 263)), (5, .isub, 1, (0, 0, 0, 0, [], 0)), (6, .iconst 1, 1, (1, 0, 0, 0, [], 0)), (7, .iadd, 1, (0, 0, 0, 0, [], 0)), (8, .iconst 0, 1, (0, 0, 0, 0, [], 0)), (9, .invokestatic 208, 3, (0, 1000, 0, 0, [], 469)), (12, .iload_n 2, 1, (0, 2, 0, 0, [], 0)), (13, .invokestatic 213, 3, (0, 1001, 0, 0, [], 472)), (16, .istore_n 3, 1, (0, 3, 0, 0, [], 0)), (17, .iload_n 3, 1, (0, 3, 0, 0, [], 0)), (18, .iload_n 2, 1, (0, 2, 0, 0, [], 0)), (19, .iload_n 3, 1, (0, 3, 0, 0, [], 0)), (20, .isub, 1, (0, 0, 0, 0, [], 0)), (21, .invokestatic 208, 3, (0, 1000, 0, 0, [], 469)), (24, .ireturn, 1, (0, 0, 0, 0, [], 0))]
def MX4_greaterPart : ms_M := (yX4_greaterPart, cX4_greaterPart, 4, (some .int), (0, 0), (0, 3), [600, 599, 32, 78], [bX4_greaterPart_0], [])
def bX4_columnMark_0 : ms_B := [(0, .aload_n 0, 1, (0, 0, 0, 0, [], 0)), (1, .dup, 1, (0, 0, 0, 0, [], 0)), (2, .getfield 58, 3, (10, 4, 2, 0, [], 265)), (5, .lconst 1, 1, (1, 0, 0, 0, [], 0)), (6, .ladd, 1, (0, 0, 0, 0, [], 0)), (7, .putfield 58, 3, (10, 4, 2, 0, [], 265)), (10, .aload_n 0, 1, (0, 0, 0, 0, [], 0)), (11, .getfield 19, 3, (1, 4, 3, 0, [], 256)), (14, .getfield 90, 3, (1, 3, 3, 0, [], 142)), (17, .iload_n 1, 1, (0, 1, 0, 0, [], 0)), (18, .iaload, 1, (0, 0, 0, 0, [], 0)), (19, .ireturn, 1, (0, 0, 0, 0, [], 0))]
def MX4_columnMark : ms_M := (yX4_columnMark, cX4_columnMark, 2, (some .int), (0, 0), (0, 2), [608, 607, 33, 78], [bX4_columnMark_0], [])
def bX4_moorMark_0 : ms_B := [(0, .aload_n 0, 1, (0, 0, 0, 0, [], 0)), (1, .dup, 1, (0, 0, 0, 0, [], 0)), (2, .getfield 58, 3, (10, 4, 2, 0, [], 265)), (5, .ldc2_w 276, 3, (10, 0, 0, 0, [], 613)), (8, .ladd, 1, (0, 0, 0, 0, [], 0)), (9, .putfield 58, 3, (10, 4, 2, 0, [], 265)), (12, .aload_n 0, 1, (0, 0, 0, 0, [], 0)), (13, .iload_n 1, 1, (0, 1, 0, 0, [], 0)), (14, .invokevirtual 231, 3, (0, 85, 2, 5, [], 605)), (17, .aload_n 0, 1, (0, 0, 0, 0, [], 0)), (18, .getfield 19, 3, (1, 4, 3, 0, [], 256)), (21, .getfield 94, 3, (2, 3, 3, 0, [], 145)), (24, .iload_n 1, 1, (0, 1, 0, 0, [], 0)), (25, .iaload, 1, (0, 0, 0, 0, [], 0)), (26, .iadd, 1, (0, 0, 0, 0, [], 0)), (27, .ireturn, 1, (0, 0, 0, 0, [], 0))]
def MX4_moorMark : ms_M := (yX4_moorMark, cX4_moorMark, 2, (some .int), (0, 0), (0, 2), [612, 611, 34, 78], [bX4_moorMark_0], [])
def bX4_fenMark_0 : ms_B := [(0, .aload_n 0, 1, (0, 0, 0, 0, [], 0)), (1, .dup, 1, (0, 0, 0, 0, [], 0)), (2, .getfield 58, 3, (10, 4, 2, 0, [], 265)), (5, .ldc2_w 278, 3, (100, 0, 0, 0, [], 618)), (8, .ladd, 1, (0, 0, 0, 0, [], 0)), (9, .putfield 58, 3, (10, 4, 2, 0, [], 265)), (12, .aload_n 0, 1, (0, 0, 0, 0, [], 0)), (13, .iload_n 1, 1, (0, 1, 0, 0, [], 0)), (14, .invokevirtual 231, 3, (0, 85, 2, 5, [], 605)), (17, .aload_n 0, 1, (0, 0, 0, 0, [], 0)), (18, .getfield 19, 3, (1, 4, 3, 0, [], 256)), (21, .getfield 97, 3, (3, 3, 3, 0, [], 148)), (24, .iload_n 1, 1, (0, 1, 0, 0, [], 0)), (25, .iaload, 1, (0, 0, 0, 0, [], 0)), (26, .isub, 1, (0, 0, 0, 0, [], 0)), (27, .ireturn, 1, (0, 0, 0, 0, [], 0))]
def MX4_fenMark : ms_M := (yX4_fenMark, cX4_fenMark, 2, (some .int), (0, 0), (0, 2), [617, 616, 35, 78], [bX4_fenMark_0], [])
def bX4_fellMark_0 : ms_B := [(0, .aload_n 0, 1, (0, 0, 0, 0, [], 0)), (1, .dup, 1, (0, 0, 0, 0, [], 0)), (2, .getfield 58, 3, (10, 4, 2, 0, [], 265)), (5, .ldc2_w 280, 3, (1000, 0, 0, 0, [], 623)), (8, .ladd, 1, (0, 0, 0, 0, [], 0)), (9, .putfield 58, 3, (10, 4, 2, 0, [], 265)), (12, .aload_n 0, 1, (0, 0, 0, 0, [], 0)), (13, .iload_n 1, 1, (0, 1, 0, 0, [], 0)), (14, .invokevirtual 234, 3, (0, 86, 2, 5, [], 609)), (17, .iconst 2, 1, (2, 0, 0, 0, [], 0)), (18, .imul, 1, (0, 0, 0, 0, [], 0)), (19, .ireturn, 1, (0, 0, 0, 0, [], 0))]
def MX4_fellMark : ms_M := (yX4_fellMark, cX4_fellMark, 2, (some .int), (0, 0), (0, 2), [622, 621, 36, 78], [bX4_fellMark_0], [])
def bX4_saltingMark_0 : ms_B := [(0, .aload_n 0, 1, (0, 0, 0, 0, [], 0)), (1, .dup, 1, (0, 0, 0, 0, [], 0)), (2, .getfield 58, 3, (10, 4, 2, 0, [], 265)), (5, .ldc2_w 282, 3, (10000, 0, 0, 0, [], 628)), (8, .ladd, 1, (0, 0, 0, 0, [], 0)), (9, .putfield 58, 3, (10, 4, 2, 0, [], 265)), (12, .aload_n 0, 1, (0, 0, 0, 0, [], 0)), (13, .iload_n 1, 1, (0, 1, 0, 0, [], 0)), (14, .invokevirtual 237, 3, (0, 87, 2, 5, [], 614)), (17, .iload_n 1, 1, (0, 1, 0, 0, [], 0)), (18, .iadd, 1, (0, 0, 0, 0, [], 0)), (19, .ireturn, 1, (0, 0, 0, 0, [], 0))]
def MX4_saltingMark : ms_M := (yX4_saltingMark, cX4_saltingMark, 2, (some .int), (0, 0), (0, 2), [627, 626, 37, 78], [bX4_saltingMark_0], [])
def bX4_woodMark_0 : ms_B := [(0, .aload_n 0, 1, (0, 0, 0, 0, [], 0)), (1, .dup, 1, (0, 0, 0, 0, [], 0)), (2, .getfield 58, 3, (10, 4, 2, 0, [], 265)), (5, .ldc2_w 284, 3, (100000, 0, 0, 0, [], 633)), (8, .ladd, 1, (0, 0, 0, 0, [], 0)), (9, .putfield 58, 3, (10, 4, 2, 0, [], 265)), (12, .aload_n 0, 1, (0, 0, 0, 0, [], 0)), (13, .iload_n 1, 1, (0, 1, 0, 0, [], 0)), (14, .invokevirtual 231, 3, (0, 85, 2, 5, [], 605)), (17, .aload_n 0, 1, (0, 0, 0, 0, [], 0)), (18, .iload_n 1, 1, (0, 1, 0, 0, [], 0)), (19, .invokevirtual 100, 3, (0, 68, 2, 5, [], 390)), (22, .iadd, 1, (0, 0, 0, 0, [], 0)), (23, .ireturn, 1, (0, 0, 0, 0, [], 0))]
def MX4_woodMark : ms_M := (yX4_woodMark, cX4_woodMark, 2, (some .int), (0, 0), (0, 2), [632, 631, 38, 78], [bX4_woodMark_0], [])
def bX5_in_0 : ms_B := [(0, .iload_n 0, 1, (0, 0, 0, 0, [], 0)), (1, .iload_n 1, 1, (0, 1, 0, 0, [], 0)), (2, .if_icmp .lt 12, 3, (0, 1, 0, 0, [], 0)), (5, .iload_n 0, 1, (0, 0, 0, 0, [], 0)), (6, .iload_n 2, 1, (0, 2, 0, 0, [], 0)), (7, .if_icmp .gt 7, 3, (0, 1, 0, 0, [], 0)), (10, .iconst 1, 1, (1, 0, 0, 0, [], 0)), (11, .goto 4, 3, (0, 2, 0, 0, [], 0))]
def bX5_in_1 : ms_B := [(14, .iconst 0, 1, (0, 0, 0, 0, [], 0)), (15, .nop, 1, (0, 2, 0, 0, [], 0))]
def bX5_in_2 : ms_B := [(15, .ireturn, 1, (0, 0, 1, 0, [], 0))]
def MX5_in : ms_M := (yX5_in, cX5_in, 3, (some .boolean), (0, 0), (1, 3), [778, 777, 0, 83], [bX5_in_0, bX5_in_1, bX5_in_2], [])
def bX5_common_0 : ms_B := [(0, .iload_n 0, 1, (0, 0, 0, 0, [], 0)), (1, .istore_n 2, 1, (0, 2, 0, 0, [], 0)), (2, .iload_n 1, 1, (0, 1, 0, 0, [], 0)), (3, .istore_n 3, 1, (0, 3, 0, 0, [], 0)), (4, .nop, 1, (0, 100, 0, 0, [], 0))]
def bX5_common_1 : ms_B := [(21, .iload_n 2, 1, (0, 2, 0, 0, [], 0)), (22, .ireturn, 1, (0, 0, 0, 0, [], 0))]
def bX5_common_100 : ms_B := [(4, .iload_n 3, 1, (0, 3, 0, 0, [], 0)), (5, .ifCond .eq 16, 3, (0, 1, 0, 0, [], 0)), (8, .iload_n 2, 1, (0, 2, 0, 0, [], 0)), (9, .iload_n 3, 1, (0, 3, 0, 0, [], 0)), (10, .irem, 1, (0, 0, 0, 0, [], 0)), (11, .istore 4, 2, (0, 4, 0, 0, [], 0)), (13, .iload_n 3, 1, (0, 3, 0, 0, [], 0)), (14, .istore_n 2, 1, (0, 2, 0, 0, [], 0)), (15, .iload 4, 2, (0, 4, 0, 0, [], 0)), (17, .istore_n 3, 1, (0, 3, 0, 0, [], 0)), (18, .goto (-14), 3, (0, 100, 0, 0, [], 0))]
def MX5_common : ms_M := (yX5_common, cX5_common, 5, (some .int), (0, 0), (1, 2), [988, 987, 0, 83], [bX5_common_0, bX5_common_1], [bX5_common_100])
def bX5_init_0 : ms_B := [(0, .aload_n 0, 1, (0, 0, 0, 0, [], 0)), (1, .invokespecial 1, 3, (0, 1003, 0, 0, [], 659)), (4, .aload_n 0, 1, (0, 0, 0, 0, [], 0)), (5, .iconst 2, 1, (2, 0, 0, 0, [], 0)), (6, .putfield 7, 3, (3, 5, 0, 0, [], 663)), (9, .aload_n 0, 1, (0, 0, 0, 0, [], 0)), (10, .iconst 2, 1, (2, 0, 0, 0, [], 0)), (11, .newarray .int, 2, (0, 0, 10, 0, [], 0)), (13, .putfield 13, 3, (4, 5, 3, 0, [], 664)), (16, .aload_n 0, 1, (0, 0, 0, 0, [], 0)), (17, .bipush 8, 2, (8, 0, 0, 0, [], 0)), (19, .newarray .int, 2, (0, 0, 10, 0, [], 0)), (21, .putfield 17, 3, (5, 5, 3, 0, [], 665)), (24, .aload_n 0, 1, (0, 0, 0, 0, [], 0)), (25, .bipush 8, 2, (8, 0, 0, 0, [], 0)), (27, .newarray .int, 2, (0, 0, 10, 0, [], 0)), (29, .putfield 20, 3, (6, 5, 3, 0, [], 666)), (32, .aload_n 0, 1, (0, 0, 0, 0, [], 0)), (33, .bipush 8, 2, (8, 0, 0, 0, [], 0)), (35, .newarray .int, 2, (0, 0, 10, 0, [], 0)), (37, .putfield 23, 3, (7, 5, 3, 0, [], 667)), (40, .aload_n 0, 1, (0, 0, 0, 0, [], 0)), (41, .bipush 6, 2, (6, 0, 0, 0, [], 0)), (43, .newarray .int, 2, (0, 0, 10, 0, [], 0)), (45, .putfield 26, 3, (8, 5, 3, 0, [], 668)), (48, .aload_n 0, 1, (0, 0, 0, 0, [], 0)), (49, .bipush 6, 2, (6, 0, 0, 0, [], 0)), (51, .newarray .int, 2, (0, 0, 10, 0, [], 0)), (53, .putfield 29, 3, (9, 5, 3, 0, [], 669)), (56, .aload_n 0, 1, (0, 0, 0, 0, [], 0)), (57, .bipush 8, 2, (8, 0, 0, 0, [], 0)), (59, .newarray .int, 2, (0, 0, 10, 0, [], 0)), (61, .putfield 32, 3, (10, 5, 3, 0, [], 670)), (64, .aload_n 0, 1, (0, 0, 0, 0, [], 0)), (65, .bipush 8, 2, (8, 0, 0, 0, [], 0)), (67, .newarray .int, 2, (0, 0, 10, 0, [], 0)), (69, .putfield 35, 3, (13, 5, 3, 0, [], 673)), (72, .aload_n 0, 1, (0, 0, 0, 0, [], 0)), (73, .bipush 24, 2, (24, 0, 0, 0, [], 0)), (75, .newarray .int, 2, (0, 0, 10, 0, [], 0)), (77, .putfield 38, 3, (15, 5, 3, 0, [], 675)), (80, .aload_n 0, 1, (0, 0, 0, 0, [], 0)), (81, .sipush 140, 3, (140, 0, 0, 0, [], 0)), (84, .newarray .int, 2, (0, 0, 10, 0, [], 0)), (86, .putfield 41, 3, (17, 5, 3, 0, [], 677)), (89, .aload_n 0, 1, (0, 0, 0, 0, [], 0)), (90, .bipush 24, 2, (24, 0, 0, 0, [], 0)), (92, .newarray .int, 2, (0, 0, 10, 0, [], 0)), (94, .putfield 44, 3, (26, 5, 3, 0, [], 686)), (97, .aload_n 0, 1, (0, 0, 0, 0, [], 0)), (98, .bipush 12, 2, (12, 0, 0, 0, [], 0)), (100, .newarray .int, 2, (0, 0, 10, 0, [], 0)), (102, .putfield 47, 3, (27, 5, 3, 0, [], 687)), (105, .aload_n 0, 1, (0, 0, 0, 0, [], 0)), (106, .bipush 8, 2, (8, 0, 0, 0, [], 0)), (108, .newarray .int, 2, (0, 0, 10, 0, [], 0)), (110, .putfield 50, 3, (28, 5, 3, 0, [], 688)), (113, .aload_n 0, 1, (0, 0, 0, 0, [], 0)), (114, .iconst 2, 1, (2, 0, 0, 0, [], 0)), (115, .newarray .int, 2, (0, 0, 10, 0, [], 0)), (117, .putfield 53, 3, (29, 5, 3, 0, [], 689)), (120, .aload_n 0, 1, (0, 0, 0, 0, [], 0)), (121, .bipush 100, 2, (100, 0, 0, 0, [], 0)), (123, .newarray .int, 2, (0, 0, 10, 0, [], 0)), (125, .putfield 56, 3, (31, 5, 3, 0, [], 691)), (128, .aload_n 0, 1, (0, 0, 0, 0, [], 0)), (129, .bipush 8, 2, (8, 0, 0, 0, [], 0)), (131, .newarray .int, 2, (0, 0, 10, 0, [], 0)), (133, .putfield 59, 3, (33, 5, 3, 0, [], 693)), (136, .aload_n 0, 1, (0, 0, 0, 0, [], 0)), (137, .bipush 19, 2, (19, 0, 0, 0, [], 0)), (139, .newarray .int, 2, (0, 0, 10, 0, [], 0)), (141, .putfield 62, 3, (34, 5, 3, 0, [], 694)), (144, .aload_n 0, 1, (0, 0, 0, 0, [], 0)), (145, .bipush 19, 2, (19, 0, 0, 0, [], 0)), (147, .newarray .int, 2, (0, 0, 10, 0, [], 0)), (149, .putfield 65, 3, (35, 5, 3, 0, [], 695)), (152, .aload_n 0, 1, (0, 0, 0, 0, [], 0)), (153, .sipush 224, 3, (224, 0, 0, 0, [], 0)), (156, .newarray .int, 2, (0, 0, 10, 0, [], 0)), (158, .putfield 68, 3, (36, 5, 3, 0, [], 696)), (161, .aload_n 0, 1, (0, 0, 0, 0, [], 0)), (162, .getfield 13, 3, (4, 5, 3, 0, [], 664)), (165, .iconst 1, 1, (1, 0, 0, 0, [], 0)), (166, .iconst 3, 1, (3, 0, 0, 0, [], 0)), (167, .iastore, 1, (0, 0, 0, 0, [], 0)), (168, .return_, 1, (0, 0, 0, 0, [], 0))]
def MX5_init : ms_M := (yX5_init, cX5_init, 1, none, (19, 634), (2, 1), [658, 657, 0, 83], [bX5_init_0], [])
def bX5_isColumn_0 : ms_B := [(0, .iload_n 1, 1, (0, 1, 0, 0, [], 0)), (1, .iconst 0, 1, (0, 0, 0, 0, [], 0)), (2, .aload_n 0, 1, (0, 0, 0, 0, [], 0)), (3, .getfield 71, 3, (0, 5, 0, 0, [], 660)), (6, .iconst 1, 1, (1, 0, 0, 0, [], 0)), (7, .isub, 1, (0, 0, 0, 0, [], 0)), (8, .invokestatic 74, 3, (0, 91, 3, 0, [], 776)), (11, .ireturn, 1, (0, 0, 1, 0, [], 0))]
def MX5_isColumn : ms_M := (yX5_isColumn, cX5_isColumn, 2, (some .boolean), (0, 0), (0, 2), [838, 837, 50, 83], [bX5_isColumn_0], [])
def bX5_isField_0 : ms_B := [(0, .iload_n 0, 1, (0, 0, 0, 0, [], 0)), (1, .iconst 0, 1, (0, 0, 0, 0, [], 0)), (2, .bipush 7, 2, (7, 0, 0, 0, [], 0)), (4, .invokestatic 74, 3, (0, 91, 3, 0, [], 776)), (7, .ireturn, 1, (0, 0, 1, 0, [], 0))]
def MX5_isField : ms_M := (yX5_isField, cX5_isField, 1, (some .boolean), (0, 0), (1, 1), [877, 876, 0, 83], [bX5_isField_0], [])
def bX5_type_0 : ms_B := [(0, .iload_n 1, 1, (0, 1, 0, 0, [], 0)), (1, .iconst 0, 1, (0, 0, 0, 0, [], 0)), (2, .sipush 255, 3, (255, 0, 0, 0, [], 0)), (5, .invokestatic 74, 3, (0, 91, 3, 0, [], 776)), (8, .ifCond .ne 5, 3, (0, 1, 0, 0, [], 0)), (11, .iconst (-1), 1, (-1, 0, 0, 0, [], 0)), (12, .ireturn, 1, (0, 0, 0, 0, [], 0))]
def bX5_type_1 : ms_B := [(13, .aload_n 0, 1, (0, 0, 0, 0, [], 0)), (14, .getfield 78, 3, (18, 5, 0, 0, [], 678)), (17, .sipush 140, 3, (140, 0, 0, 0, [], 0)), (20, .if_icmp .ne 6, 3, (0, 2, 0, 0, [], 0)), (23, .bipush (-3), 2, (-3, 0, 0, 0, [], 0)), (25, .ireturn, 1, (0, 0, 0, 0, [], 0))]
def bX5_type_2 : ms_B := [(26, .aload_n 0, 1, (0, 0, 0, 0, [], 0)), (27, .getfield 41, 3, (17, 5, 3, 0, [], 677)), (30, .aload_n 0, 1, (0, 0, 0, 0, [], 0)), (31, .getfield 78, 3, (18, 5, 0, 0, [], 678)), (34, .iload_n 1, 1, (0, 1, 0, 0, [], 0)), (35, .iastore, 1, (0, 0, 0, 0, [], 0)), (36, .aload_n 0, 1, (0, 0, 0, 0, [], 0)), (37, .dup, 1, (0, 0, 0, 0, [], 0)), (38, .getfield 78, 3, (18, 5, 0, 0, [], 678)), (41, .iconst 1, 1, (1, 0, 0, 0, [], 0)), (42, .iadd, 1, (0, 0, 0, 0, [], 0)), (43, .putfield 78, 3, (18, 5, 0, 0, [], 678)), (46, .aload_n 0, 1, (0, 0, 0, 0, [], 0)), (47, .getfield 78, 3, (18, 5, 0, 0, [], 678)), (50, .ireturn, 1, (0, 0, 0, 0, [], 0))]
def MX5_type : ms_M := (yX5_type, cX5_type, 2, (some .int), (0, 0), (0, 2), [775, 773, 774, 83], [bX5_type_0, bX5_type_1, bX5_type_2], [])
def bX5_clear_0 : ms_B := [(0, .aload_n 0, 1, (0, 0, 0, 0, [], 0)), (1, .getfield 78, 3, (18, 5, 0, 0, [], 678)), (4, .istore_n 1, 1, (0, 1, 0, 0, [], 0)), (5, .aload_n 0, 1, (0, 0, 0, 0, [], 0)), (6, .iconst 0, 1, (0, 0, 0, 0, [], 0)), (7, .putfield 78, 3, (18, 5, 0, 0, [], 678)), (10, .iload_n 1, 1, (0, 1, 0, 0, [], 0)), (11, .ireturn, 1, (0, 0, 0, 0, [], 0))]
def MX5_clear : ms_M := (yX5_clear, cX5_clear, 2, (some .int), (0, 0), (0, 1), [782, 780, 781, 83], [bX5_clear_0], [])
def bX5_here_0 : ms_B := [(0, .aload_n 0, 1, (0, 0, 0, 0, [], 0)), (1, .getfield 81, 3, (19, 5, 0, 0, [], 679)), (4, .aload_n 0, 1, (0, 0, 0, 0, [], 0)), (5, .getfield 78, 3, (18, 5, 0, 0, [], 678)), (8, .if_icmp .ge 15, 3, (0, 1, 0, 0, [], 0)), (11, .aload_n 0, 1, (0, 0, 0, 0, [], 0)), (12, .getfield 41, 3, (17, 5, 3, 0, [], 677)), (15, .aload_n 0, 1, (0, 0, 0, 0, [], 0)), (16, .getfield 81, 3, (19, 5, 0, 0, [], 679)), (19, .iaload, 1, (0, 0, 0, 0, [], 0)), (20, .goto 5, 3, (0, 2, 0, 0, [], 0))]
def bX5_here_1 : ms_B := [(23, .bipush (-9), 2, (-9, 0, 0, 0, [], 0)), (25, .nop, 1, (0, 2, 0, 0, [], 0))]
def bX5_here_2 : ms_B := [(25, .ireturn, 1, (0, 0, 0, 0, [], 0))]
def MX5_here : ms_M := (yX5_here, cX5_here, 1, (some .int), (0, 0), (0, 1), [794, 793, 40, 83], [bX5_here_0, bX5_here_1, bX5_here_2], [])
def bX5_skip_0 : ms_B := [(0, .nop, 1, (0, 100, 0, 0, [], 0))]
def bX5_skip_1 : ms_B := [(22, .return_, 1, (0, 0, 0, 0, [], 0))]
def bX5_skip_100 : ms_B := [(0, .aload_n 0, 1, (0, 0, 0, 0, [], 0)), (1, .invokevirtual 84, 3, (0, 98, 1, 6, [], 791)), (4, .bipush 32, 2, (32, 0, 0, 0, [], 0)), (6, .if_icmp .ne 16, 3, (0, 1, 0, 0, [], 0)), (9, .aload_n 0, 1, (0, 0, 0, 0, [], 0)), (10, .dup, 1, (0, 0, 0, 0, [], 0)), (11, .getfield 81, 3, (19, 5, 0, 0, [], 679)), (14, .iconst 1, 1, (1, 0, 0, 0, [], 0)), (15, .iadd, 1, (0, 0, 0, 0, [], 0)), (16, .putfield 81, 3, (19, 5, 0, 0, [], 679)), (19, .goto (-19), 3, (0, 100, 0, 0, [], 0))]
def MX5_skip : ms_M := (yX5_skip, cX5_skip, 1, none, (0, 0), (0, 1), [790, 789, 39, 83], [bX5_skip_0, bX5_skip_1], [bX5_skip_100])
def bX5_number_0 : ms_B := [(0, .aload_n 0, 1, (0, 0, 0, 0, [], 0)), (1, .invokevirtual 88, 3, (0, 99, 1, 6, [], 787)), (4, .iconst 0, 1, (0, 0, 0, 0, [], 0)), (5, .istore_n 3, 1, (0, 3, 0, 0, [], 0)), (6, .iconst 0, 1, (0, 0, 0, 0, [], 0)), (7, .istore 4, 2, (0, 4, 0, 0, [], 0)), (9, .nop, 1, (0, 100, 0, 0, [], 0))]
def bX5_number_1 : ms_B := [(71, .iload 4, 2, (0, 4, 0, 0, [], 0)), (73, .nop, 1, (0, 2, 0, 0, [], 0))]
def bX5_number_2 : ms_B := [(73, .istore 4, 2, (0, 4, 0, 0, [], 0)), (75, .iinc 3 1, 3, (1, 3, 0, 0, [], 0)), (78, .goto (-69), 3, (0, 100, 0, 0, [], 0))]
def bX5_number_3 : ms_B := [(81, .iload_n 3, 1, (0, 3, 0, 0, [], 0)), (82, .iconst 1, 1, (1, 0, 0, 0, [], 0)), (83, .iconst 2, 1, (2, 0, 0, 0, [], 0)), (84, .invokestatic 74, 3, (0, 91, 3, 0, [], 776)), (87, .ifCond .eq 27, 3, (0, 5, 0, 0, [], 0)), (90, .iload_n 3, 1, (0, 3, 0, 0, [], 0)), (91, .iconst 1, 1, (1, 0, 0, 0, [], 0)), (92, .if_icmp .le 12, 3, (0, 4, 0, 0, [], 0)), (95, .aload_n 0, 1, (0, 0, 0, 0, [], 0)), (96, .invokevirtual 84, 3, (0, 98, 1, 6, [], 791)), (99, .bipush 48, 2, (48, 0, 0, 0, [], 0)), (101, .if_icmp .eq 13, 3, (0, 5, 0, 0, [], 0)), (104, .nop, 1, (0, 4, 0, 0, [], 0))]
def bX5_number_4 : ms_B := [(104, .iload 4, 2, (0, 4, 0, 0, [], 0)), (106, .iload_n 1, 1, (0, 1, 0, 0, [], 0)), (107, .iload_n 2, 1, (0, 2, 0, 0, [], 0)), (108, .invokestatic 74, 3, (0, 91, 3, 0, [], 776)), (111, .ifCond .ne 5, 3, (0, 6, 0, 0, [], 0)), (114, .nop, 1, (0, 5, 0, 0, [], 0))]
def bX5_number_5 : ms_B := [(114, .iconst 0, 1, (0, 0, 0, 0, [], 0)), (115, .ireturn, 1, (0, 0, 1, 0, [], 0))]
def bX5_number_6 : ms_B := [(116, .aload_n 0, 1, (0, 0, 0, 0, [], 0)), (117, .iload 4, 2, (0, 4, 0, 0, [], 0)), (119, .putfield 91, 3, (25, 5, 0, 0, [], 685)), (122, .aload_n 0, 1, (0, 0, 0, 0, [], 0)), (123, .dup, 1, (0, 0, 0, 0, [], 0)), (124, .getfield 81, 3, (19, 5, 0, 0, [], 679)), (127, .iload_n 3, 1, (0, 3, 0, 0, [], 0)), (128, .iadd, 1, (0, 0, 0, 0, [], 0)), (129, .putfield 81, 3, (19, 5, 0, 0, [], 679)), (132, .iconst 1, 1, (1, 0, 0, 0, [], 0)), (133, .ireturn, 1, (0, 0, 1, 0, [], 0))]
def bX5_number_100 : ms_B := [(9, .aload_n 0, 1, (0, 0, 0, 0, [], 0)), (10, .getfield 81, 3, (19, 5, 0, 0, [], 679)), (13, .iload_n 3, 1, (0, 3, 0, 0, [], 0)), (14, .iadd, 1, (0, 0, 0, 0, [], 0)), (15, .aload_n 0, 1, (0, 0, 0, 0, [], 0)), (16, .getfield 78, 3, (18, 5, 0, 0, [], 678)), (19, .if_icmp .ge 62, 3, (0, 3, 0, 0, [], 0)), (22, .aload_n 0, 1, (0, 0, 0, 0, [], 0)), (23, .getfield 41, 3, (17, 5, 3, 0, [], 677)), (26, .aload_n 0, 1, (0, 0, 0, 0, [], 0)), (27, .getfield 81, 3, (19, 5, 0, 0, [], 679)), (30, .iload_n 3, 1, (0, 3, 0, 0, [], 0)), (31, .iadd, 1, (0, 0, 0, 0, [], 0)), (32, .iaload, 1, (0, 0, 0, 0, [], 0)), (33, .bipush 48, 2, (48, 0, 0, 0, [], 0)), (35, .bipush 57, 2, (57, 0, 0, 0, [], 0)), (37, .invokestatic 74, 3, (0, 91, 3, 0, [], 776)), (40, .ifCond .eq 41, 3, (0, 3, 0, 0, [], 0)), (43, .iload_n 3, 1, (0, 3, 0, 0, [], 0)), (44, .iconst 2, 1, (2, 0, 0, 0, [], 0)), (45, .if_icmp .ge 26, 3, (0, 1, 0, 0, [], 0)), (48, .bipush 10, 2, (10, 0, 0, 0, [], 0)), (50, .iload 4, 2, (0, 4, 0, 0, [], 0)), (52, .imul, 1, (0, 0, 0, 0, [], 0)), (53, .aload_n 0, 1, (0, 0, 0, 0, [], 0)), (54, .getfield 41, 3, (17, 5, 3, 0, [], 677)), (57, .aload_n 0, 1, (0, 0, 0, 0, [], 0)), (58, .getfield 81, 3, (19, 5, 0, 0, [], 679)), (61, .iload_n 3, 1, (0, 3, 0, 0, [], 0)), (62, .iadd, 1, (0, 0, 0, 0, [], 0)), (63, .iaload, 1, (0, 0, 0, 0, [], 0)), (64, .iadd, 1, (0, 0, 0, 0, [], 0)), (65, .bipush 48, 2, (48, 0, 0, 0, [], 0)), (67, .isub, 1, (0, 0, 0, 0, [], 0)), (68, .goto 5, 3, (0, 2, 0, 0, [], 0))]
def MX5_number : ms_M := (yX5_number, cX5_number, 5, (some .boolean), (0, 0), (0, 3), [806, 805, 43, 83], [bX5_number_0, bX5_number_1, bX5_number_2, bX5_number_3, bX5_number_4, bX5_number_5, bX5_number_6], [bX5_number_100])
def bX5_ends_0 : ms_B := [(0, .aload_n 0, 1, (0, 0, 0, 0, [], 0)), (1, .invokevirtual 88, 3, (0, 99, 1, 6, [], 787)), (4, .aload_n 0, 1, (0, 0, 0, 0, [], 0)), (5, .invokevirtual 84, 3, (0, 98, 1, 6, [], 791)), (8, .bipush 59, 2, (59, 0, 0, 0, [], 0)), (10, .if_icmp .eq 5, 3, (0, 1, 0, 0, [], 0)), (13, .iconst 0, 1, (0, 0, 0, 0, [], 0)), (14, .ireturn, 1, (0, 0, 1, 0, [], 0))]
def bX5_ends_1 : ms_B := [(15, .aload_n 0, 1, (0, 0, 0, 0, [], 0)), (16, .dup, 1, (0, 0, 0, 0, [], 0)), (17, .getfield 81, 3, (19, 5, 0, 0, [], 679)), (20, .iconst 1, 1, (1, 0, 0, 0, [], 0)), (21, .iadd, 1, (0, 0, 0, 0, [], 0)), (22, .putfield 81, 3, (19, 5, 0, 0, [], 679)), (25, .iconst 1, 1, (1, 0, 0, 0, [], 0)), (26, .ireturn, 1, (0, 0, 1, 0, [], 0))]
def MX5_ends : ms_M := (yX5_ends, cX5_ends, 1, (some .boolean), (0, 0), (0, 1), [810, 809, 44, 83], [bX5_ends_0, bX5_ends_1], [])
def bX5_readsColumn_0 : ms_B := [(0, .iconst 0, 1, (0, 0, 0, 0, [], 0)), (1, .istore_n 1, 1, (0, 1, 0, 0, [], 0)), (2, .nop, 1, (0, 100, 0, 0, [], 0))]
def bX5_readsColumn_1 : ms_B := [(19, .aload_n 0, 1, (0, 0, 0, 0, [], 0)), (20, .getfield 44, 3, (26, 5, 3, 0, [], 686)), (23, .iconst 3, 1, (3, 0, 0, 0, [], 0)), (24, .aload_n 0, 1, (0, 0, 0, 0, [], 0)), (25, .getfield 98, 3, (20, 5, 0, 0, [], 680)), (28, .imul, 1, (0, 0, 0, 0, [], 0)), (29, .iload_n 1, 1, (0, 1, 0, 0, [], 0)), (30, .iadd, 1, (0, 0, 0, 0, [], 0)), (31, .aload_n 0, 1, (0, 0, 0, 0, [], 0)), (32, .getfield 91, 3, (25, 5, 0, 0, [], 685)), (35, .iastore, 1, (0, 0, 0, 0, [], 0)), (36, .iinc 1 1, 3, (1, 1, 0, 0, [], 0)), (39, .goto (-37), 3, (0, 100, 0, 0, [], 0))]
def bX5_readsColumn_2 : ms_B := [(42, .aload_n 0, 1, (0, 0, 0, 0, [], 0)), (43, .dup, 1, (0, 0, 0, 0, [], 0)), (44, .getfield 98, 3, (20, 5, 0, 0, [], 680)), (47, .iconst 1, 1, (1, 0, 0, 0, [], 0)), (48, .iadd, 1, (0, 0, 0, 0, [], 0)), (49, .putfield 98, 3, (20, 5, 0, 0, [], 680)), (52, .aload_n 0, 1, (0, 0, 0, 0, [], 0)), (53, .invokevirtual 101, 3, (0, 101, 1, 6, [], 807)), (56, .ireturn, 1, (0, 0, 1, 0, [], 0))]
def bX5_readsColumn_100 : ms_B := [(2, .iload_n 1, 1, (0, 1, 0, 0, [], 0)), (3, .iconst 3, 1, (3, 0, 0, 0, [], 0)), (4, .if_icmp .ge 38, 3, (0, 2, 0, 0, [], 0)), (7, .aload_n 0, 1, (0, 0, 0, 0, [], 0)), (8, .iconst 0, 1, (0, 0, 0, 0, [], 0)), (9, .bipush 9, 2, (9, 0, 0, 0, [], 0)), (11, .invokevirtual 94, 3, (0, 100, 3, 6, [], 803)), (14, .ifCond .ne 5, 3, (0, 1, 0, 0, [], 0)), (17, .iconst 0, 1, (0, 0, 0, 0, [], 0)), (18, .ireturn, 1, (0, 0, 1, 0, [], 0))]
def MX5_readsColumn : ms_M := (yX5_readsColumn, cX5_readsColumn, 2, (some .boolean), (0, 0), (0, 1), [802, 801, 42, 83], [bX5_readsColumn_0, bX5_readsColumn_1, bX5_readsColumn_2], [bX5_readsColumn_100])
def bX5_readsVoter_0 : ms_B := [(0, .aload_n 0, 1, (0, 0, 0, 0, [], 0)), (1, .iconst 1, 1, (1, 0, 0, 0, [], 0)), (2, .bipush 9, 2, (9, 0, 0, 0, [], 0)), (4, .invokevirtual 94, 3, (0, 100, 3, 6, [], 803)), (7, .ifCond .ne 5, 3, (0, 1, 0, 0, [], 0)), (10, .iconst 0, 1, (0, 0, 0, 0, [], 0)), (11, .ireturn, 1, (0, 0, 1, 0, [], 0))]
def bX5_readsVoter_1 : ms_B := [(12, .aload_n 0, 1, (0, 0, 0, 0, [], 0)), (13, .getfield 47, 3, (27, 5, 3, 0, [], 687)), (16, .iconst 2, 1, (2, 0, 0, 0, [], 0)), (17, .aload_n 0, 1, (0, 0, 0, 0, [], 0)), (18, .getfield 105, 3, (21, 5, 0, 0, [], 681)), (21, .imul, 1, (0, 0, 0, 0, [], 0)), (22, .aload_n 0, 1, (0, 0, 0, 0, [], 0)), (23, .getfield 91, 3, (25, 5, 0, 0, [], 685)), (26, .iastore, 1, (0, 0, 0, 0, [], 0)), (27, .aload_n 0, 1, (0, 0, 0, 0, [], 0)), (28, .iconst 0, 1, (0, 0, 0, 0, [], 0)), (29, .iconst 1, 1, (1, 0, 0, 0, [], 0)), (30, .invokevirtual 94, 3, (0, 100, 3, 6, [], 803)), (33, .ifCond .ne 5, 3, (0, 2, 0, 0, [], 0)), (36, .iconst 0, 1, (0, 0, 0, 0, [], 0)), (37, .ireturn, 1, (0, 0, 1, 0, [], 0))]
def bX5_readsVoter_2 : ms_B := [(38, .aload_n 0, 1, (0, 0, 0, 0, [], 0)), (39, .getfield 47, 3, (27, 5, 3, 0, [], 687)), (42, .iconst 2, 1, (2, 0, 0, 0, [], 0)), (43, .aload_n 0, 1, (0, 0, 0, 0, [], 0)), (44, .getfield 105, 3, (21, 5, 0, 0, [], 681)), (47, .imul, 1, (0, 0, 0, 0, [], 0)), (48, .iconst 1, 1, (1, 0, 0, 0, [], 0)), (49, .iadd, 1, (0, 0, 0, 0, [], 0)), (50, .aload_n 0, 1, (0, 0, 0, 0, [], 0)), (51, .getfield 91, 3, (25, 5, 0, 0, [], 685)), (54, .iastore, 1, (0, 0, 0, 0, [], 0)), (55, .aload_n 0, 1, (0, 0, 0, 0, [], 0)), (56, .dup, 1, (0, 0, 0, 0, [], 0)), (57, .getfield 105, 3, (21, 5, 0, 0, [], 681)), (60, .iconst 1, 1, (1, 0, 0, 0, [], 0)), (61, .iadd, 1, (0, 0, 0, 0, [], 0)), (62, .putfield 105, 3, (21, 5, 0, 0, [], 681)), (65, .aload_n 0, 1, (0, 0, 0, 0, [], 0)), (66, .invokevirtual 101, 3, (0, 101, 1, 6, [], 807)), (69, .ireturn, 1, (0, 0, 1, 0, [], 0))]
def MX5_readsVoter : ms_M := (yX5_readsVoter, cX5_readsVoter, 1, (some .boolean), (0, 0), (0, 1), [822, 821, 47, 83], [bX5_readsVoter_0, bX5_readsVoter_1, bX5_readsVoter_2], [])
def bX5_readsDay_0 : ms_B := [(0, .aload_n 0, 1, (0, 0, 0, 0, [], 0)), (1, .iconst 0, 1, (0, 0, 0, 0, [], 0)), (2, .bipush 30, 2, (30, 0, 0, 0, [], 0)), (4, .invokevirtual 94, 3, (0, 100, 3, 6, [], 803)), (7, .ifCond .ne 5, 3, (0, 1, 0, 0, [], 0)), (10, .iconst 0, 1, (0, 0, 0, 0, [], 0)), (11, .ireturn, 1, (0, 0, 1, 0, [], 0))]
def bX5_readsDay_1 : ms_B := [(12, .aload_n 0, 1, (0, 0, 0, 0, [], 0)), (13, .getfield 50, 3, (28, 5, 3, 0, [], 688)), (16, .aload_n 0, 1, (0, 0, 0, 0, [], 0)), (17, .getfield 108, 3, (22, 5, 0, 0, [], 682)), (20, .aload_n 0, 1, (0, 0, 0, 0, [], 0)), (21, .getfield 91, 3, (25, 5, 0, 0, [], 685)), (24, .iastore, 1, (0, 0, 0, 0, [], 0)), (25, .aload_n 0, 1, (0, 0, 0, 0, [], 0)), (26, .dup, 1, (0, 0, 0, 0, [], 0)), (27, .getfield 108, 3, (22, 5, 0, 0, [], 682)), (30, .iconst 1, 1, (1, 0, 0, 0, [], 0)), (31, .iadd, 1, (0, 0, 0, 0, [], 0)), (32, .putfield 108, 3, (22, 5, 0, 0, [], 682)), (35, .aload_n 0, 1, (0, 0, 0, 0, [], 0)), (36, .invokevirtual 101, 3, (0, 101, 1, 6, [], 807)), (39, .ireturn, 1, (0, 0, 1, 0, [], 0))]
def MX5_readsDay : ms_M := (yX5_readsDay, cX5_readsDay, 1, (some .boolean), (0, 0), (0, 1), [826, 825, 48, 83], [bX5_readsDay_0, bX5_readsDay_1], [])
def bX5_readsGap_0 : ms_B := [(0, .aload_n 0, 1, (0, 0, 0, 0, [], 0)), (1, .iconst 1, 1, (1, 0, 0, 0, [], 0)), (2, .bipush 6, 2, (6, 0, 0, 0, [], 0)), (4, .invokevirtual 94, 3, (0, 100, 3, 6, [], 803)), (7, .ifCond .ne 5, 3, (0, 1, 0, 0, [], 0)), (10, .iconst 0, 1, (0, 0, 0, 0, [], 0)), (11, .ireturn, 1, (0, 0, 1, 0, [], 0))]
def bX5_readsGap_1 : ms_B := [(12, .aload_n 0, 1, (0, 0, 0, 0, [], 0)), (13, .aload_n 0, 1, (0, 0, 0, 0, [], 0)), (14, .getfield 91, 3, (25, 5, 0, 0, [], 685)), (17, .putfield 111, 3, (23, 5, 0, 0, [], 683)), (20, .aload_n 0, 1, (0, 0, 0, 0, [], 0)), (21, .invokevirtual 101, 3, (0, 101, 1, 6, [], 807)), (24, .ireturn, 1, (0, 0, 1, 0, [], 0))]
def MX5_readsGap : ms_M := (yX5_readsGap, cX5_readsGap, 1, (some .boolean), (0, 0), (0, 1), [814, 813, 45, 83], [bX5_readsGap_0, bX5_readsGap_1], [])
def bX5_readsHands_0 : ms_B := [(0, .iconst 0, 1, (0, 0, 0, 0, [], 0)), (1, .istore_n 1, 1, (0, 1, 0, 0, [], 0)), (2, .nop, 1, (0, 100, 0, 0, [], 0))]
def bX5_readsHands_1 : ms_B := [(19, .aload_n 0, 1, (0, 0, 0, 0, [], 0)), (20, .getfield 53, 3, (29, 5, 3, 0, [], 689)), (23, .iload_n 1, 1, (0, 1, 0, 0, [], 0)), (24, .aload_n 0, 1, (0, 0, 0, 0, [], 0)), (25, .getfield 91, 3, (25, 5, 0, 0, [], 685)), (28, .iastore, 1, (0, 0, 0, 0, [], 0)), (29, .iinc 1 1, 3, (1, 1, 0, 0, [], 0)), (32, .goto (-30), 3, (0, 100, 0, 0, [], 0))]
def bX5_readsHands_2 : ms_B := [(35, .aload_n 0, 1, (0, 0, 0, 0, [], 0)), (36, .iconst 1, 1, (1, 0, 0, 0, [], 0)), (37, .putfield 114, 3, (24, 5, 0, 0, [], 684)), (40, .aload_n 0, 1, (0, 0, 0, 0, [], 0)), (41, .invokevirtual 101, 3, (0, 101, 1, 6, [], 807)), (44, .ireturn, 1, (0, 0, 1, 0, [], 0))]
def bX5_readsHands_100 : ms_B := [(2, .iload_n 1, 1, (0, 1, 0, 0, [], 0)), (3, .iconst 2, 1, (2, 0, 0, 0, [], 0)), (4, .if_icmp .ge 31, 3, (0, 2, 0, 0, [], 0)), (7, .aload_n 0, 1, (0, 0, 0, 0, [], 0)), (8, .iconst 0, 1, (0, 0, 0, 0, [], 0)), (9, .bipush 9, 2, (9, 0, 0, 0, [], 0)), (11, .invokevirtual 94, 3, (0, 100, 3, 6, [], 803)), (14, .ifCond .ne 5, 3, (0, 1, 0, 0, [], 0)), (17, .iconst 0, 1, (0, 0, 0, 0, [], 0)), (18, .ireturn, 1, (0, 0, 1, 0, [], 0))]
def MX5_readsHands : ms_M := (yX5_readsHands, cX5_readsHands, 2, (some .boolean), (0, 0), (0, 1), [818, 817, 46, 83], [bX5_readsHands_0, bX5_readsHands_1, bX5_readsHands_2], [bX5_readsHands_100])
def bX5_readsItem_0 : ms_B := [(0, .aload_n 0, 1, (0, 0, 0, 0, [], 0)), (1, .invokevirtual 84, 3, (0, 98, 1, 6, [], 791)), (4, .istore_n 1, 1, (0, 1, 0, 0, [], 0)), (5, .aload_n 0, 1, (0, 0, 0, 0, [], 0)), (6, .getfield 81, 3, (19, 5, 0, 0, [], 679)), (9, .iconst 1, 1, (1, 0, 0, 0, [], 0)), (10, .iadd, 1, (0, 0, 0, 0, [], 0)), (11, .aload_n 0, 1, (0, 0, 0, 0, [], 0)), (12, .getfield 78, 3, (18, 5, 0, 0, [], 678)), (15, .if_icmp .ge 24, 3, (0, 1, 0, 0, [], 0)), (18, .aload_n 0, 1, (0, 0, 0, 0, [], 0)), (19, .getfield 41, 3, (17, 5, 3, 0, [], 677)), (22, .aload_n 0, 1, (0, 0, 0, 0, [], 0)), (23, .getfield 81, 3, (19, 5, 0, 0, [], 679)), (26, .iconst 1, 1, (1, 0, 0, 0, [], 0)), (27, .iadd, 1, (0, 0, 0, 0, [], 0)), (28, .iaload, 1, (0, 0, 0, 0, [], 0)), (29, .bipush 97, 2, (97, 0, 0, 0, [], 0)), (31, .bipush 122, 2, (122, 0, 0, 0, [], 0)), (33, .invokestatic 74, 3, (0, 91, 3, 0, [], 776)), (36, .ifCond .ne 7, 3, (0, 2, 0, 0, [], 0)), (39, .nop, 1, (0, 1, 0, 0, [], 0))]
def bX5_readsItem_1 : ms_B := [(39, .iconst 1, 1, (1, 0, 0, 0, [], 0)), (40, .goto 4, 3, (0, 3, 0, 0, [], 0))]
def bX5_readsItem_2 : ms_B := [(43, .iconst 0, 1, (0, 0, 0, 0, [], 0)), (44, .nop, 1, (0, 3, 0, 0, [], 0))]
def bX5_readsItem_3 : ms_B := [(44, .istore_n 2, 1, (0, 2, 0, 0, [], 0)), (45, .iload_n 1, 1, (0, 1, 0, 0, [], 0)), (46, .bipush 99, 2, (99, 0, 0, 0, [], 0)), (48, .if_icmp .ne 20, 3, (0, 5, 0, 0, [], 0)), (51, .aload_n 0, 1, (0, 0, 0, 0, [], 0)), (52, .getfield 98, 3, (20, 5, 0, 0, [], 680)), (55, .bipush 8, 2, (8, 0, 0, 0, [], 0)), (57, .if_icmp .ge 7, 3, (0, 4, 0, 0, [], 0)), (60, .iconst 1, 1, (1, 0, 0, 0, [], 0)), (61, .goto 92, 3, (0, 13, 0, 0, [], 0))]
def bX5_readsItem_4 : ms_B := [(64, .iconst 0, 1, (0, 0, 0, 0, [], 0)), (65, .goto 88, 3, (0, 13, 0, 0, [], 0))]
def bX5_readsItem_5 : ms_B := [(68, .iload_n 1, 1, (0, 1, 0, 0, [], 0)), (69, .bipush 103, 2, (103, 0, 0, 0, [], 0)), (71, .if_icmp .ne 18, 3, (0, 7, 0, 0, [], 0)), (74, .aload_n 0, 1, (0, 0, 0, 0, [], 0)), (75, .getfield 111, 3, (23, 5, 0, 0, [], 683)), (78, .ifCond .ne 7, 3, (0, 6, 0, 0, [], 0)), (81, .iconst 1, 1, (1, 0, 0, 0, [], 0)), (82, .goto 71, 3, (0, 13, 0, 0, [], 0))]
def bX5_readsItem_6 : ms_B := [(85, .iconst 0, 1, (0, 0, 0, 0, [], 0)), (86, .goto 67, 3, (0, 13, 0, 0, [], 0))]
def bX5_readsItem_7 : ms_B := [(89, .iload_n 1, 1, (0, 1, 0, 0, [], 0)), (90, .bipush 104, 2, (104, 0, 0, 0, [], 0)), (92, .if_icmp .ne 18, 3, (0, 9, 0, 0, [], 0)), (95, .aload_n 0, 1, (0, 0, 0, 0, [], 0)), (96, .getfield 114, 3, (24, 5, 0, 0, [], 684)), (99, .ifCond .ne 7, 3, (0, 8, 0, 0, [], 0)), (102, .iconst 1, 1, (1, 0, 0, 0, [], 0)), (103, .goto 50, 3, (0, 13, 0, 0, [], 0))]
def bX5_readsItem_8 : ms_B := [(106, .iconst 0, 1, (0, 0, 0, 0, [], 0)), (107, .goto 46, 3, (0, 13, 0, 0, [], 0))]
def bX5_readsItem_9 : ms_B := [(110, .iload_n 1, 1, (0, 1, 0, 0, [], 0)), (111, .bipush 118, 2, (118, 0, 0, 0, [], 0)), (113, .if_icmp .ne 20, 3, (0, 11, 0, 0, [], 0)), (116, .aload_n 0, 1, (0, 0, 0, 0, [], 0)), (117, .getfield 105, 3, (21, 5, 0, 0, [], 681)), (120, .bipush 6, 2, (6, 0, 0, 0, [], 0)), (122, .if_icmp .ge 7, 3, (0, 10, 0, 0, [], 0)), (125, .iconst 1, 1, (1, 0, 0, 0, [], 0)), (126, .goto 27, 3, (0, 13, 0, 0, [], 0))]
def bX5_readsItem_10 : ms_B := [(129, .iconst 0, 1, (0, 0, 0, 0, [], 0)), (130, .goto 23, 3, (0, 13, 0, 0, [], 0))]
def bX5_readsItem_11 : ms_B := [(133, .iload_n 1, 1, (0, 1, 0, 0, [], 0)), (134, .bipush 100, 2, (100, 0, 0, 0, [], 0)), (136, .if_icmp .ne 16, 3, (0, 12, 0, 0, [], 0)), (139, .aload_n 0, 1, (0, 0, 0, 0, [], 0)), (140, .getfield 108, 3, (22, 5, 0, 0, [], 682)), (143, .bipush 8, 2, (8, 0, 0, 0, [], 0)), (145, .if_icmp .ge 7, 3, (0, 12, 0, 0, [], 0)), (148, .iconst 1, 1, (1, 0, 0, 0, [], 0)), (149, .goto 4, 3, (0, 13, 0, 0, [], 0))]
def bX5_readsItem_12 : ms_B := [(152, .iconst 0, 1, (0, 0, 0, 0, [], 0)), (153, .nop, 1, (0, 13, 0, 0, [], 0))]
def bX5_readsItem_13 : ms_B := [(153, .istore_n 3, 1, (0, 3, 0, 0, [], 0)), (154, .iload_n 2, 1, (0, 2, 0, 0, [], 0)), (155, .ifCond .eq 7, 3, (0, 14, 0, 0, [], 0)), (158, .iload_n 3, 1, (0, 3, 0, 0, [], 0)), (159, .ifCond .ne 5, 3, (0, 15, 0, 0, [], 0)), (162, .nop, 1, (0, 14, 0, 0, [], 0))]
def bX5_readsItem_14 : ms_B := [(162, .iconst 0, 1, (0, 0, 0, 0, [], 0)), (163, .ireturn, 1, (0, 0, 1, 0, [], 0))]
def bX5_readsItem_15 : ms_B := [(164, .aload_n 0, 1, (0, 0, 0, 0, [], 0)), (165, .dup, 1, (0, 0, 0, 0, [], 0)), (166, .getfield 81, 3, (19, 5, 0, 0, [], 679)), (169, .iconst 1, 1, (1, 0, 0, 0, [], 0)), (170, .iadd, 1, (0, 0, 0, 0, [], 0)), (171, .putfield 81, 3, (19, 5, 0, 0, [], 679)), (174, .iload_n 1, 1, (0, 1, 0, 0, [], 0)), (175, .bipush 99, 2, (99, 0, 0, 0, [], 0)), (177, .if_icmp .ne 10, 3, (0, 16, 0, 0, [], 0)), (180, .aload_n 0, 1, (0, 0, 0, 0, [], 0)), (181, .invokevirtual 117, 3, (0, 102, 1, 6, [], 799)), (184, .goto 46, 3, (0, 20, 0, 0, [], 0))]
def bX5_readsItem_16 : ms_B := [(187, .iload_n 1, 1, (0, 1, 0, 0, [], 0)), (188, .bipush 103, 2, (103, 0, 0, 0, [], 0)), (190, .if_icmp .ne 10, 3, (0, 17, 0, 0, [], 0)), (193, .aload_n 0, 1, (0, 0, 0, 0, [], 0)), (194, .invokevirtual 120, 3, (0, 105, 1, 6, [], 811)), (197, .goto 33, 3, (0, 20, 0, 0, [], 0))]
def bX5_readsItem_17 : ms_B := [(200, .iload_n 1, 1, (0, 1, 0, 0, [], 0)), (201, .bipush 104, 2, (104, 0, 0, 0, [], 0)), (203, .if_icmp .ne 10, 3, (0, 18, 0, 0, [], 0)), (206, .aload_n 0, 1, (0, 0, 0, 0, [], 0)), (207, .invokevirtual 123, 3, (0, 106, 1, 6, [], 815)), (210, .goto 20, 3, (0, 20, 0, 0, [], 0))]
def bX5_readsItem_18 : ms_B := [(213, .iload_n 1, 1, (0, 1, 0, 0, [], 0)), (214, .bipush 118, 2, (118, 0, 0, 0, [], 0)), (216, .if_icmp .ne 10, 3, (0, 19, 0, 0, [], 0)), (219, .aload_n 0, 1, (0, 0, 0, 0, [], 0)), (220, .invokevirtual 126, 3, (0, 103, 1, 6, [], 819)), (223, .goto 7, 3, (0, 20, 0, 0, [], 0))]
def bX5_readsItem_19 : ms_B := [(226, .aload_n 0, 1, (0, 0, 0, 0, [], 0)), (227, .invokevirtual 129, 3, (0, 104, 1, 6, [], 823)), (230, .nop, 1, (0, 20, 0, 0, [], 0))]
def bX5_readsItem_20 : ms_B := [(230, .ireturn, 1, (0, 0, 1, 0, [], 0))]
def MX5_readsItem : ms_M := (yX5_readsItem, cX5_readsItem, 4, (some .boolean), (0, 0), (0, 1), [798, 797, 41, 83], [bX5_readsItem_0, bX5_readsItem_1, bX5_readsItem_2, bX5_readsItem_3, bX5_readsItem_4, bX5_readsItem_5, bX5_readsItem_6, bX5_readsItem_7, bX5_readsItem_8, bX5_readsItem_9, bX5_readsItem_10, bX5_readsItem_11, bX5_readsItem_12, bX5_readsItem_13, bX5_readsItem_14, bX5_readsItem_15, bX5_readsItem_16, bX5_readsItem_17, bX5_readsItem_18, bX5_readsItem_19, bX5_readsItem_20], [])
def bX5_wold_0 : ms_B := [(0, .aload_n 0, 1, (0, 0, 0, 0, [], 0)), (1, .iconst 0, 1, (0, 0, 0, 0, [], 0)), (2, .putfield 81, 3, (19, 5, 0, 0, [], 679)), (5, .aload_n 0, 1, (0, 0, 0, 0, [], 0)), (6, .iconst 0, 1, (0, 0, 0, 0, [], 0)), (7, .putfield 98, 3, (20, 5, 0, 0, [], 680)), (10, .aload_n 0, 1, (0, 0, 0, 0, [], 0)), (11, .iconst 0, 1, (0, 0, 0, 0, [], 0)), (12, .putfield 105, 3, (21, 5, 0, 0, [], 681)), (15, .aload_n 0, 1, (0, 0, 0, 0, [], 0)), (16, .iconst 0, 1, (0, 0, 0, 0, [], 0)), (17, .putfield 108, 3, (22, 5, 0, 0, [], 682)), (20, .aload_n 0, 1, (0, 0, 0, 0, [], 0)), (21, .iconst 0, 1, (0, 0, 0, 0, [], 0)), (22, .putfield 111, 3, (23, 5, 0, 0, [], 683)), (25, .aload_n 0, 1, (0, 0, 0, 0, [], 0)), (26, .iconst 0, 1, (0, 0, 0, 0, [], 0)), (27, .putfield 114, 3, (24, 5, 0, 0, [], 684)), (30, .iconst 0, 1, (0, 0, 0, 0, [], 0)), (31, .istore_n 1, 1, (0, 1, 0, 0, [], 0)), (32, .aload_n 0, 1, (0, 0, 0, 0, [], 0)), (33, .invokevirtual 88, 3, (0, 99, 1, 6, [], 787)), (36, .nop, 1, (0, 100, 0, 0, [], 0))]
def bX5_wold_1 : ms_B := [(62, .iinc 1 1, 3, (1, 1, 0, 0, [], 0)), (65, .aload_n 0, 1, (0, 0, 0, 0, [], 0)), (66, .invokevirtual 88, 3, (0, 99, 1, 6, [], 787)), (69, .goto (-33), 3, (0, 100, 0, 0, [], 0))]
def bX5_wold_2 : ms_B := [(72, .aload_n 0, 1, (0, 0, 0, 0, [], 0)), (73, .iconst 0, 1, (0, 0, 0, 0, [], 0)), (74, .putfield 78, 3, (18, 5, 0, 0, [], 678)), (77, .aload_n 0, 1, (0, 0, 0, 0, [], 0)), (78, .invokevirtual 135, 3, (0, 109, 1, 6, [], 827)), (81, .iload_n 1, 1, (0, 1, 0, 0, [], 0)), (82, .ireturn, 1, (0, 0, 0, 0, [], 0))]
def bX5_wold_100 : ms_B := [(36, .aload_n 0, 1, (0, 0, 0, 0, [], 0)), (37, .getfield 81, 3, (19, 5, 0, 0, [], 679)), (40, .aload_n 0, 1, (0, 0, 0, 0, [], 0)), (41, .getfield 78, 3, (18, 5, 0, 0, [], 678)), (44, .if_icmp .ge 28, 3, (0, 2, 0, 0, [], 0)), (47, .aload_n 0, 1, (0, 0, 0, 0, [], 0)), (48, .invokevirtual 132, 3, (0, 107, 1, 6, [], 795)), (51, .ifCond .ne 11, 3, (0, 1, 0, 0, [], 0)), (54, .bipush (-10), 2, (-10, 0, 0, 0, [], 0)), (56, .aload_n 0, 1, (0, 0, 0, 0, [], 0)), (57, .getfield 81, 3, (19, 5, 0, 0, [], 679)), (60, .isub, 1, (0, 0, 0, 0, [], 0)), (61, .ireturn, 1, (0, 0, 0, 0, [], 0))]
def MX5_wold : ms_M := (yX5_wold, cX5_wold, 2, (some .int), (0, 0), (0, 1), [786, 784, 785, 83], [bX5_wold_0, bX5_wold_1, bX5_wold_2], [bX5_wold_100])
def bX5_comesRead_0 : ms_B := [(0, .aload_n 0, 1, (0, 0, 0, 0, [], 0)), (1, .aload_n 0, 1, (0, 0, 0, 0, [], 0)), (2, .getfield 98, 3, (20, 5, 0, 0, [], 680)), (5, .putfield 71, 3, (0, 5, 0, 0, [], 660)), (8, .aload_n 0, 1, (0, 0, 0, 0, [], 0)), (9, .aload_n 0, 1, (0, 0, 0, 0, [], 0)), (10, .getfield 105, 3, (21, 5, 0, 0, [], 681)), (13, .putfield 138, 3, (1, 5, 0, 0, [], 661)), (16, .aload_n 0, 1, (0, 0, 0, 0, [], 0)), (17, .aload_n 0, 1, (0, 0, 0, 0, [], 0)), (18, .getfield 108, 3, (22, 5, 0, 0, [], 682)), (21, .putfield 141, 3, (2, 5, 0, 0, [], 662)), (24, .aload_n 0, 1, (0, 0, 0, 0, [], 0)), (25, .aload_n 0, 1, (0, 0, 0, 0, [], 0)), (26, .getfield 111, 3, (23, 5, 0, 0, [], 683)), (29, .ifCond .ne 7, 3, (0, 1, 0, 0, [], 0)), (32, .iconst 2, 1, (2, 0, 0, 0, [], 0)), (33, .goto 7, 3, (0, 2, 0, 0, [], 0))]
def bX5_comesRead_1 : ms_B := [(36, .aload_n 0, 1, (0, 0, 0, 0, [], 0)), (37, .getfield 111, 3, (23, 5, 0, 0, [], 683)), (40, .nop, 1, (0, 2, 0, 0, [], 0))]
def bX5_comesRead_2 : ms_B := [(40, .putfield 7, 3, (3, 5, 0, 0, [], 663)), (43, .aload_n 0, 1, (0, 0, 0, 0, [], 0)), (44, .getfield 13, 3, (4, 5, 3, 0, [], 664)), (47, .iconst 0, 1, (0, 0, 0, 0, [], 0)), (48, .aload_n 0, 1, (0, 0, 0, 0, [], 0)), (49, .getfield 114, 3, (24, 5, 0, 0, [], 684)), (52, .ifCond .ne 7, 3, (0, 3, 0, 0, [], 0)), (55, .iconst 0, 1, (0, 0, 0, 0, [], 0)), (56, .goto 9, 3, (0, 4, 0, 0, [], 0))]
def bX5_comesRead_3 : ms_B := [(59, .aload_n 0, 1, (0, 0, 0, 0, [], 0)), (60, .getfield 53, 3, (29, 5, 3, 0, [], 689)), (63, .iconst 0, 1, (0, 0, 0, 0, [], 0)), (64, .iaload, 1, (0, 0, 0, 0, [], 0)), (65, .nop, 1, (0, 4, 0, 0, [], 0))]
def bX5_comesRead_4 : ms_B := [(65, .iastore, 1, (0, 0, 0, 0, [], 0)), (66, .aload_n 0, 1, (0, 0, 0, 0, [], 0)), (67, .getfield 13, 3, (4, 5, 3, 0, [], 664)), (70, .iconst 1, 1, (1, 0, 0, 0, [], 0)), (71, .aload_n 0, 1, (0, 0, 0, 0, [], 0)), (72, .getfield 114, 3, (24, 5, 0, 0, [], 684)), (75, .ifCond .ne 7, 3, (0, 5, 0, 0, [], 0)), (78, .iconst 3, 1, (3, 0, 0, 0, [], 0)), (79, .goto 9, 3, (0, 6, 0, 0, [], 0))]
def bX5_comesRead_5 : ms_B := [(82, .aload_n 0, 1, (0, 0, 0, 0, [], 0)), (83, .getfield 53, 3, (29, 5, 3, 0, [], 689)), (86, .iconst 1, 1, (1, 0, 0, 0, [], 0)), (87, .iaload, 1, (0, 0, 0, 0, [], 0)), (88, .nop, 1, (0, 6, 0, 0, [], 0))]
def bX5_comesRead_6 : ms_B := [(88, .iastore, 1, (0, 0, 0, 0, [], 0)), (89, .iconst 0, 1, (0, 0, 0, 0, [], 0)), (90, .istore_n 1, 1, (0, 1, 0, 0, [], 0)), (91, .nop, 1, (0, 100, 0, 0, [], 0))]
def bX5_comesRead_7 : ms_B := [(151, .iconst 0, 1, (0, 0, 0, 0, [], 0)), (152, .istore_n 1, 1, (0, 1, 0, 0, [], 0)), (153, .nop, 1, (0, 101, 0, 0, [], 0))]
def bX5_comesRead_8 : ms_B := [(197, .iconst 0, 1, (0, 0, 0, 0, [], 0)), (198, .istore_n 1, 1, (0, 1, 0, 0, [], 0)), (199, .nop, 1, (0, 102, 0, 0, [], 0))]
def bX5_comesRead_9 : ms_B := [(225, .aload_n 0, 1, (0, 0, 0, 0, [], 0)), (226, .iconst 0, 1, (0, 0, 0, 0, [], 0)), (227, .putfield 144, 3, (11, 5, 0, 0, [], 671)), (230, .aload_n 0, 1, (0, 0, 0, 0, [], 0)), (231, .iconst 0, 1, (0, 0, 0, 0, [], 0)), (232, .putfield 146, 3, (12, 5, 0, 0, [], 672)), (235, .iconst 0, 1, (0, 0, 0, 0, [], 0)), (236, .istore_n 1, 1, (0, 1, 0, 0, [], 0)), (237, .nop, 1, (0, 103, 0, 0, [], 0))]
def bX5_comesRead_10 : ms_B := [(256, .aload_n 0, 1, (0, 0, 0, 0, [], 0)), (257, .iconst 0, 1, (0, 0, 0, 0, [], 0)), (258, .putfield 149, 3, (14, 5, 0, 0, [], 674)), (261, .aload_n 0, 1, (0, 0, 0, 0, [], 0)), (262, .iconst 0, 1, (0, 0, 0, 0, [], 0)), (263, .putfield 152, 3, (32, 5, 0, 0, [], 692)), (266, .aload_n 0, 1, (0, 0, 0, 0, [], 0)), (267, .getfield 68, 3, (36, 5, 3, 0, [], 696)), (270, .iconst 0, 1, (0, 0, 0, 0, [], 0)), (271, .iconst 0, 1, (0, 0, 0, 0, [], 0)), (272, .iastore, 1, (0, 0, 0, 0, [], 0)), (273, .aload_n 0, 1, (0, 0, 0, 0, [], 0)), (274, .getfield 68, 3, (36, 5, 3, 0, [], 696)), (277, .bipush 112, 2, (112, 0, 0, 0, [], 0)), (279, .iconst 0, 1, (0, 0, 0, 0, [], 0)), (280, .iastore, 1, (0, 0, 0, 0, [], 0)), (281, .return_, 1, (0, 0, 0, 0, [], 0))]
def bX5_comesRead_100 : ms_B := [(91, .iload_n 1, 1, (0, 1, 0, 0, [], 0)), (92, .aload_n 0, 1, (0, 0, 0, 0, [], 0)), (93, .getfield 71, 3, (0, 5, 0, 0, [], 660)), (96, .if_icmp .ge 55, 3, (0, 7, 0, 0, [], 0)), (99, .aload_n 0, 1, (0, 0, 0, 0, [], 0)), (100, .getfield 17, 3, (5, 5, 3, 0, [], 665)), (103, .iload_n 1, 1, (0, 1, 0, 0, [], 0)), (104, .aload_n 0, 1, (0, 0, 0, 0, [], 0)), (105, .getfield 44, 3, (26, 5, 3, 0, [], 686)), (108, .iconst 3, 1, (3, 0, 0, 0, [], 0)), (109, .iload_n 1, 1, (0, 1, 0, 0, [], 0)), (110, .imul, 1, (0, 0, 0, 0, [], 0)), (111, .iaload, 1, (0, 0, 0, 0, [], 0)), (112, .iastore, 1, (0, 0, 0, 0, [], 0)), (113, .aload_n 0, 1, (0, 0, 0, 0, [], 0)), (114, .getfield 20, 3, (6, 5, 3, 0, [], 666)), (117, .iload_n 1, 1, (0, 1, 0, 0, [], 0)), (118, .aload_n 0, 1, (0, 0, 0, 0, [], 0)), (119, .getfield 44, 3, (26, 5, 3, 0, [], 686)), (122, .iconst 3, 1, (3, 0, 0, 0, [], 0)), (123, .iload_n 1, 1, (0, 1, 0, 0, [], 0)), (124, .imul, 1, (0, 0, 0, 0, [], 0)), (125, .iconst 1, 1, (1, 0, 0, 0, [], 0)), (126, .iadd, 1, (0, 0, 0, 0, [], 0)), (127, .iaload, 1, (0, 0, 0, 0, [], 0)), (128, .iastore, 1, (0, 0, 0, 0, [], 0)), (129, .aload_n 0, 1, (0, 0, 0, 0, [], 0)), (130, .getfield 23, 3, (7, 5, 3, 0, [], 667)), (133, .iload_n 1, 1, (0, 1, 0, 0, [], 0)), (134, .aload_n 0, 1, (0, 0, 0, 0, [], 0)), (135, .getfield 44, 3, (26, 5, 3, 0, [], 686)), (138, .iconst 3, 1, (3, 0, 0, 0, [], 0)), (139, .iload_n 1, 1, (0, 1, 0, 0, [], 0)), (140, .imul, 1, (0, 0, 0, 0, [], 0)), (141, .iconst 2, 1, (2, 0, 0, 0, [], 0)), (142, .iadd, 1, (0, 0, 0, 0, [], 0)), (143, .iaload, 1, (0, 0, 0, 0, [], 0)), (144, .iastore, 1, (0, 0, 0, 0, [], 0)), (145, .iinc 1 1, 3, (1, 1, 0, 0, [], 0)), (148, .goto (-57), 3, (0, 100, 0, 0, [], 0))]
def bX5_comesRead_101 : ms_B := [(153, .iload_n 1, 1, (0, 1, 0, 0, [], 0)), (154, .aload_n 0, 1, (0, 0, 0, 0, [], 0)), (155, .getfield 138, 3, (1, 5, 0, 0, [], 661)), (158, .if_icmp .ge 39, 3, (0, 8, 0, 0, [], 0)), (161, .aload_n 0, 1, (0, 0, 0, 0, [], 0)), (162, .getfield 26, 3, (8, 5, 3, 0, [], 668)), (165, .iload_n 1, 1, (0, 1, 0, 0, [], 0)), (166, .aload_n 0, 1, (0, 0, 0, 0, [], 0)), (167, .getfield 47, 3, (27, 5, 3, 0, [], 687)), (170, .iconst 2, 1, (2, 0, 0, 0, [], 0)), (171, .iload_n 1, 1, (0, 1, 0, 0, [], 0)), (172, .imul, 1, (0, 0, 0, 0, [], 0)), (173, .iaload, 1, (0, 0, 0, 0, [], 0)), (174, .iastore, 1, (0, 0, 0, 0, [], 0)), (175, .aload_n 0, 1, (0, 0, 0, 0, [], 0)), (176, .getfield 29, 3, (9, 5, 3, 0, [], 669)), (179, .iload_n 1, 1, (0, 1, 0, 0, [], 0)), (180, .aload_n 0, 1, (0, 0, 0, 0, [], 0)), (181, .getfield 47, 3, (27, 5, 3, 0, [], 687)), (184, .iconst 2, 1, (2, 0, 0, 0, [], 0)), (185, .iload_n 1, 1, (0, 1, 0, 0, [], 0)), (186, .imul, 1, (0, 0, 0, 0, [], 0)), (187, .iconst 1, 1, (1, 0, 0, 0, [], 0)), (188, .iadd, 1, (0, 0, 0, 0, [], 0)), (189, .iaload, 1, (0, 0, 0, 0, [], 0)), (190, .iastore, 1, (0, 0, 0, 0, [], 0)), (191, .iinc 1 1, 3, (1, 1, 0, 0, [], 0)), (194, .goto (-41), 3, (0, 101, 0, 0, [], 0))]
def bX5_comesRead_102 : ms_B := [(199, .iload_n 1, 1, (0, 1, 0, 0, [], 0)), (200, .aload_n 0, 1, (0, 0, 0, 0, [], 0)), (201, .getfield 141, 3, (2, 5, 0, 0, [], 662)), (204, .if_icmp .ge 21, 3, (0, 9, 0, 0, [], 0)), (207, .aload_n 0, 1, (0, 0, 0, 0, [], 0)), (208, .getfield 32, 3, (10, 5, 3, 0, [], 670)), (211, .iload_n 1, 1, (0, 1, 0, 0, [], 0)), (212, .aload_n 0, 1, (0, 0, 0, 0, [], 0)), (213, .getfield 50, 3, (28, 5, 3, 0, [], 688)), (216, .iload_n 1, 1, (0, 1, 0, 0, [], 0)), (217, .iaload, 1, (0, 0, 0, 0, [], 0)), (218, .iastore, 1, (0, 0, 0, 0, [], 0)), (219, .iinc 1 1, 3, (1, 1, 0, 0, [], 0)), (222, .goto (-23), 3, (0, 102, 0, 0, [], 0))]
def bX5_comesRead_103 : ms_B := [(237, .iload_n 1, 1, (0, 1, 0, 0, [], 0)), (238, .bipush 8, 2, (8, 0, 0, 0, [], 0)), (240, .if_icmp .ge 16, 3, (0, 10, 0, 0, [], 0)), (243, .aload_n 0, 1, (0, 0, 0, 0, [], 0)), (244, .getfield 35, 3, (13, 5, 3, 0, [], 673)), (247, .iload_n 1, 1, (0, 1, 0, 0, [], 0)), (248, .iconst 0, 1, (0, 0, 0, 0, [], 0)), (249, .iastore, 1, (0, 0, 0, 0, [], 0)), (250, .iinc 1 1, 3, (1, 1, 0, 0, [], 0)), (253, .goto (-16), 3, (0, 103, 0, 0, [], 0))]
def MX5_comesRead : ms_M := (yX5_comesRead, cX5_comesRead, 2, none, (0, 0), (0, 1), [830, 829, 49, 83], [bX5_comesRead_0, bX5_comesRead_1, bX5_comesRead_2, bX5_comesRead_3, bX5_comesRead_4, bX5_comesRead_5, bX5_comesRead_6, bX5_comesRead_7, bX5_comesRead_8, bX5_comesRead_9, bX5_comesRead_10], [bX5_comesRead_100, bX5_comesRead_101, bX5_comesRead_102, bX5_comesRead_103])
def bX5_warmAt_0 : ms_B := [(0, .aload_n 0, 1, (0, 0, 0, 0, [], 0)), (1, .getfield 141, 3, (2, 5, 0, 0, [], 662)), (4, .ifCond .ne 7, 3, (0, 1, 0, 0, [], 0)), (7, .iconst 0, 1, (0, 0, 0, 0, [], 0)), (8, .goto 14, 3, (0, 2, 0, 0, [], 0))]
def bX5_warmAt_1 : ms_B := [(11, .aload_n 0, 1, (0, 0, 0, 0, [], 0)), (12, .getfield 32, 3, (10, 5, 3, 0, [], 670)), (15, .iload_n 1, 1, (0, 1, 0, 0, [], 0)), (16, .aload_n 0, 1, (0, 0, 0, 0, [], 0)), (17, .getfield 141, 3, (2, 5, 0, 0, [], 662)), (20, .irem, 1, (0, 0, 0, 0, [], 0)), (21, .iaload, 1, (0, 0, 0, 0, [], 0)), (22, .nop, 1, (0, 2, 0, 0, [], 0))]
def bX5_warmAt_2 : ms_B := [(22, .ireturn, 1, (0, 0, 0, 0, [], 0))]
def MX5_warmAt : ms_M := (yX5_warmAt, cX5_warmAt, 2, (some .int), (0, 0), (0, 2), [858, 857, 55, 83], [bX5_warmAt_0, bX5_warmAt_1, bX5_warmAt_2], [])
def bX5_mildBy_0 : ms_B := [(0, .iload_n 1, 1, (0, 1, 0, 0, [], 0)), (1, .aload_n 0, 1, (0, 0, 0, 0, [], 0)), (2, .getfield 17, 3, (5, 5, 3, 0, [], 665)), (5, .iload_n 2, 1, (0, 2, 0, 0, [], 0)), (6, .iaload, 1, (0, 0, 0, 0, [], 0)), (7, .isub, 1, (0, 0, 0, 0, [], 0)), (8, .iload_n 3, 1, (0, 3, 0, 0, [], 0)), (9, .isub, 1, (0, 0, 0, 0, [], 0)), (10, .ireturn, 1, (0, 0, 0, 0, [], 0))]
def MX5_mildBy : ms_M := (yX5_mildBy, cX5_mildBy, 4, (some .int), (0, 0), (0, 4), [862, 861, 56, 83], [bX5_mildBy_0], [])
def bX5_warmthNow_0 : ms_B := [(0, .aload_n 0, 1, (0, 0, 0, 0, [], 0)), (1, .aload_n 0, 1, (0, 0, 0, 0, [], 0)), (2, .getfield 144, 3, (11, 5, 0, 0, [], 671)), (5, .invokevirtual 155, 3, (0, 110, 2, 6, [], 855)), (8, .aload_n 0, 1, (0, 0, 0, 0, [], 0)), (9, .getfield 146, 3, (12, 5, 0, 0, [], 672)), (12, .iadd, 1, (0, 0, 0, 0, [], 0)), (13, .ireturn, 1, (0, 0, 0, 0, [], 0))]
def MX5_warmthNow : ms_M := (yX5_warmthNow, cX5_warmthNow, 1, (some .int), (0, 0), (0, 1), [854, 853, 54, 83], [bX5_warmthNow_0], [])
def bX5_mild_0 : ms_B := [(0, .aload_n 0, 1, (0, 0, 0, 0, [], 0)), (1, .aload_n 0, 1, (0, 0, 0, 0, [], 0)), (2, .invokevirtual 159, 3, (0, 112, 1, 6, [], 851)), (5, .iload_n 1, 1, (0, 1, 0, 0, [], 0)), (6, .iload_n 2, 1, (0, 2, 0, 0, [], 0)), (7, .invokevirtual 162, 3, (0, 111, 4, 6, [], 859)), (10, .ireturn, 1, (0, 0, 0, 0, [], 0))]
def MX5_mild : ms_M := (yX5_mild, cX5_mild, 3, (some .int), (0, 0), (0, 3), [850, 849, 53, 83], [bX5_mild_0], [])
def bX5_lowestBy_0 : ms_B := [(0, .iconst 0, 1, (0, 0, 0, 0, [], 0)), (1, .istore_n 3, 1, (0, 3, 0, 0, [], 0)), (2, .nop, 1, (0, 100, 0, 0, [], 0))]
def bX5_lowestBy_1 : ms_B := [(24, .iload_n 3, 1, (0, 3, 0, 0, [], 0)), (25, .ireturn, 1, (0, 0, 0, 0, [], 0))]
def bX5_lowestBy_100 : ms_B := [(2, .iload_n 3, 1, (0, 3, 0, 0, [], 0)), (3, .bipush 8, 2, (8, 0, 0, 0, [], 0)), (5, .if_icmp .ge 19, 3, (0, 1, 0, 0, [], 0)), (8, .aload_n 0, 1, (0, 0, 0, 0, [], 0)), (9, .iload_n 1, 1, (0, 1, 0, 0, [], 0)), (10, .iload_n 3, 1, (0, 3, 0, 0, [], 0)), (11, .invokevirtual 166, 3, (0, 113, 3, 6, [], 847)), (14, .iload_n 2, 1, (0, 2, 0, 0, [], 0)), (15, .if_icmp .le 9, 3, (0, 1, 0, 0, [], 0)), (18, .iinc 3 1, 3, (1, 3, 0, 0, [], 0)), (21, .goto (-19), 3, (0, 100, 0, 0, [], 0))]
def MX5_lowestBy : ms_M := (yX5_lowestBy, cX5_lowestBy, 4, (some .int), (0, 0), (0, 3), [846, 845, 52, 83], [bX5_lowestBy_0, bX5_lowestBy_1], [bX5_lowestBy_100])
def bX5_edge_0 : ms_B := [(0, .aload_n 0, 1, (0, 0, 0, 0, [], 0)), (1, .iload_n 1, 1, (0, 1, 0, 0, [], 0)), (2, .iconst 0, 1, (0, 0, 0, 0, [], 0)), (3, .invokevirtual 170, 3, (0, 114, 3, 6, [], 843)), (6, .ireturn, 1, (0, 0, 0, 0, [], 0))]
def MX5_edge : ms_M := (yX5_edge, cX5_edge, 2, (some .int), (0, 0), (0, 2), [842, 841, 51, 83], [bX5_edge_0], [])
def bX5_wet_0 : ms_B := [(0, .aload_n 0, 1, (0, 0, 0, 0, [], 0)), (1, .iload_n 1, 1, (0, 1, 0, 0, [], 0)), (2, .aload_n 0, 1, (0, 0, 0, 0, [], 0)), (3, .getfield 7, 3, (3, 5, 0, 0, [], 663)), (6, .invokevirtual 170, 3, (0, 114, 3, 6, [], 843)), (9, .ireturn, 1, (0, 0, 0, 0, [], 0))]
def MX5_wet : ms_M := (yX5_wet, cX5_wet, 2, (some .int), (0, 0), (0, 2), [866, 865, 57, 83], [bX5_wet_0], [])
def bX5_halves_0 : ms_B := [(0, .aload_n 0, 1, (0, 0, 0, 0, [], 0)), (1, .iload_n 1, 1, (0, 1, 0, 0, [], 0)), (2, .aload_n 0, 1, (0, 0, 0, 0, [], 0)), (3, .getfield 13, 3, (4, 5, 3, 0, [], 664)), (6, .iconst 0, 1, (0, 0, 0, 0, [], 0)), (7, .iaload, 1, (0, 0, 0, 0, [], 0)), (8, .invokevirtual 170, 3, (0, 114, 3, 6, [], 843)), (11, .istore_n 2, 1, (0, 2, 0, 0, [], 0)), (12, .aload_n 0, 1, (0, 0, 0, 0, [], 0)), (13, .iload_n 1, 1, (0, 1, 0, 0, [], 0)), (14, .aload_n 0, 1, (0, 0, 0, 0, [], 0)), (15, .getfield 13, 3, (4, 5, 3, 0, [], 664)), (18, .iconst 1, 1, (1, 0, 0, 0, [], 0)), (19, .iaload, 1, (0, 0, 0, 0, [], 0)), (20, .invokevirtual 170, 3, (0, 114, 3, 6, [], 843)), (23, .istore_n 3, 1, (0, 3, 0, 0, [], 0)), (24, .aload_n 0, 1, (0, 0, 0, 0, [], 0)), (25, .iconst 0, 1, (0, 0, 0, 0, [], 0)), (26, .putfield 173, 3, (30, 5, 0, 0, [], 690)), (29, .nop, 1, (0, 100, 0, 0, [], 0))]
def bX5_halves_1 : ms_B := [(45, .iload_n 3, 1, (0, 3, 0, 0, [], 0)), (46, .iload_n 2, 1, (0, 2, 0, 0, [], 0)), (47, .isub, 1, (0, 0, 0, 0, [], 0)), (48, .nop, 1, (0, 2, 0, 0, [], 0))]
def bX5_halves_2 : ms_B := [(48, .istore 4, 2, (0, 4, 0, 0, [], 0)), (50, .iload 4, 2, (0, 4, 0, 0, [], 0)), (52, .iconst 1, 1, (1, 0, 0, 0, [], 0)), (53, .iadd, 1, (0, 0, 0, 0, [], 0)), (54, .iconst 2, 1, (2, 0, 0, 0, [], 0)), (55, .idiv, 1, (0, 0, 0, 0, [], 0)), (56, .istore 5, 2, (0, 5, 0, 0, [], 0)), (58, .aload_n 0, 1, (0, 0, 0, 0, [], 0)), (59, .getfield 173, 3, (30, 5, 0, 0, [], 690)), (62, .iconst 2, 1, (2, 0, 0, 0, [], 0)), (63, .irem, 1, (0, 0, 0, 0, [], 0)), (64, .ifCond .ne 22, 3, (0, 5, 0, 0, [], 0)), (67, .iload_n 2, 1, (0, 2, 0, 0, [], 0)), (68, .iload_n 2, 1, (0, 2, 0, 0, [], 0)), (69, .iload_n 3, 1, (0, 3, 0, 0, [], 0)), (70, .if_icmp .ge 8, 3, (0, 3, 0, 0, [], 0)), (73, .iload 5, 2, (0, 5, 0, 0, [], 0)), (75, .goto 6, 3, (0, 4, 0, 0, [], 0))]
def bX5_halves_3 : ms_B := [(78, .iload 5, 2, (0, 5, 0, 0, [], 0)), (80, .ineg, 1, (0, 0, 0, 0, [], 0)), (81, .nop, 1, (0, 4, 0, 0, [], 0))]
def bX5_halves_4 : ms_B := [(81, .iadd, 1, (0, 0, 0, 0, [], 0)), (82, .istore_n 2, 1, (0, 2, 0, 0, [], 0)), (83, .goto 19, 3, (0, 8, 0, 0, [], 0))]
def bX5_halves_5 : ms_B := [(86, .iload_n 3, 1, (0, 3, 0, 0, [], 0)), (87, .iload_n 3, 1, (0, 3, 0, 0, [], 0)), (88, .iload_n 2, 1, (0, 2, 0, 0, [], 0)), (89, .if_icmp .ge 8, 3, (0, 6, 0, 0, [], 0)), (92, .iload 5, 2, (0, 5, 0, 0, [], 0)), (94, .goto 6, 3, (0, 7, 0, 0, [], 0))]
def bX5_halves_6 : ms_B := [(97, .iload 5, 2, (0, 5, 0, 0, [], 0)), (99, .ineg, 1, (0, 0, 0, 0, [], 0)), (100, .nop, 1, (0, 7, 0, 0, [], 0))]
def bX5_halves_7 : ms_B := [(100, .iadd, 1, (0, 0, 0, 0, [], 0)), (101, .istore_n 3, 1, (0, 3, 0, 0, [], 0)), (102, .nop, 1, (0, 8, 0, 0, [], 0))]
def bX5_halves_8 : ms_B := [(102, .aload_n 0, 1, (0, 0, 0, 0, [], 0)), (103, .dup, 1, (0, 0, 0, 0, [], 0)), (104, .getfield 173, 3, (30, 5, 0, 0, [], 690)), (107, .iconst 1, 1, (1, 0, 0, 0, [], 0)), (108, .iadd, 1, (0, 0, 0, 0, [], 0)), (109, .putfield 173, 3, (30, 5, 0, 0, [], 690)), (112, .goto (-83), 3, (0, 100, 0, 0, [], 0))]
def bX5_halves_9 : ms_B := [(115, .iload_n 2, 1, (0, 2, 0, 0, [], 0)), (116, .ireturn, 1, (0, 0, 0, 0, [], 0))]
def bX5_halves_100 : ms_B := [(29, .iload_n 2, 1, (0, 2, 0, 0, [], 0)), (30, .iload_n 3, 1, (0, 3, 0, 0, [], 0)), (31, .if_icmp .eq 84, 3, (0, 9, 0, 0, [], 0)), (34, .iload_n 2, 1, (0, 2, 0, 0, [], 0)), (35, .iload_n 3, 1, (0, 3, 0, 0, [], 0)), (36, .if_icmp .le 9, 3, (0, 1, 0, 0, [], 0)), (39, .iload_n 2, 1, (0, 2, 0, 0, [], 0)), (40, .iload_n 3, 1, (0, 3, 0, 0, [], 0)), (41, .isub, 1, (0, 0, 0, 0, [], 0)), (42, .goto 6, 3, (0, 2, 0, 0, [], 0))]
def MX5_halves : ms_M := (yX5_halves, cX5_halves, 6, (some .int), (0, 0), (0, 2), [870, 869, 58, 83], [bX5_halves_0, bX5_halves_1, bX5_halves_2, bX5_halves_3, bX5_halves_4, bX5_halves_5, bX5_halves_6, bX5_halves_7, bX5_halves_8, bX5_halves_9], [bX5_halves_100])
def bX5_column_0 : ms_B := [(0, .aload_n 0, 1, (0, 0, 0, 0, [], 0)), (1, .iload_n 1, 1, (0, 1, 0, 0, [], 0)), (2, .invokevirtual 176, 3, (0, 94, 2, 6, [], 835)), (5, .ifCond .eq 13, 3, (0, 1, 0, 0, [], 0)), (8, .iload_n 2, 1, (0, 2, 0, 0, [], 0)), (9, .iconst 0, 1, (0, 0, 0, 0, [], 0)), (10, .bipush 9, 2, (9, 0, 0, 0, [], 0)), (12, .invokestatic 74, 3, (0, 91, 3, 0, [], 776)), (15, .ifCond .ne 5, 3, (0, 2, 0, 0, [], 0)), (18, .nop, 1, (0, 1, 0, 0, [], 0))]
def bX5_column_1 : ms_B := [(18, .iconst (-1), 1, (-1, 0, 0, 0, [], 0)), (19, .ireturn, 1, (0, 0, 0, 0, [], 0))]
def bX5_column_2 : ms_B := [(20, .iload_n 2, 1, (0, 2, 0, 0, [], 0)), (21, .tableswitch 128 0 9 #[55, 62, 69, 76, 82, 88, 128, 128, 111, 117], 55, (0, 13, 0, 0, [(0, 3), (1, 4), (2, 5), (3, 6), (4, 7), (5, 8), (6, 13), (7, 13), (8, 11), (9, 12)], 0))]
def bX5_column_3 : ms_B := [(76, .aload_n 0, 1, (0, 0, 0, 0, [], 0)), (77, .getfield 17, 3, (5, 5, 3, 0, [], 665)), (80, .iload_n 1, 1, (0, 1, 0, 0, [], 0)), (81, .iaload, 1, (0, 0, 0, 0, [], 0)), (82, .ireturn, 1, (0, 0, 0, 0, [], 0))]
def bX5_column_4 : ms_B := [(83, .aload_n 0, 1, (0, 0, 0, 0, [], 0)), (84, .getfield 20, 3, (6, 5, 3, 0, [], 666)), (87, .iload_n 1, 1, (0, 1, 0, 0, [], 0)), (88, .iaload, 1, (0, 0, 0, 0, [], 0)), (89, .ireturn, 1, (0, 0, 0, 0, [], 0))]
def bX5_column_5 : ms_B := [(90, .aload_n 0, 1, (0, 0, 0, 0, [], 0)), (91, .getfield 23, 3, (7, 5, 3, 0, [], 667)), (94, .iload_n 1, 1, (0, 1, 0, 0, [], 0)), (95, .iaload, 1, (0, 0, 0, 0, [], 0)), (96, .ireturn, 1, (0, 0, 0, 0, [], 0))]
def bX5_column_6 : ms_B := [(97, .aload_n 0, 1, (0, 0, 0, 0, [], 0)), (98, .iload_n 1, 1, (0, 1, 0, 0, [], 0)), (99, .invokevirtual 180, 3, (0, 115, 2, 6, [], 839)), (102, .ireturn, 1, (0, 0, 0, 0, [], 0))]
def bX5_column_7 : ms_B := [(103, .aload_n 0, 1, (0, 0, 0, 0, [], 0)), (104, .iload_n 1, 1, (0, 1, 0, 0, [], 0)), (105, .invokevirtual 183, 3, (0, 116, 2, 6, [], 863)), (108, .ireturn, 1, (0, 0, 0, 0, [], 0))]
def bX5_column_8 : ms_B := [(109, .aload_n 0, 1, (0, 0, 0, 0, [], 0)), (110, .getfield 35, 3, (13, 5, 3, 0, [], 673)), (113, .iload_n 1, 1, (0, 1, 0, 0, [], 0)), (114, .iaload, 1, (0, 0, 0, 0, [], 0)), (115, .ifCond .ne 8, 3, (0, 9, 0, 0, [], 0)), (118, .bipush (-9), 2, (-9, 0, 0, 0, [], 0)), (120, .goto 11, 3, (0, 10, 0, 0, [], 0))]
def bX5_column_9 : ms_B := [(123, .aload_n 0, 1, (0, 0, 0, 0, [], 0)), (124, .getfield 35, 3, (13, 5, 3, 0, [], 673)), (127, .iload_n 1, 1, (0, 1, 0, 0, [], 0)), (128, .iaload, 1, (0, 0, 0, 0, [], 0)), (129, .iconst 1, 1, (1, 0, 0, 0, [], 0)), (130, .isub, 1, (0, 0, 0, 0, [], 0)), (131, .nop, 1, (0, 10, 0, 0, [], 0))]
def bX5_column_10 : ms_B := [(131, .ireturn, 1, (0, 0, 0, 0, [], 0))]
def bX5_column_11 : ms_B := [(132, .aload_n 0, 1, (0, 0, 0, 0, [], 0)), (133, .iload_n 1, 1, (0, 1, 0, 0, [], 0)), (134, .invokevirtual 186, 3, (0, 117, 2, 6, [], 867)), (137, .ireturn, 1, (0, 0, 0, 0, [], 0))]
def bX5_column_12 : ms_B := [(138, .aload_n 0, 1, (0, 0, 0, 0, [], 0)), (139, .iload_n 1, 1, (0, 1, 0, 0, [], 0)), (140, .invokevirtual 186, 3, (0, 117, 2, 6, [], 867)), (143, .pop, 1, (0, 0, 0, 0, [], 0)), (144, .aload_n 0, 1, (0, 0, 0, 0, [], 0)), (145, .getfield 173, 3, (30, 5, 0, 0, [], 690)), (148, .ireturn, 1, (0, 0, 0, 0, [], 0))]
def bX5_column_13 : ms_B := [(149, .aload_n 0, 1, (0, 0, 0, 0, [], 0)), (150, .iload_n 1, 1, (0, 1, 0, 0, [], 0)), (151, .aload_n 0, 1, (0, 0, 0, 0, [], 0)), (152, .getfield 13, 3, (4, 5, 3, 0, [], 664)), (155, .iload_n 2, 1, (0, 2, 0, 0, [], 0)), (156, .bipush 6, 2, (6, 0, 0, 0, [], 0)), (158, .isub, 1, (0, 0, 0, 0, [], 0)), (159, .iaload, 1, (0, 0, 0, 0, [], 0)), (160, .invokevirtual 170, 3, (0, 114, 3, 6, [], 843)), (163, .ireturn, 1, (0, 0, 0, 0, [], 0))]
def MX5_column : ms_M := (yX5_column, cX5_column, 3, (some .int), (0, 0), (0, 3), [834, 832, 833, 83], [bX5_column_0, bX5_column_1, bX5_column_2, bX5_column_3, bX5_column_4, bX5_column_5, bX5_column_6, bX5_column_7, bX5_column_8, bX5_column_9, bX5_column_10, bX5_column_11, bX5_column_12, bX5_column_13], [])
def bX5_falls_0 : ms_B := [(0, .aload_n 0, 1, (0, 0, 0, 0, [], 0)), (1, .iload_n 1, 1, (0, 1, 0, 0, [], 0)), (2, .iload_n 2, 1, (0, 2, 0, 0, [], 0)), (3, .invokevirtual 166, 3, (0, 113, 3, 6, [], 847)), (6, .istore_n 3, 1, (0, 3, 0, 0, [], 0)), (7, .iload_n 3, 1, (0, 3, 0, 0, [], 0)), (8, .ifCond .gt 7, 3, (0, 1, 0, 0, [], 0)), (11, .iconst 2, 1, (2, 0, 0, 0, [], 0)), (12, .goto 16, 3, (0, 3, 0, 0, [], 0))]
def bX5_falls_1 : ms_B := [(15, .iload_n 3, 1, (0, 3, 0, 0, [], 0)), (16, .aload_n 0, 1, (0, 0, 0, 0, [], 0)), (17, .getfield 7, 3, (3, 5, 0, 0, [], 663)), (20, .if_icmp .le 7, 3, (0, 2, 0, 0, [], 0)), (23, .iconst 0, 1, (0, 0, 0, 0, [], 0)), (24, .goto 4, 3, (0, 3, 0, 0, [], 0))]
def bX5_falls_2 : ms_B := [(27, .iconst 1, 1, (1, 0, 0, 0, [], 0)), (28, .nop, 1, (0, 3, 0, 0, [], 0))]
def bX5_falls_3 : ms_B := [(28, .ireturn, 1, (0, 0, 0, 0, [], 0))]
def MX5_falls : ms_M := (yX5_falls, cX5_falls, 4, (some .int), (0, 0), (0, 3), [882, 881, 59, 83], [bX5_falls_0, bX5_falls_1, bX5_falls_2, bX5_falls_3], [])
def bX5_field_0 : ms_B := [(0, .aload_n 0, 1, (0, 0, 0, 0, [], 0)), (1, .iload_n 1, 1, (0, 1, 0, 0, [], 0)), (2, .invokevirtual 176, 3, (0, 94, 2, 6, [], 835)), (5, .ifCond .eq 19, 3, (0, 1, 0, 0, [], 0)), (8, .iload_n 2, 1, (0, 2, 0, 0, [], 0)), (9, .invokestatic 189, 3, (0, 95, 1, 0, [], 875)), (12, .ifCond .eq 12, 3, (0, 1, 0, 0, [], 0)), (15, .iload_n 3, 1, (0, 3, 0, 0, [], 0)), (16, .iconst 0, 1, (0, 0, 0, 0, [], 0)), (17, .iconst 3, 1, (3, 0, 0, 0, [], 0)), (18, .invokestatic 74, 3, (0, 91, 3, 0, [], 776)), (21, .ifCond .ne 6, 3, (0, 2, 0, 0, [], 0)), (24, .nop, 1, (0, 1, 0, 0, [], 0))]
def bX5_field_1 : ms_B := [(24, .ldc 192, 2, (-1000000, 0, 0, 0, [], 878)), (26, .ireturn, 1, (0, 0, 0, 0, [], 0))]
def bX5_field_2 : ms_B := [(27, .iload_n 3, 1, (0, 3, 0, 0, [], 0)), (28, .ifCond .ne 12, 3, (0, 3, 0, 0, [], 0)), (31, .aload_n 0, 1, (0, 0, 0, 0, [], 0)), (32, .iload_n 1, 1, (0, 1, 0, 0, [], 0)), (33, .iload_n 2, 1, (0, 2, 0, 0, [], 0)), (34, .invokevirtual 166, 3, (0, 113, 3, 6, [], 847)), (37, .goto 39, 3, (0, 6, 0, 0, [], 0))]
def bX5_field_3 : ms_B := [(40, .iload_n 3, 1, (0, 3, 0, 0, [], 0)), (41, .iconst 1, 1, (1, 0, 0, 0, [], 0)), (42, .if_icmp .ne 12, 3, (0, 4, 0, 0, [], 0)), (45, .aload_n 0, 1, (0, 0, 0, 0, [], 0)), (46, .iload_n 1, 1, (0, 1, 0, 0, [], 0)), (47, .iload_n 2, 1, (0, 2, 0, 0, [], 0)), (48, .invokevirtual 193, 3, (0, 119, 3, 6, [], 879)), (51, .goto 25, 3, (0, 6, 0, 0, [], 0))]
def bX5_field_4 : ms_B := [(54, .aload_n 0, 1, (0, 0, 0, 0, [], 0)), (55, .iload_n 1, 1, (0, 1, 0, 0, [], 0)), (56, .iload_n 2, 1, (0, 2, 0, 0, [], 0)), (57, .invokevirtual 166, 3, (0, 113, 3, 6, [], 847)), (60, .aload_n 0, 1, (0, 0, 0, 0, [], 0)), (61, .getfield 13, 3, (4, 5, 3, 0, [], 664)), (64, .iload_n 3, 1, (0, 3, 0, 0, [], 0)), (65, .iconst 2, 1, (2, 0, 0, 0, [], 0)), (66, .isub, 1, (0, 0, 0, 0, [], 0)), (67, .iaload, 1, (0, 0, 0, 0, [], 0)), (68, .if_icmp .gt 7, 3, (0, 5, 0, 0, [], 0)), (71, .iconst 1, 1, (1, 0, 0, 0, [], 0)), (72, .goto 4, 3, (0, 6, 0, 0, [], 0))]
def bX5_field_5 : ms_B := [(75, .iconst 0, 1, (0, 0, 0, 0, [], 0)), (76, .nop, 1, (0, 6, 0, 0, [], 0))]
def bX5_field_6 : ms_B := [(76, .ireturn, 1, (0, 0, 0, 0, [], 0))]
def MX5_field : ms_M := (yX5_field, cX5_field, 4, (some .int), (0, 0), (0, 4), [874, 872, 873, 83], [bX5_field_0, bX5_field_1, bX5_field_2, bX5_field_3, bX5_field_4, bX5_field_5, bX5_field_6], [])
def bX5_voter_0 : ms_B := [(0, .iload_n 1, 1, (0, 1, 0, 0, [], 0)), (1, .iconst 0, 1, (0, 0, 0, 0, [], 0)), (2, .aload_n 0, 1, (0, 0, 0, 0, [], 0)), (3, .getfield 138, 3, (1, 5, 0, 0, [], 661)), (6, .iconst 1, 1, (1, 0, 0, 0, [], 0)), (7, .isub, 1, (0, 0, 0, 0, [], 0)), (8, .invokestatic 74, 3, (0, 91, 3, 0, [], 776)), (11, .ifCond .eq 12, 3, (0, 1, 0, 0, [], 0)), (14, .iload_n 2, 1, (0, 2, 0, 0, [], 0)), (15, .iconst 0, 1, (0, 0, 0, 0, [], 0)), (16, .iconst 1, 1, (1, 0, 0, 0, [], 0)), (17, .invokestatic 74, 3, (0, 91, 3, 0, [], 776)), (20, .ifCond .ne 5, 3, (0, 2, 0, 0, [], 0)), (23, .nop, 1, (0, 1, 0, 0, [], 0))]
def bX5_voter_1 : ms_B := [(23, .iconst (-1), 1, (-1, 0, 0, 0, [], 0)), (24, .ireturn, 1, (0, 0, 0, 0, [], 0))]
def bX5_voter_2 : ms_B := [(25, .iload_n 2, 1, (0, 2, 0, 0, [], 0)), (26, .ifCond .ne 12, 3, (0, 3, 0, 0, [], 0)), (29, .aload_n 0, 1, (0, 0, 0, 0, [], 0)), (30, .getfield 26, 3, (8, 5, 3, 0, [], 668)), (33, .iload_n 1, 1, (0, 1, 0, 0, [], 0)), (34, .iaload, 1, (0, 0, 0, 0, [], 0)), (35, .goto 9, 3, (0, 4, 0, 0, [], 0))]
def bX5_voter_3 : ms_B := [(38, .aload_n 0, 1, (0, 0, 0, 0, [], 0)), (39, .getfield 29, 3, (9, 5, 3, 0, [], 669)), (42, .iload_n 1, 1, (0, 1, 0, 0, [], 0)), (43, .iaload, 1, (0, 0, 0, 0, [], 0)), (44, .nop, 1, (0, 4, 0, 0, [], 0))]
def bX5_voter_4 : ms_B := [(44, .ireturn, 1, (0, 0, 0, 0, [], 0))]
def MX5_voter : ms_M := (yX5_voter, cX5_voter, 3, (some .int), (0, 0), (0, 3), [886, 884, 885, 83], [bX5_voter_0, bX5_voter_1, bX5_voter_2, bX5_voter_3, bX5_voter_4], [])
def bX5_fallMany_0 : ms_B := [(0, .iconst 0, 1, (0, 0, 0, 0, [], 0)), (1, .istore_n 2, 1, (0, 2, 0, 0, [], 0)), (2, .iconst 0, 1, (0, 0, 0, 0, [], 0)), (3, .istore_n 3, 1, (0, 3, 0, 0, [], 0)), (4, .nop, 1, (0, 100, 0, 0, [], 0))]
def bX5_fallMany_1 : ms_B := [(38, .iconst 0, 1, (0, 0, 0, 0, [], 0)), (39, .nop, 1, (0, 2, 0, 0, [], 0))]
def bX5_fallMany_2 : ms_B := [(39, .iadd, 1, (0, 0, 0, 0, [], 0)), (40, .istore_n 2, 1, (0, 2, 0, 0, [], 0)), (41, .iinc 4 1, 3, (1, 4, 0, 0, [], 0)), (44, .goto (-29), 3, (0, 101, 0, 0, [], 0))]
def bX5_fallMany_3 : ms_B := [(47, .iinc 3 1, 3, (1, 3, 0, 0, [], 0)), (50, .goto (-46), 3, (0, 100, 0, 0, [], 0))]
def bX5_fallMany_4 : ms_B := [(53, .iload_n 2, 1, (0, 2, 0, 0, [], 0)), (54, .ireturn, 1, (0, 0, 0, 0, [], 0))]
def bX5_fallMany_100 : ms_B := [(4, .iload_n 3, 1, (0, 3, 0, 0, [], 0)), (5, .aload_n 0, 1, (0, 0, 0, 0, [], 0)), (6, .getfield 71, 3, (0, 5, 0, 0, [], 660)), (9, .if_icmp .ge 44, 3, (0, 4, 0, 0, [], 0)), (12, .iconst 0, 1, (0, 0, 0, 0, [], 0)), (13, .istore 4, 2, (0, 4, 0, 0, [], 0)), (15, .nop, 1, (0, 101, 0, 0, [], 0))]
def bX5_fallMany_101 : ms_B := [(15, .iload 4, 2, (0, 4, 0, 0, [], 0)), (17, .bipush 8, 2, (8, 0, 0, 0, [], 0)), (19, .if_icmp .ge 28, 3, (0, 3, 0, 0, [], 0)), (22, .iload_n 2, 1, (0, 2, 0, 0, [], 0)), (23, .aload_n 0, 1, (0, 0, 0, 0, [], 0)), (24, .iload_n 3, 1, (0, 3, 0, 0, [], 0)), (25, .iload 4, 2, (0, 4, 0, 0, [], 0)), (27, .invokevirtual 193, 3, (0, 119, 3, 6, [], 879)), (30, .iload_n 1, 1, (0, 1, 0, 0, [], 0)), (31, .if_icmp .ne 7, 3, (0, 1, 0, 0, [], 0)), (34, .iconst 1, 1, (1, 0, 0, 0, [], 0)), (35, .goto 4, 3, (0, 2, 0, 0, [], 0))]
def MX5_fallMany : ms_M := (yX5_fallMany, cX5_fallMany, 5, (some .int), (0, 0), (0, 2), [906, 905, 62, 83], [bX5_fallMany_0, bX5_fallMany_1, bX5_fallMany_2, bX5_fallMany_3, bX5_fallMany_4], [bX5_fallMany_100, bX5_fallMany_101])
def bX5_writes_0 : ms_B := [(0, .aload_n 1, 1, (0, 1, 0, 0, [], 0)), (1, .iload_n 2, 1, (0, 2, 0, 0, [], 0)), (2, .aload_n 0, 1, (0, 0, 0, 0, [], 0)), (3, .getfield 144, 3, (11, 5, 0, 0, [], 671)), (6, .iastore, 1, (0, 0, 0, 0, [], 0)), (7, .aload_n 1, 1, (0, 1, 0, 0, [], 0)), (8, .iload_n 2, 1, (0, 2, 0, 0, [], 0)), (9, .iconst 1, 1, (1, 0, 0, 0, [], 0)), (10, .iadd, 1, (0, 0, 0, 0, [], 0)), (11, .aload_n 0, 1, (0, 0, 0, 0, [], 0)), (12, .getfield 146, 3, (12, 5, 0, 0, [], 672)), (15, .iastore, 1, (0, 0, 0, 0, [], 0)), (16, .iconst 0, 1, (0, 0, 0, 0, [], 0)), (17, .istore_n 3, 1, (0, 3, 0, 0, [], 0)), (18, .nop, 1, (0, 100, 0, 0, [], 0))]
def bX5_writes_1 : ms_B := [(43, .return_, 1, (0, 0, 0, 0, [], 0))]
def bX5_writes_100 : ms_B := [(18, .iload_n 3, 1, (0, 3, 0, 0, [], 0)), (19, .bipush 8, 2, (8, 0, 0, 0, [], 0)), (21, .if_icmp .ge 22, 3, (0, 1, 0, 0, [], 0)), (24, .aload_n 1, 1, (0, 1, 0, 0, [], 0)), (25, .iload_n 2, 1, (0, 2, 0, 0, [], 0)), (26, .iconst 2, 1, (2, 0, 0, 0, [], 0)), (27, .iadd, 1, (0, 0, 0, 0, [], 0)), (28, .iload_n 3, 1, (0, 3, 0, 0, [], 0)), (29, .iadd, 1, (0, 0, 0, 0, [], 0)), (30, .aload_n 0, 1, (0, 0, 0, 0, [], 0)), (31, .getfield 35, 3, (13, 5, 3, 0, [], 673)), (34, .iload_n 3, 1, (0, 3, 0, 0, [], 0)), (35, .iaload, 1, (0, 0, 0, 0, [], 0)), (36, .iastore, 1, (0, 0, 0, 0, [], 0)), (37, .iinc 3 1, 3, (1, 3, 0, 0, [], 0)), (40, .goto (-22), 3, (0, 100, 0, 0, [], 0))]
def MX5_writes : ms_M := (yX5_writes, cX5_writes, 4, none, (0, 0), (0, 3), [898, 897, 61, 83], [bX5_writes_0, bX5_writes_1], [bX5_writes_100])
def bX5_readsBack_0 : ms_B := [(0, .aload_n 0, 1, (0, 0, 0, 0, [], 0)), (1, .aload_n 1, 1, (0, 1, 0, 0, [], 0)), (2, .iload_n 2, 1, (0, 2, 0, 0, [], 0)), (3, .iaload, 1, (0, 0, 0, 0, [], 0)), (4, .putfield 144, 3, (11, 5, 0, 0, [], 671)), (7, .aload_n 0, 1, (0, 0, 0, 0, [], 0)), (8, .aload_n 1, 1, (0, 1, 0, 0, [], 0)), (9, .iload_n 2, 1, (0, 2, 0, 0, [], 0)), (10, .iconst 1, 1, (1, 0, 0, 0, [], 0)), (11, .iadd, 1, (0, 0, 0, 0, [], 0)), (12, .iaload, 1, (0, 0, 0, 0, [], 0)), (13, .putfield 146, 3, (12, 5, 0, 0, [], 672)), (16, .iconst 0, 1, (0, 0, 0, 0, [], 0)), (17, .istore_n 3, 1, (0, 3, 0, 0, [], 0)), (18, .nop, 1, (0, 100, 0, 0, [], 0))]
def bX5_readsBack_1 : ms_B := [(43, .return_, 1, (0, 0, 0, 0, [], 0))]
def bX5_readsBack_100 : ms_B := [(18, .iload_n 3, 1, (0, 3, 0, 0, [], 0)), (19, .bipush 8, 2, (8, 0, 0, 0, [], 0)), (21, .if_icmp .ge 22, 3, (0, 1, 0, 0, [], 0)), (24, .aload_n 0, 1, (0, 0, 0, 0, [], 0)), (25, .getfield 35, 3, (13, 5, 3, 0, [], 673)), (28, .iload_n 3, 1, (0, 3, 0, 0, [], 0)), (29, .aload_n 1, 1, (0, 1, 0, 0, [], 0)), (30, .iload_n 2, 1, (0, 2, 0, 0, [], 0)), (31, .iconst 2, 1, (2, 0, 0, 0, [], 0)), (32, .iadd, 1, (0, 0, 0, 0, [], 0)), (33, .iload_n 3, 1, (0, 3, 0, 0, [], 0)), (34, .iadd, 1, (0, 0, 0, 0, [], 0)), (35, .iaload, 1, (0, 0, 0, 0, [], 0)), (36, .iastore, 1, (0, 0, 0, 0, [], 0)), (37, .iinc 3 1, 3, (1, 3, 0, 0, [], 0)), (40, .goto (-22), 3, (0, 100, 0, 0, [], 0))]
def MX5_readsBack : ms_M := (yX5_readsBack, cX5_readsBack, 4, none, (0, 0), (0, 3), [922, 921, 63, 83], [bX5_readsBack_0, bX5_readsBack_1], [bX5_readsBack_100])
def bX5_notes_0 : ms_B := [(0, .aload_n 0, 1, (0, 0, 0, 0, [], 0)), (1, .getfield 152, 3, (32, 5, 0, 0, [], 692)), (4, .bipush 10, 2, (10, 0, 0, 0, [], 0)), (6, .if_icmp .ne 42, 3, (0, 2, 0, 0, [], 0)), (9, .iconst 0, 1, (0, 0, 0, 0, [], 0)), (10, .istore_n 1, 1, (0, 1, 0, 0, [], 0)), (11, .nop, 1, (0, 100, 0, 0, [], 0))]
def bX5_notes_1 : ms_B := [(38, .aload_n 0, 1, (0, 0, 0, 0, [], 0)), (39, .dup, 1, (0, 0, 0, 0, [], 0)), (40, .getfield 152, 3, (32, 5, 0, 0, [], 692)), (43, .iconst 1, 1, (1, 0, 0, 0, [], 0)), (44, .isub, 1, (0, 0, 0, 0, [], 0)), (45, .putfield 152, 3, (32, 5, 0, 0, [], 692)), (48, .nop, 1, (0, 2, 0, 0, [], 0))]
def bX5_notes_2 : ms_B := [(48, .aload_n 0, 1, (0, 0, 0, 0, [], 0)), (49, .aload_n 0, 1, (0, 0, 0, 0, [], 0)), (50, .getfield 56, 3, (31, 5, 3, 0, [], 691)), (53, .bipush 10, 2, (10, 0, 0, 0, [], 0)), (55, .aload_n 0, 1, (0, 0, 0, 0, [], 0)), (56, .getfield 152, 3, (32, 5, 0, 0, [], 692)), (59, .imul, 1, (0, 0, 0, 0, [], 0)), (60, .invokevirtual 196, 3, (0, 123, 3, 6, [], 895)), (63, .aload_n 0, 1, (0, 0, 0, 0, [], 0)), (64, .dup, 1, (0, 0, 0, 0, [], 0)), (65, .getfield 152, 3, (32, 5, 0, 0, [], 692)), (68, .iconst 1, 1, (1, 0, 0, 0, [], 0)), (69, .iadd, 1, (0, 0, 0, 0, [], 0)), (70, .putfield 152, 3, (32, 5, 0, 0, [], 692)), (73, .return_, 1, (0, 0, 0, 0, [], 0))]
def bX5_notes_100 : ms_B := [(11, .iload_n 1, 1, (0, 1, 0, 0, [], 0)), (12, .bipush 90, 2, (90, 0, 0, 0, [], 0)), (14, .if_icmp .ge 24, 3, (0, 1, 0, 0, [], 0)), (17, .aload_n 0, 1, (0, 0, 0, 0, [], 0)), (18, .getfield 56, 3, (31, 5, 3, 0, [], 691)), (21, .iload_n 1, 1, (0, 1, 0, 0, [], 0)), (22, .aload_n 0, 1, (0, 0, 0, 0, [], 0)), (23, .getfield 56, 3, (31, 5, 3, 0, [], 691)), (26, .iload_n 1, 1, (0, 1, 0, 0, [], 0)), (27, .bipush 10, 2, (10, 0, 0, 0, [], 0)), (29, .iadd, 1, (0, 0, 0, 0, [], 0)), (30, .iaload, 1, (0, 0, 0, 0, [], 0)), (31, .iastore, 1, (0, 0, 0, 0, [], 0)), (32, .iinc 1 1, 3, (1, 1, 0, 0, [], 0)), (35, .goto (-24), 3, (0, 100, 0, 0, [], 0))]
def MX5_notes : ms_M := (yX5_notes, cX5_notes, 2, none, (0, 0), (0, 1), [894, 893, 60, 83], [bX5_notes_0, bX5_notes_1, bX5_notes_2], [bX5_notes_100])
def bX5_days_0 : ms_B := [(0, .iload_n 1, 1, (0, 1, 0, 0, [], 0)), (1, .iconst 1, 1, (1, 0, 0, 0, [], 0)), (2, .bipush 9, 2, (9, 0, 0, 0, [], 0)), (4, .invokestatic 74, 3, (0, 91, 3, 0, [], 776)), (7, .ifCond .ne 5, 3, (0, 1, 0, 0, [], 0)), (10, .iconst (-1), 1, (-1, 0, 0, 0, [], 0)), (11, .ireturn, 1, (0, 0, 0, 0, [], 0))]
def bX5_days_1 : ms_B := [(12, .aload_n 0, 1, (0, 0, 0, 0, [], 0)), (13, .getfield 144, 3, (11, 5, 0, 0, [], 671)), (16, .iload_n 1, 1, (0, 1, 0, 0, [], 0)), (17, .iadd, 1, (0, 0, 0, 0, [], 0)), (18, .sipush 9999, 3, (9999, 0, 0, 0, [], 0)), (21, .if_icmp .le 6, 3, (0, 2, 0, 0, [], 0)), (24, .bipush (-2), 2, (-2, 0, 0, 0, [], 0)), (26, .ireturn, 1, (0, 0, 0, 0, [], 0))]
def bX5_days_2 : ms_B := [(27, .aload_n 0, 1, (0, 0, 0, 0, [], 0)), (28, .invokevirtual 200, 3, (0, 125, 1, 6, [], 891)), (31, .aload_n 0, 1, (0, 0, 0, 0, [], 0)), (32, .dup, 1, (0, 0, 0, 0, [], 0)), (33, .getfield 144, 3, (11, 5, 0, 0, [], 671)), (36, .iload_n 1, 1, (0, 1, 0, 0, [], 0)), (37, .iadd, 1, (0, 0, 0, 0, [], 0)), (38, .putfield 144, 3, (11, 5, 0, 0, [], 671)), (41, .aload_n 0, 1, (0, 0, 0, 0, [], 0)), (42, .aload_n 0, 1, (0, 0, 0, 0, [], 0)), (43, .getfield 144, 3, (11, 5, 0, 0, [], 671)), (46, .invokevirtual 155, 3, (0, 110, 2, 6, [], 855)), (49, .ireturn, 1, (0, 0, 0, 0, [], 0))]
def MX5_days : ms_M := (yX5_days, cX5_days, 2, (some .int), (0, 0), (0, 2), [890, 888, 889, 83], [bX5_days_0, bX5_days_1, bX5_days_2], [])
def bX5_warms_0 : ms_B := [(0, .iload_n 1, 1, (0, 1, 0, 0, [], 0)), (1, .bipush (-3), 2, (-3, 0, 0, 0, [], 0)), (3, .iconst 3, 1, (3, 0, 0, 0, [], 0)), (4, .invokestatic 74, 3, (0, 91, 3, 0, [], 776)), (7, .ifCond .eq 7, 3, (0, 1, 0, 0, [], 0)), (10, .iload_n 1, 1, (0, 1, 0, 0, [], 0)), (11, .ifCond .ne 5, 3, (0, 2, 0, 0, [], 0)), (14, .nop, 1, (0, 1, 0, 0, [], 0))]
def bX5_warms_1 : ms_B := [(14, .iconst (-1), 1, (-1, 0, 0, 0, [], 0)), (15, .ireturn, 1, (0, 0, 0, 0, [], 0))]
def bX5_warms_2 : ms_B := [(16, .aload_n 0, 1, (0, 0, 0, 0, [], 0)), (17, .getfield 146, 3, (12, 5, 0, 0, [], 672)), (20, .iload_n 1, 1, (0, 1, 0, 0, [], 0)), (21, .iadd, 1, (0, 0, 0, 0, [], 0)), (22, .bipush (-9), 2, (-9, 0, 0, 0, [], 0)), (24, .bipush 9, 2, (9, 0, 0, 0, [], 0)), (26, .invokestatic 74, 3, (0, 91, 3, 0, [], 776)), (29, .ifCond .ne 6, 3, (0, 3, 0, 0, [], 0)), (32, .bipush (-2), 2, (-2, 0, 0, 0, [], 0)), (34, .ireturn, 1, (0, 0, 0, 0, [], 0))]
def bX5_warms_3 : ms_B := [(35, .aload_n 0, 1, (0, 0, 0, 0, [], 0)), (36, .invokevirtual 200, 3, (0, 125, 1, 6, [], 891)), (39, .aload_n 0, 1, (0, 0, 0, 0, [], 0)), (40, .dup, 1, (0, 0, 0, 0, [], 0)), (41, .getfield 146, 3, (12, 5, 0, 0, [], 672)), (44, .iload_n 1, 1, (0, 1, 0, 0, [], 0)), (45, .iadd, 1, (0, 0, 0, 0, [], 0)), (46, .putfield 146, 3, (12, 5, 0, 0, [], 672)), (49, .aload_n 0, 1, (0, 0, 0, 0, [], 0)), (50, .iconst 2, 1, (2, 0, 0, 0, [], 0)), (51, .invokevirtual 203, 3, (0, 122, 2, 6, [], 903)), (54, .ireturn, 1, (0, 0, 0, 0, [], 0))]
def MX5_warms : ms_M := (yX5_warms, cX5_warms, 2, (some .int), (0, 0), (0, 2), [902, 900, 901, 83], [bX5_warms_0, bX5_warms_1, bX5_warms_2, bX5_warms_3], [])
def bX5_stakes_0 : ms_B := [(0, .aload_n 0, 1, (0, 0, 0, 0, [], 0)), (1, .iload_n 1, 1, (0, 1, 0, 0, [], 0)), (2, .invokevirtual 176, 3, (0, 94, 2, 6, [], 835)), (5, .ifCond .ne 5, 3, (0, 1, 0, 0, [], 0)), (8, .iconst (-1), 1, (-1, 0, 0, 0, [], 0)), (9, .ireturn, 1, (0, 0, 0, 0, [], 0))]
def bX5_stakes_1 : ms_B := [(10, .aload_n 0, 1, (0, 0, 0, 0, [], 0)), (11, .iload_n 1, 1, (0, 1, 0, 0, [], 0)), (12, .invokevirtual 186, 3, (0, 117, 2, 6, [], 867)), (15, .istore_n 2, 1, (0, 2, 0, 0, [], 0)), (16, .aload_n 0, 1, (0, 0, 0, 0, [], 0)), (17, .getfield 35, 3, (13, 5, 3, 0, [], 673)), (20, .iload_n 1, 1, (0, 1, 0, 0, [], 0)), (21, .iaload, 1, (0, 0, 0, 0, [], 0)), (22, .iload_n 2, 1, (0, 2, 0, 0, [], 0)), (23, .iconst 1, 1, (1, 0, 0, 0, [], 0)), (24, .iadd, 1, (0, 0, 0, 0, [], 0)), (25, .if_icmp .ne 6, 3, (0, 2, 0, 0, [], 0)), (28, .bipush (-2), 2, (-2, 0, 0, 0, [], 0)), (30, .ireturn, 1, (0, 0, 0, 0, [], 0))]
def bX5_stakes_2 : ms_B := [(31, .aload_n 0, 1, (0, 0, 0, 0, [], 0)), (32, .invokevirtual 200, 3, (0, 125, 1, 6, [], 891)), (35, .aload_n 0, 1, (0, 0, 0, 0, [], 0)), (36, .getfield 35, 3, (13, 5, 3, 0, [], 673)), (39, .iload_n 1, 1, (0, 1, 0, 0, [], 0)), (40, .iload_n 2, 1, (0, 2, 0, 0, [], 0)), (41, .iconst 1, 1, (1, 0, 0, 0, [], 0)), (42, .iadd, 1, (0, 0, 0, 0, [], 0)), (43, .iastore, 1, (0, 0, 0, 0, [], 0)), (44, .iload_n 2, 1, (0, 2, 0, 0, [], 0)), (45, .ireturn, 1, (0, 0, 0, 0, [], 0))]
def MX5_stakes : ms_M := (yX5_stakes, cX5_stakes, 3, (some .int), (0, 0), (0, 2), [910, 908, 909, 83], [bX5_stakes_0, bX5_stakes_1, bX5_stakes_2], [])
def bX5_pulls_0 : ms_B := [(0, .aload_n 0, 1, (0, 0, 0, 0, [], 0)), (1, .iload_n 1, 1, (0, 1, 0, 0, [], 0)), (2, .invokevirtual 176, 3, (0, 94, 2, 6, [], 835)), (5, .ifCond .ne 5, 3, (0, 1, 0, 0, [], 0)), (8, .iconst (-1), 1, (-1, 0, 0, 0, [], 0)), (9, .ireturn, 1, (0, 0, 0, 0, [], 0))]
def bX5_pulls_1 : ms_B := [(10, .aload_n 0, 1, (0, 0, 0, 0, [], 0)), (11, .getfield 35, 3, (13, 5, 3, 0, [], 673)), (14, .iload_n 1, 1, (0, 1, 0, 0, [], 0)), (15, .iaload, 1, (0, 0, 0, 0, [], 0)), (16, .iconst 1, 1, (1, 0, 0, 0, [], 0)), (17, .isub, 1, (0, 0, 0, 0, [], 0)), (18, .istore_n 2, 1, (0, 2, 0, 0, [], 0)), (19, .iload_n 2, 1, (0, 2, 0, 0, [], 0)), (20, .ifCond .ge 6, 3, (0, 2, 0, 0, [], 0)), (23, .bipush (-2), 2, (-2, 0, 0, 0, [], 0)), (25, .ireturn, 1, (0, 0, 0, 0, [], 0))]
def bX5_pulls_2 : ms_B := [(26, .aload_n 0, 1, (0, 0, 0, 0, [], 0)), (27, .invokevirtual 200, 3, (0, 125, 1, 6, [], 891)), (30, .aload_n 0, 1, (0, 0, 0, 0, [], 0)), (31, .getfield 35, 3, (13, 5, 3, 0, [], 673)), (34, .iload_n 1, 1, (0, 1, 0, 0, [], 0)), (35, .iconst 0, 1, (0, 0, 0, 0, [], 0)), (36, .iastore, 1, (0, 0, 0, 0, [], 0)), (37, .iload_n 2, 1, (0, 2, 0, 0, [], 0)), (38, .ireturn, 1, (0, 0, 0, 0, [], 0))]
def MX5_pulls : ms_M := (yX5_pulls, cX5_pulls, 3, (some .int), (0, 0), (0, 2), [914, 912, 913, 83], [bX5_pulls_0, bX5_pulls_1, bX5_pulls_2], [])
def bX5_undo_0 : ms_B := [(0, .aload_n 0, 1, (0, 0, 0, 0, [], 0)), (1, .getfield 152, 3, (32, 5, 0, 0, [], 692)), (4, .ifCond .ne 6, 3, (0, 1, 0, 0, [], 0)), (7, .bipush (-2), 2, (-2, 0, 0, 0, [], 0)), (9, .ireturn, 1, (0, 0, 0, 0, [], 0))]
def bX5_undo_1 : ms_B := [(10, .aload_n 0, 1, (0, 0, 0, 0, [], 0)), (11, .dup, 1, (0, 0, 0, 0, [], 0)), (12, .getfield 152, 3, (32, 5, 0, 0, [], 692)), (15, .iconst 1, 1, (1, 0, 0, 0, [], 0)), (16, .isub, 1, (0, 0, 0, 0, [], 0)), (17, .putfield 152, 3, (32, 5, 0, 0, [], 692)), (20, .aload_n 0, 1, (0, 0, 0, 0, [], 0)), (21, .aload_n 0, 1, (0, 0, 0, 0, [], 0)), (22, .getfield 56, 3, (31, 5, 3, 0, [], 691)), (25, .bipush 10, 2, (10, 0, 0, 0, [], 0)), (27, .aload_n 0, 1, (0, 0, 0, 0, [], 0)), (28, .getfield 152, 3, (32, 5, 0, 0, [], 692)), (31, .imul, 1, (0, 0, 0, 0, [], 0)), (32, .invokevirtual 206, 3, (0, 124, 3, 6, [], 919)), (35, .aload_n 0, 1, (0, 0, 0, 0, [], 0)), (36, .getfield 152, 3, (32, 5, 0, 0, [], 692)), (39, .ireturn, 1, (0, 0, 0, 0, [], 0))]
def MX5_undo : ms_M := (yX5_undo, cX5_undo, 1, (some .int), (0, 0), (0, 1), [918, 916, 917, 83], [bX5_undo_0, bX5_undo_1], [])
def bX5_widest_0 : ms_B := [(0, .iconst 0, 1, (0, 0, 0, 0, [], 0)), (1, .istore_n 1, 1, (0, 1, 0, 0, [], 0)), (2, .iconst 0, 1, (0, 0, 0, 0, [], 0)), (3, .istore_n 2, 1, (0, 2, 0, 0, [], 0)), (4, .nop, 1, (0, 100, 0, 0, [], 0))]
def bX5_widest_1 : ms_B := [(33, .iload_n 1, 1, (0, 1, 0, 0, [], 0)), (34, .nop, 1, (0, 2, 0, 0, [], 0))]
def bX5_widest_2 : ms_B := [(34, .istore_n 1, 1, (0, 1, 0, 0, [], 0)), (35, .iinc 2 1, 3, (1, 2, 0, 0, [], 0)), (38, .goto (-34), 3, (0, 100, 0, 0, [], 0))]
def bX5_widest_3 : ms_B := [(41, .iload_n 1, 1, (0, 1, 0, 0, [], 0)), (42, .ireturn, 1, (0, 0, 0, 0, [], 0))]
def bX5_widest_100 : ms_B := [(4, .iload_n 2, 1, (0, 2, 0, 0, [], 0)), (5, .aload_n 0, 1, (0, 0, 0, 0, [], 0)), (6, .getfield 71, 3, (0, 5, 0, 0, [], 660)), (9, .if_icmp .ge 32, 3, (0, 3, 0, 0, [], 0)), (12, .aload_n 0, 1, (0, 0, 0, 0, [], 0)), (13, .iload_n 2, 1, (0, 2, 0, 0, [], 0)), (14, .invokevirtual 180, 3, (0, 115, 2, 6, [], 839)), (17, .aload_n 0, 1, (0, 0, 0, 0, [], 0)), (18, .iload_n 2, 1, (0, 2, 0, 0, [], 0)), (19, .invokevirtual 183, 3, (0, 116, 2, 6, [], 863)), (22, .isub, 1, (0, 0, 0, 0, [], 0)), (23, .istore_n 3, 1, (0, 3, 0, 0, [], 0)), (24, .iload_n 3, 1, (0, 3, 0, 0, [], 0)), (25, .iload_n 1, 1, (0, 1, 0, 0, [], 0)), (26, .if_icmp .le 7, 3, (0, 1, 0, 0, [], 0)), (29, .iload_n 3, 1, (0, 3, 0, 0, [], 0)), (30, .goto 4, 3, (0, 2, 0, 0, [], 0))]
def MX5_widest : ms_M := (yX5_widest, cX5_widest, 4, (some .int), (0, 0), (0, 1), [930, 929, 64, 83], [bX5_widest_0, bX5_widest_1, bX5_widest_2, bX5_widest_3], [bX5_widest_100])
def bX5_stakeMany_0 : ms_B := [(0, .iconst 0, 1, (0, 0, 0, 0, [], 0)), (1, .istore_n 1, 1, (0, 1, 0, 0, [], 0)), (2, .iconst 0, 1, (0, 0, 0, 0, [], 0)), (3, .istore_n 2, 1, (0, 2, 0, 0, [], 0)), (4, .nop, 1, (0, 100, 0, 0, [], 0))]
def bX5_stakeMany_1 : ms_B := [(26, .iconst 0, 1, (0, 0, 0, 0, [], 0)), (27, .nop, 1, (0, 2, 0, 0, [], 0))]
def bX5_stakeMany_2 : ms_B := [(27, .iadd, 1, (0, 0, 0, 0, [], 0)), (28, .istore_n 1, 1, (0, 1, 0, 0, [], 0)), (29, .iinc 2 1, 3, (1, 2, 0, 0, [], 0)), (32, .goto (-28), 3, (0, 100, 0, 0, [], 0))]
def bX5_stakeMany_3 : ms_B := [(35, .iload_n 1, 1, (0, 1, 0, 0, [], 0)), (36, .ireturn, 1, (0, 0, 0, 0, [], 0))]
def bX5_stakeMany_100 : ms_B := [(4, .iload_n 2, 1, (0, 2, 0, 0, [], 0)), (5, .aload_n 0, 1, (0, 0, 0, 0, [], 0)), (6, .getfield 71, 3, (0, 5, 0, 0, [], 660)), (9, .if_icmp .ge 26, 3, (0, 3, 0, 0, [], 0)), (12, .iload_n 1, 1, (0, 1, 0, 0, [], 0)), (13, .aload_n 0, 1, (0, 0, 0, 0, [], 0)), (14, .getfield 35, 3, (13, 5, 3, 0, [], 673)), (17, .iload_n 2, 1, (0, 2, 0, 0, [], 0)), (18, .iaload, 1, (0, 0, 0, 0, [], 0)), (19, .ifCond .le 7, 3, (0, 1, 0, 0, [], 0)), (22, .iconst 1, 1, (1, 0, 0, 0, [], 0)), (23, .goto 4, 3, (0, 2, 0, 0, [], 0))]
def MX5_stakeMany : ms_M := (yX5_stakeMany, cX5_stakeMany, 3, (some .int), (0, 0), (0, 1), [934, 933, 65, 83], [bX5_stakeMany_0, bX5_stakeMany_1, bX5_stakeMany_2, bX5_stakeMany_3], [bX5_stakeMany_100])
def bX5_vote_0 : ms_B := [(0, .iconst 0, 1, (0, 0, 0, 0, [], 0)), (1, .istore_n 1, 1, (0, 1, 0, 0, [], 0)), (2, .iconst 0, 1, (0, 0, 0, 0, [], 0)), (3, .istore_n 2, 1, (0, 2, 0, 0, [], 0)), (4, .nop, 1, (0, 100, 0, 0, [], 0))]
def bX5_vote_1 : ms_B := [(32, .aload_n 0, 1, (0, 0, 0, 0, [], 0)), (33, .getfield 26, 3, (8, 5, 3, 0, [], 668)), (36, .iload_n 2, 1, (0, 2, 0, 0, [], 0)), (37, .iaload, 1, (0, 0, 0, 0, [], 0)), (38, .ineg, 1, (0, 0, 0, 0, [], 0)), (39, .nop, 1, (0, 2, 0, 0, [], 0))]
def bX5_vote_2 : ms_B := [(39, .iadd, 1, (0, 0, 0, 0, [], 0)), (40, .istore_n 1, 1, (0, 1, 0, 0, [], 0)), (41, .iinc 2 1, 3, (1, 2, 0, 0, [], 0)), (44, .goto (-40), 3, (0, 100, 0, 0, [], 0))]
def bX5_vote_3 : ms_B := [(47, .iload_n 1, 1, (0, 1, 0, 0, [], 0)), (48, .ireturn, 1, (0, 0, 0, 0, [], 0))]
def bX5_vote_100 : ms_B := [(4, .iload_n 2, 1, (0, 2, 0, 0, [], 0)), (5, .aload_n 0, 1, (0, 0, 0, 0, [], 0)), (6, .getfield 138, 3, (1, 5, 0, 0, [], 661)), (9, .if_icmp .ge 38, 3, (0, 3, 0, 0, [], 0)), (12, .iload_n 1, 1, (0, 1, 0, 0, [], 0)), (13, .aload_n 0, 1, (0, 0, 0, 0, [], 0)), (14, .getfield 29, 3, (9, 5, 3, 0, [], 669)), (17, .iload_n 2, 1, (0, 2, 0, 0, [], 0)), (18, .iaload, 1, (0, 0, 0, 0, [], 0)), (19, .iconst 1, 1, (1, 0, 0, 0, [], 0)), (20, .if_icmp .ne 12, 3, (0, 1, 0, 0, [], 0)), (23, .aload_n 0, 1, (0, 0, 0, 0, [], 0)), (24, .getfield 26, 3, (8, 5, 3, 0, [], 668)), (27, .iload_n 2, 1, (0, 2, 0, 0, [], 0)), (28, .iaload, 1, (0, 0, 0, 0, [], 0)), (29, .goto 10, 3, (0, 2, 0, 0, [], 0))]
def MX5_vote : ms_M := (yX5_vote, cX5_vote, 3, (some .int), (0, 0), (0, 1), [938, 937, 66, 83], [bX5_vote_0, bX5_vote_1, bX5_vote_2, bX5_vote_3], [bX5_vote_100])
def bX5_now_0 : ms_B := [(0, .iload_n 1, 1, (0, 1, 0, 0, [], 0)), (1, .iconst 0, 1, (0, 0, 0, 0, [], 0)), (2, .bipush 7, 2, (7, 0, 0, 0, [], 0)), (4, .invokestatic 74, 3, (0, 91, 3, 0, [], 776)), (7, .ifCond .ne 6, 3, (0, 1, 0, 0, [], 0)), (10, .ldc 192, 2, (-1000000, 0, 0, 0, [], 878)), (12, .ireturn, 1, (0, 0, 0, 0, [], 0))]
def bX5_now_1 : ms_B := [(13, .iload_n 1, 1, (0, 1, 0, 0, [], 0)), (14, .tableswitch 83 0 6 #[42, 47, 56, 61, 67, 73, 78], 42, (0, 9, 0, 0, [(0, 2), (1, 3), (2, 4), (3, 5), (4, 6), (5, 7), (6, 8)], 0))]
def bX5_now_2 : ms_B := [(56, .aload_n 0, 1, (0, 0, 0, 0, [], 0)), (57, .getfield 144, 3, (11, 5, 0, 0, [], 671)), (60, .ireturn, 1, (0, 0, 0, 0, [], 0))]
def bX5_now_3 : ms_B := [(61, .aload_n 0, 1, (0, 0, 0, 0, [], 0)), (62, .aload_n 0, 1, (0, 0, 0, 0, [], 0)), (63, .getfield 144, 3, (11, 5, 0, 0, [], 671)), (66, .invokevirtual 155, 3, (0, 110, 2, 6, [], 855)), (69, .ireturn, 1, (0, 0, 0, 0, [], 0))]
def bX5_now_4 : ms_B := [(70, .aload_n 0, 1, (0, 0, 0, 0, [], 0)), (71, .getfield 146, 3, (12, 5, 0, 0, [], 672)), (74, .ireturn, 1, (0, 0, 0, 0, [], 0))]
def bX5_now_5 : ms_B := [(75, .aload_n 0, 1, (0, 0, 0, 0, [], 0)), (76, .iconst 2, 1, (2, 0, 0, 0, [], 0)), (77, .invokevirtual 203, 3, (0, 122, 2, 6, [], 903)), (80, .ireturn, 1, (0, 0, 0, 0, [], 0))]
def bX5_now_6 : ms_B := [(81, .aload_n 0, 1, (0, 0, 0, 0, [], 0)), (82, .iconst 0, 1, (0, 0, 0, 0, [], 0)), (83, .invokevirtual 203, 3, (0, 122, 2, 6, [], 903)), (86, .ireturn, 1, (0, 0, 0, 0, [], 0))]
def bX5_now_7 : ms_B := [(87, .aload_n 0, 1, (0, 0, 0, 0, [], 0)), (88, .invokevirtual 209, 3, (0, 131, 1, 6, [], 927)), (91, .ireturn, 1, (0, 0, 0, 0, [], 0))]
def bX5_now_8 : ms_B := [(92, .aload_n 0, 1, (0, 0, 0, 0, [], 0)), (93, .invokevirtual 212, 3, (0, 132, 1, 6, [], 931)), (96, .ireturn, 1, (0, 0, 0, 0, [], 0))]
def bX5_now_9 : ms_B := [(97, .aload_n 0, 1, (0, 0, 0, 0, [], 0)), (98, .invokevirtual 215, 3, (0, 133, 1, 6, [], 935)), (101, .ireturn, 1, (0, 0, 0, 0, [], 0))]
def MX5_now : ms_M := (yX5_now, cX5_now, 2, (some .int), (0, 0), (0, 2), [926, 924, 925, 83], [bX5_now_0, bX5_now_1, bX5_now_2, bX5_now_3, bX5_now_4, bX5_now_5, bX5_now_6, bX5_now_7, bX5_now_8, bX5_now_9], [])
def bX5_first_0 : ms_B := [(0, .aload_n 0, 1, (0, 0, 0, 0, [], 0)), (1, .iload_n 1, 1, (0, 1, 0, 0, [], 0)), (2, .invokevirtual 176, 3, (0, 94, 2, 6, [], 835)), (5, .ifCond .eq 10, 3, (0, 1, 0, 0, [], 0)), (8, .iload_n 2, 1, (0, 2, 0, 0, [], 0)), (9, .invokestatic 189, 3, (0, 95, 1, 0, [], 875)), (12, .ifCond .ne 5, 3, (0, 2, 0, 0, [], 0)), (15, .nop, 1, (0, 1, 0, 0, [], 0))]
def bX5_first_1 : ms_B := [(15, .iconst (-1), 1, (-1, 0, 0, 0, [], 0)), (16, .ireturn, 1, (0, 0, 0, 0, [], 0))]
def bX5_first_2 : ms_B := [(17, .iconst 0, 1, (0, 0, 0, 0, [], 0)), (18, .istore_n 3, 1, (0, 3, 0, 0, [], 0)), (19, .nop, 1, (0, 100, 0, 0, [], 0))]
def bX5_first_3 : ms_B := [(51, .iinc 3 1, 3, (1, 3, 0, 0, [], 0)), (54, .goto (-35), 3, (0, 100, 0, 0, [], 0))]
def bX5_first_4 : ms_B := [(57, .bipush (-9), 2, (-9, 0, 0, 0, [], 0)), (59, .ireturn, 1, (0, 0, 0, 0, [], 0))]
def bX5_first_100 : ms_B := [(19, .iload_n 3, 1, (0, 3, 0, 0, [], 0)), (20, .bipush 99, 2, (99, 0, 0, 0, [], 0)), (22, .if_icmp .gt 35, 3, (0, 4, 0, 0, [], 0)), (25, .aload_n 0, 1, (0, 0, 0, 0, [], 0)), (26, .aload_n 0, 1, (0, 0, 0, 0, [], 0)), (27, .aload_n 0, 1, (0, 0, 0, 0, [], 0)), (28, .getfield 144, 3, (11, 5, 0, 0, [], 671)), (31, .iload_n 3, 1, (0, 3, 0, 0, [], 0)), (32, .iadd, 1, (0, 0, 0, 0, [], 0)), (33, .invokevirtual 155, 3, (0, 110, 2, 6, [], 855)), (36, .aload_n 0, 1, (0, 0, 0, 0, [], 0)), (37, .getfield 146, 3, (12, 5, 0, 0, [], 672)), (40, .iadd, 1, (0, 0, 0, 0, [], 0)), (41, .iload_n 1, 1, (0, 1, 0, 0, [], 0)), (42, .iload_n 2, 1, (0, 2, 0, 0, [], 0)), (43, .invokevirtual 162, 3, (0, 111, 4, 6, [], 859)), (46, .ifCond .gt 5, 3, (0, 3, 0, 0, [], 0)), (49, .iload_n 3, 1, (0, 3, 0, 0, [], 0)), (50, .ireturn, 1, (0, 0, 0, 0, [], 0))]
def MX5_first : ms_M := (yX5_first, cX5_first, 4, (some .int), (0, 0), (0, 3), [942, 940, 941, 83], [bX5_first_0, bX5_first_1, bX5_first_2, bX5_first_3, bX5_first_4], [bX5_first_100])
def bX5_firstLine_0 : ms_B := [(0, .iconst 0, 1, (0, 0, 0, 0, [], 0)), (1, .istore_n 1, 1, (0, 1, 0, 0, [], 0)), (2, .nop, 1, (0, 100, 0, 0, [], 0))]
def bX5_firstLine_1 : ms_B := [(21, .return_, 1, (0, 0, 0, 0, [], 0))]
def bX5_firstLine_100 : ms_B := [(2, .iload_n 1, 1, (0, 1, 0, 0, [], 0)), (3, .bipush 8, 2, (8, 0, 0, 0, [], 0)), (5, .if_icmp .ge 16, 3, (0, 1, 0, 0, [], 0)), (8, .aload_n 0, 1, (0, 0, 0, 0, [], 0)), (9, .getfield 59, 3, (33, 5, 3, 0, [], 693)), (12, .iload_n 1, 1, (0, 1, 0, 0, [], 0)), (13, .iconst 0, 1, (0, 0, 0, 0, [], 0)), (14, .iastore, 1, (0, 0, 0, 0, [], 0)), (15, .iinc 1 1, 3, (1, 1, 0, 0, [], 0)), (18, .goto (-16), 3, (0, 100, 0, 0, [], 0))]
def MX5_firstLine : ms_M := (yX5_firstLine, cX5_firstLine, 2, none, (0, 0), (0, 1), [950, 949, 67, 83], [bX5_firstLine_0, bX5_firstLine_1], [bX5_firstLine_100])
def bX5_nextLine_0 : ms_B := [(0, .aload_n 0, 1, (0, 0, 0, 0, [], 0)), (1, .getfield 71, 3, (0, 5, 0, 0, [], 660)), (4, .iconst 1, 1, (1, 0, 0, 0, [], 0)), (5, .isub, 1, (0, 0, 0, 0, [], 0)), (6, .istore_n 1, 1, (0, 1, 0, 0, [], 0)), (7, .nop, 1, (0, 100, 0, 0, [], 0))]
def bX5_nextLine_1 : ms_B := [(28, .bipush 8, 2, (8, 0, 0, 0, [], 0)), (30, .goto 13, 3, (0, 3, 0, 0, [], 0))]
def bX5_nextLine_2 : ms_B := [(33, .aload_n 0, 1, (0, 0, 0, 0, [], 0)), (34, .getfield 59, 3, (33, 5, 3, 0, [], 693)), (37, .iload_n 1, 1, (0, 1, 0, 0, [], 0)), (38, .iconst 1, 1, (1, 0, 0, 0, [], 0)), (39, .isub, 1, (0, 0, 0, 0, [], 0)), (40, .iaload, 1, (0, 0, 0, 0, [], 0)), (41, .iconst 1, 1, (1, 0, 0, 0, [], 0)), (42, .iadd, 1, (0, 0, 0, 0, [], 0)), (43, .nop, 1, (0, 3, 0, 0, [], 0))]
def bX5_nextLine_3 : ms_B := [(43, .istore_n 2, 1, (0, 2, 0, 0, [], 0)), (44, .aload_n 0, 1, (0, 0, 0, 0, [], 0)), (45, .getfield 59, 3, (33, 5, 3, 0, [], 693)), (48, .iload_n 1, 1, (0, 1, 0, 0, [], 0)), (49, .iaload, 1, (0, 0, 0, 0, [], 0)), (50, .iload_n 2, 1, (0, 2, 0, 0, [], 0)), (51, .if_icmp .ge 64, 3, (0, 7, 0, 0, [], 0)), (54, .aload_n 0, 1, (0, 0, 0, 0, [], 0)), (55, .getfield 59, 3, (33, 5, 3, 0, [], 693)), (58, .iload_n 1, 1, (0, 1, 0, 0, [], 0)), (59, .dup2, 1, (0, 0, 0, 0, [], 0)), (60, .iaload, 1, (0, 0, 0, 0, [], 0)), (61, .iconst 1, 1, (1, 0, 0, 0, [], 0)), (62, .iadd, 1, (0, 0, 0, 0, [], 0)), (63, .iastore, 1, (0, 0, 0, 0, [], 0)), (64, .iload_n 1, 1, (0, 1, 0, 0, [], 0)), (65, .iconst 1, 1, (1, 0, 0, 0, [], 0)), (66, .iadd, 1, (0, 0, 0, 0, [], 0)), (67, .istore_n 3, 1, (0, 3, 0, 0, [], 0)), (68, .nop, 1, (0, 101, 0, 0, [], 0))]
def bX5_nextLine_4 : ms_B := [(105, .iconst 0, 1, (0, 0, 0, 0, [], 0)), (106, .nop, 1, (0, 5, 0, 0, [], 0))]
def bX5_nextLine_5 : ms_B := [(106, .iastore, 1, (0, 0, 0, 0, [], 0)), (107, .iinc 3 1, 3, (1, 3, 0, 0, [], 0)), (110, .goto (-42), 3, (0, 101, 0, 0, [], 0))]
def bX5_nextLine_6 : ms_B := [(113, .iconst 1, 1, (1, 0, 0, 0, [], 0)), (114, .ireturn, 1, (0, 0, 1, 0, [], 0))]
def bX5_nextLine_7 : ms_B := [(115, .iinc 1 (-1), 3, (-1, 1, 0, 0, [], 0)), (118, .goto (-111), 3, (0, 100, 0, 0, [], 0))]
def bX5_nextLine_8 : ms_B := [(121, .iconst 0, 1, (0, 0, 0, 0, [], 0)), (122, .ireturn, 1, (0, 0, 1, 0, [], 0))]
def bX5_nextLine_100 : ms_B := [(7, .iload_n 1, 1, (0, 1, 0, 0, [], 0)), (8, .ifCond .lt 113, 3, (0, 8, 0, 0, [], 0)), (11, .iload_n 1, 1, (0, 1, 0, 0, [], 0)), (12, .ifCond .eq 16, 3, (0, 1, 0, 0, [], 0)), (15, .aload_n 0, 1, (0, 0, 0, 0, [], 0)), (16, .getfield 59, 3, (33, 5, 3, 0, [], 693)), (19, .iload_n 1, 1, (0, 1, 0, 0, [], 0)), (20, .iconst 1, 1, (1, 0, 0, 0, [], 0)), (21, .isub, 1, (0, 0, 0, 0, [], 0)), (22, .iaload, 1, (0, 0, 0, 0, [], 0)), (23, .bipush 8, 2, (8, 0, 0, 0, [], 0)), (25, .if_icmp .lt 8, 3, (0, 2, 0, 0, [], 0)), (28, .nop, 1, (0, 1, 0, 0, [], 0))]
def bX5_nextLine_101 : ms_B := [(68, .iload_n 3, 1, (0, 3, 0, 0, [], 0)), (69, .aload_n 0, 1, (0, 0, 0, 0, [], 0)), (70, .getfield 71, 3, (0, 5, 0, 0, [], 660)), (73, .if_icmp .ge 40, 3, (0, 6, 0, 0, [], 0)), (76, .aload_n 0, 1, (0, 0, 0, 0, [], 0)), (77, .getfield 59, 3, (33, 5, 3, 0, [], 693)), (80, .iload_n 3, 1, (0, 3, 0, 0, [], 0)), (81, .aload_n 0, 1, (0, 0, 0, 0, [], 0)), (82, .getfield 59, 3, (33, 5, 3, 0, [], 693)), (85, .iload_n 3, 1, (0, 3, 0, 0, [], 0)), (86, .iconst 1, 1, (1, 0, 0, 0, [], 0)), (87, .isub, 1, (0, 0, 0, 0, [], 0)), (88, .iaload, 1, (0, 0, 0, 0, [], 0)), (89, .ifCond .le 16, 3, (0, 4, 0, 0, [], 0)), (92, .aload_n 0, 1, (0, 0, 0, 0, [], 0)), (93, .getfield 59, 3, (33, 5, 3, 0, [], 693)), (96, .iload_n 3, 1, (0, 3, 0, 0, [], 0)), (97, .iconst 1, 1, (1, 0, 0, 0, [], 0)), (98, .isub, 1, (0, 0, 0, 0, [], 0)), (99, .iaload, 1, (0, 0, 0, 0, [], 0)), (100, .iconst 1, 1, (1, 0, 0, 0, [], 0)), (101, .isub, 1, (0, 0, 0, 0, [], 0)), (102, .goto 4, 3, (0, 5, 0, 0, [], 0))]
def MX5_nextLine : ms_M := (yX5_nextLine, cX5_nextLine, 4, (some .boolean), (0, 0), (0, 1), [970, 969, 72, 83], [bX5_nextLine_0, bX5_nextLine_1, bX5_nextLine_2, bX5_nextLine_3, bX5_nextLine_4, bX5_nextLine_5, bX5_nextLine_6, bX5_nextLine_7, bX5_nextLine_8], [bX5_nextLine_100, bX5_nextLine_101])
def bX5_lineNumber_0 : ms_B := [(0, .iconst 0, 1, (0, 0, 0, 0, [], 0)), (1, .istore_n 1, 1, (0, 1, 0, 0, [], 0)), (2, .iconst 0, 1, (0, 0, 0, 0, [], 0)), (3, .istore_n 2, 1, (0, 2, 0, 0, [], 0)), (4, .nop, 1, (0, 100, 0, 0, [], 0))]
def bX5_lineNumber_1 : ms_B := [(30, .iload_n 1, 1, (0, 1, 0, 0, [], 0)), (31, .ireturn, 1, (0, 0, 0, 0, [], 0))]
def bX5_lineNumber_100 : ms_B := [(4, .iload_n 2, 1, (0, 2, 0, 0, [], 0)), (5, .aload_n 0, 1, (0, 0, 0, 0, [], 0)), (6, .getfield 71, 3, (0, 5, 0, 0, [], 660)), (9, .if_icmp .ge 21, 3, (0, 1, 0, 0, [], 0)), (12, .bipush 10, 2, (10, 0, 0, 0, [], 0)), (14, .iload_n 1, 1, (0, 1, 0, 0, [], 0)), (15, .imul, 1, (0, 0, 0, 0, [], 0)), (16, .aload_n 0, 1, (0, 0, 0, 0, [], 0)), (17, .getfield 59, 3, (33, 5, 3, 0, [], 693)), (20, .iload_n 2, 1, (0, 2, 0, 0, [], 0)), (21, .iaload, 1, (0, 0, 0, 0, [], 0)), (22, .iadd, 1, (0, 0, 0, 0, [], 0)), (23, .istore_n 1, 1, (0, 1, 0, 0, [], 0)), (24, .iinc 2 1, 3, (1, 2, 0, 0, [], 0)), (27, .goto (-23), 3, (0, 100, 0, 0, [], 0))]
def MX5_lineNumber : ms_M := (yX5_lineNumber, cX5_lineNumber, 3, (some .int), (0, 0), (0, 1), [966, 965, 71, 83], [bX5_lineNumber_0, bX5_lineNumber_1], [bX5_lineNumber_100])
def bX5_hasHill_0 : ms_B := [(0, .iconst 0, 1, (0, 0, 0, 0, [], 0)), (1, .istore_n 1, 1, (0, 1, 0, 0, [], 0)), (2, .iconst 0, 1, (0, 0, 0, 0, [], 0)), (3, .istore_n 2, 1, (0, 2, 0, 0, [], 0)), (4, .nop, 1, (0, 100, 0, 0, [], 0))]
def bX5_hasHill_1 : ms_B := [(37, .iload_n 1, 1, (0, 1, 0, 0, [], 0)), (38, .ireturn, 1, (0, 0, 0, 0, [], 0))]
def bX5_hasHill_100 : ms_B := [(4, .iload_n 2, 1, (0, 2, 0, 0, [], 0)), (5, .aload_n 0, 1, (0, 0, 0, 0, [], 0)), (6, .getfield 71, 3, (0, 5, 0, 0, [], 660)), (9, .if_icmp .ge 28, 3, (0, 1, 0, 0, [], 0)), (12, .iload_n 1, 1, (0, 1, 0, 0, [], 0)), (13, .bipush 8, 2, (8, 0, 0, 0, [], 0)), (15, .aload_n 0, 1, (0, 0, 0, 0, [], 0)), (16, .getfield 59, 3, (33, 5, 3, 0, [], 693)), (19, .iload_n 2, 1, (0, 2, 0, 0, [], 0)), (20, .iaload, 1, (0, 0, 0, 0, [], 0)), (21, .isub, 1, (0, 0, 0, 0, [], 0)), (22, .aload_n 0, 1, (0, 0, 0, 0, [], 0)), (23, .getfield 20, 3, (6, 5, 3, 0, [], 666)), (26, .iload_n 2, 1, (0, 2, 0, 0, [], 0)), (27, .iaload, 1, (0, 0, 0, 0, [], 0)), (28, .imul, 1, (0, 0, 0, 0, [], 0)), (29, .iadd, 1, (0, 0, 0, 0, [], 0)), (30, .istore_n 1, 1, (0, 1, 0, 0, [], 0)), (31, .iinc 2 1, 3, (1, 2, 0, 0, [], 0)), (34, .goto (-30), 3, (0, 100, 0, 0, [], 0))]
def MX5_hasHill : ms_M := (yX5_hasHill, cX5_hasHill, 3, (some .int), (0, 0), (0, 1), [954, 953, 68, 83], [bX5_hasHill_0, bX5_hasHill_1], [bX5_hasHill_100])
def bX5_hasSea_0 : ms_B := [(0, .iconst 0, 1, (0, 0, 0, 0, [], 0)), (1, .istore_n 1, 1, (0, 1, 0, 0, [], 0)), (2, .iconst 0, 1, (0, 0, 0, 0, [], 0)), (3, .istore_n 2, 1, (0, 2, 0, 0, [], 0)), (4, .nop, 1, (0, 100, 0, 0, [], 0))]
def bX5_hasSea_1 : ms_B := [(34, .iload_n 1, 1, (0, 1, 0, 0, [], 0)), (35, .ireturn, 1, (0, 0, 0, 0, [], 0))]
def bX5_hasSea_100 : ms_B := [(4, .iload_n 2, 1, (0, 2, 0, 0, [], 0)), (5, .aload_n 0, 1, (0, 0, 0, 0, [], 0)), (6, .getfield 71, 3, (0, 5, 0, 0, [], 660)), (9, .if_icmp .ge 25, 3, (0, 1, 0, 0, [], 0)), (12, .iload_n 1, 1, (0, 1, 0, 0, [], 0)), (13, .aload_n 0, 1, (0, 0, 0, 0, [], 0)), (14, .getfield 59, 3, (33, 5, 3, 0, [], 693)), (17, .iload_n 2, 1, (0, 2, 0, 0, [], 0)), (18, .iaload, 1, (0, 0, 0, 0, [], 0)), (19, .aload_n 0, 1, (0, 0, 0, 0, [], 0)), (20, .getfield 23, 3, (7, 5, 3, 0, [], 667)), (23, .iload_n 2, 1, (0, 2, 0, 0, [], 0)), (24, .iaload, 1, (0, 0, 0, 0, [], 0)), (25, .imul, 1, (0, 0, 0, 0, [], 0)), (26, .iadd, 1, (0, 0, 0, 0, [], 0)), (27, .istore_n 1, 1, (0, 1, 0, 0, [], 0)), (28, .iinc 2 1, 3, (1, 2, 0, 0, [], 0)), (31, .goto (-27), 3, (0, 100, 0, 0, [], 0))]
def MX5_hasSea : ms_M := (yX5_hasSea, cX5_hasSea, 3, (some .int), (0, 0), (0, 1), [962, 961, 70, 83], [bX5_hasSea_0, bX5_hasSea_1], [bX5_hasSea_100])
def bX5_allOf_0 : ms_B := [(0, .iconst 0, 1, (0, 0, 0, 0, [], 0)), (1, .istore_n 2, 1, (0, 2, 0, 0, [], 0)), (2, .iconst 0, 1, (0, 0, 0, 0, [], 0)), (3, .istore_n 3, 1, (0, 3, 0, 0, [], 0)), (4, .nop, 1, (0, 100, 0, 0, [], 0))]
def bX5_allOf_1 : ms_B := [(27, .iload_n 2, 1, (0, 2, 0, 0, [], 0)), (28, .ireturn, 1, (0, 0, 0, 0, [], 0))]
def bX5_allOf_100 : ms_B := [(4, .iload_n 3, 1, (0, 3, 0, 0, [], 0)), (5, .aload_n 0, 1, (0, 0, 0, 0, [], 0)), (6, .getfield 71, 3, (0, 5, 0, 0, [], 660)), (9, .if_icmp .ge 18, 3, (0, 1, 0, 0, [], 0)), (12, .iload_n 2, 1, (0, 2, 0, 0, [], 0)), (13, .bipush 8, 2, (8, 0, 0, 0, [], 0)), (15, .aload_n 1, 1, (0, 1, 0, 0, [], 0)), (16, .iload_n 3, 1, (0, 3, 0, 0, [], 0)), (17, .iaload, 1, (0, 0, 0, 0, [], 0)), (18, .imul, 1, (0, 0, 0, 0, [], 0)), (19, .iadd, 1, (0, 0, 0, 0, [], 0)), (20, .istore_n 2, 1, (0, 2, 0, 0, [], 0)), (21, .iinc 3 1, 3, (1, 3, 0, 0, [], 0)), (24, .goto (-20), 3, (0, 100, 0, 0, [], 0))]
def MX5_allOf : ms_M := (yX5_allOf, cX5_allOf, 4, (some .int), (0, 0), (0, 2), [958, 957, 69, 83], [bX5_allOf_0, bX5_allOf_1], [bX5_allOf_100])
def bX5_fair_0 : ms_B := [(0, .iload_n 1, 1, (0, 1, 0, 0, [], 0)), (1, .iconst 0, 1, (0, 0, 0, 0, [], 0)), (2, .iconst 1, 1, (1, 0, 0, 0, [], 0)), (3, .invokestatic 74, 3, (0, 91, 3, 0, [], 776)), (6, .ifCond .ne 5, 3, (0, 1, 0, 0, [], 0)), (9, .iconst (-1), 1, (-1, 0, 0, 0, [], 0)), (10, .ireturn, 1, (0, 0, 0, 0, [], 0))]
def bX5_fair_1 : ms_B := [(11, .iconst 0, 1, (0, 0, 0, 0, [], 0)), (12, .istore_n 2, 1, (0, 2, 0, 0, [], 0)), (13, .bipush (-9), 2, (-9, 0, 0, 0, [], 0)), (15, .istore_n 3, 1, (0, 3, 0, 0, [], 0)), (16, .aload_n 0, 1, (0, 0, 0, 0, [], 0)), (17, .invokevirtual 218, 3, (0, 136, 1, 6, [], 947)), (20, .iconst 1, 1, (1, 0, 0, 0, [], 0)), (21, .istore 4, 2, (0, 4, 0, 0, [], 0)), (23, .nop, 1, (0, 100, 0, 0, [], 0))]
def bX5_fair_2 : ms_B := [(66, .iconst 0, 1, (0, 0, 0, 0, [], 0)), (67, .nop, 1, (0, 3, 0, 0, [], 0))]
def bX5_fair_3 : ms_B := [(67, .istore 5, 2, (0, 5, 0, 0, [], 0)), (69, .iload 5, 2, (0, 5, 0, 0, [], 0)), (71, .ifCond .eq 14, 3, (0, 4, 0, 0, [], 0)), (74, .iload_n 2, 1, (0, 2, 0, 0, [], 0)), (75, .ifCond .ne 10, 3, (0, 4, 0, 0, [], 0)), (78, .aload_n 0, 1, (0, 0, 0, 0, [], 0)), (79, .invokevirtual 231, 3, (0, 138, 1, 6, [], 963)), (82, .goto 4, 3, (0, 5, 0, 0, [], 0))]
def bX5_fair_4 : ms_B := [(85, .iload_n 3, 1, (0, 3, 0, 0, [], 0)), (86, .nop, 1, (0, 5, 0, 0, [], 0))]
def bX5_fair_5 : ms_B := [(86, .istore_n 3, 1, (0, 3, 0, 0, [], 0)), (87, .iload_n 2, 1, (0, 2, 0, 0, [], 0)), (88, .iload 5, 2, (0, 5, 0, 0, [], 0)), (90, .ifCond .eq 7, 3, (0, 6, 0, 0, [], 0)), (93, .iconst 1, 1, (1, 0, 0, 0, [], 0)), (94, .goto 4, 3, (0, 7, 0, 0, [], 0))]
def bX5_fair_6 : ms_B := [(97, .iconst 0, 1, (0, 0, 0, 0, [], 0)), (98, .nop, 1, (0, 7, 0, 0, [], 0))]
def bX5_fair_7 : ms_B := [(98, .iadd, 1, (0, 0, 0, 0, [], 0)), (99, .istore_n 2, 1, (0, 2, 0, 0, [], 0)), (100, .aload_n 0, 1, (0, 0, 0, 0, [], 0)), (101, .invokevirtual 234, 3, (0, 137, 1, 6, [], 967)), (104, .istore 4, 2, (0, 4, 0, 0, [], 0)), (106, .goto (-83), 3, (0, 100, 0, 0, [], 0))]
def bX5_fair_8 : ms_B := [(109, .iload_n 1, 1, (0, 1, 0, 0, [], 0)), (110, .ifCond .ne 7, 3, (0, 9, 0, 0, [], 0)), (113, .iload_n 2, 1, (0, 2, 0, 0, [], 0)), (114, .goto 4, 3, (0, 10, 0, 0, [], 0))]
def bX5_fair_9 : ms_B := [(117, .iload_n 3, 1, (0, 3, 0, 0, [], 0)), (118, .nop, 1, (0, 10, 0, 0, [], 0))]
def bX5_fair_10 : ms_B := [(118, .ireturn, 1, (0, 0, 0, 0, [], 0))]
def bX5_fair_100 : ms_B := [(23, .iload 4, 2, (0, 4, 0, 0, [], 0)), (25, .ifCond .eq 84, 3, (0, 8, 0, 0, [], 0)), (28, .iconst 2, 1, (2, 0, 0, 0, [], 0)), (29, .aload_n 0, 1, (0, 0, 0, 0, [], 0)), (30, .invokevirtual 221, 3, (0, 139, 1, 6, [], 951)), (33, .imul, 1, (0, 0, 0, 0, [], 0)), (34, .aload_n 0, 1, (0, 0, 0, 0, [], 0)), (35, .aload_n 0, 1, (0, 0, 0, 0, [], 0)), (36, .getfield 20, 3, (6, 5, 3, 0, [], 666)), (39, .invokevirtual 224, 3, (0, 141, 2, 6, [], 955)), (42, .if_icmp .lt 24, 3, (0, 2, 0, 0, [], 0)), (45, .iconst 2, 1, (2, 0, 0, 0, [], 0)), (46, .aload_n 0, 1, (0, 0, 0, 0, [], 0)), (47, .invokevirtual 228, 3, (0, 140, 1, 6, [], 959)), (50, .imul, 1, (0, 0, 0, 0, [], 0)), (51, .aload_n 0, 1, (0, 0, 0, 0, [], 0)), (52, .aload_n 0, 1, (0, 0, 0, 0, [], 0)), (53, .getfield 23, 3, (7, 5, 3, 0, [], 667)), (56, .invokevirtual 224, 3, (0, 141, 2, 6, [], 955)), (59, .if_icmp .lt 7, 3, (0, 2, 0, 0, [], 0)), (62, .iconst 1, 1, (1, 0, 0, 0, [], 0)), (63, .goto 4, 3, (0, 3, 0, 0, [], 0))]
def MX5_fair : ms_M := (yX5_fair, cX5_fair, 6, (some .int), (0, 0), (0, 2), [946, 944, 945, 83], [bX5_fair_0, bX5_fair_1, bX5_fair_2, bX5_fair_3, bX5_fair_4, bX5_fair_5, bX5_fair_6, bX5_fair_7, bX5_fair_8, bX5_fair_9, bX5_fair_10], [bX5_fair_100])
def bX5_best_0 : ms_B := [(0, .iload_n 1, 1, (0, 1, 0, 0, [], 0)), (1, .iconst 0, 1, (0, 0, 0, 0, [], 0)), (2, .iconst 1, 1, (1, 0, 0, 0, [], 0)), (3, .invokestatic 74, 3, (0, 91, 3, 0, [], 776)), (6, .ifCond .ne 5, 3, (0, 1, 0, 0, [], 0)), (9, .iconst (-1), 1, (-1, 0, 0, 0, [], 0)), (10, .ireturn, 1, (0, 0, 0, 0, [], 0))]
def bX5_best_1 : ms_B := [(11, .iconst (-1), 1, (-1, 0, 0, 0, [], 0)), (12, .istore_n 2, 1, (0, 2, 0, 0, [], 0)), (13, .iconst 0, 1, (0, 0, 0, 0, [], 0)), (14, .istore_n 3, 1, (0, 3, 0, 0, [], 0)), (15, .aload_n 0, 1, (0, 0, 0, 0, [], 0)), (16, .invokevirtual 218, 3, (0, 136, 1, 6, [], 947)), (19, .iconst 1, 1, (1, 0, 0, 0, [], 0)), (20, .istore 4, 2, (0, 4, 0, 0, [], 0)), (22, .nop, 1, (0, 100, 0, 0, [], 0))]
def bX5_best_2 : ms_B := [(51, .iload 6, 2, (0, 6, 0, 0, [], 0)), (53, .nop, 1, (0, 3, 0, 0, [], 0))]
def bX5_best_3 : ms_B := [(53, .istore 7, 2, (0, 7, 0, 0, [], 0)), (55, .iload 7, 2, (0, 7, 0, 0, [], 0)), (57, .iload_n 2, 1, (0, 2, 0, 0, [], 0)), (58, .if_icmp .le 10, 3, (0, 4, 0, 0, [], 0)), (61, .aload_n 0, 1, (0, 0, 0, 0, [], 0)), (62, .invokevirtual 231, 3, (0, 138, 1, 6, [], 963)), (65, .goto 4, 3, (0, 5, 0, 0, [], 0))]
def bX5_best_4 : ms_B := [(68, .iload_n 3, 1, (0, 3, 0, 0, [], 0)), (69, .nop, 1, (0, 5, 0, 0, [], 0))]
def bX5_best_5 : ms_B := [(69, .istore_n 3, 1, (0, 3, 0, 0, [], 0)), (70, .iload 7, 2, (0, 7, 0, 0, [], 0)), (72, .iload_n 2, 1, (0, 2, 0, 0, [], 0)), (73, .if_icmp .le 8, 3, (0, 6, 0, 0, [], 0)), (76, .iload 7, 2, (0, 7, 0, 0, [], 0)), (78, .goto 4, 3, (0, 7, 0, 0, [], 0))]
def bX5_best_6 : ms_B := [(81, .iload_n 2, 1, (0, 2, 0, 0, [], 0)), (82, .nop, 1, (0, 7, 0, 0, [], 0))]
def bX5_best_7 : ms_B := [(82, .istore_n 2, 1, (0, 2, 0, 0, [], 0)), (83, .aload_n 0, 1, (0, 0, 0, 0, [], 0)), (84, .invokevirtual 234, 3, (0, 137, 1, 6, [], 967)), (87, .istore 4, 2, (0, 4, 0, 0, [], 0)), (89, .goto (-67), 3, (0, 100, 0, 0, [], 0))]
def bX5_best_8 : ms_B := [(92, .iload_n 1, 1, (0, 1, 0, 0, [], 0)), (93, .ifCond .ne 7, 3, (0, 9, 0, 0, [], 0)), (96, .iload_n 3, 1, (0, 3, 0, 0, [], 0)), (97, .goto 4, 3, (0, 10, 0, 0, [], 0))]
def bX5_best_9 : ms_B := [(100, .iload_n 2, 1, (0, 2, 0, 0, [], 0)), (101, .nop, 1, (0, 10, 0, 0, [], 0))]
def bX5_best_10 : ms_B := [(101, .ireturn, 1, (0, 0, 0, 0, [], 0))]
def bX5_best_100 : ms_B := [(22, .iload 4, 2, (0, 4, 0, 0, [], 0)), (24, .ifCond .eq 68, 3, (0, 8, 0, 0, [], 0)), (27, .aload_n 0, 1, (0, 0, 0, 0, [], 0)), (28, .invokevirtual 221, 3, (0, 139, 1, 6, [], 951)), (31, .istore 5, 2, (0, 5, 0, 0, [], 0)), (33, .aload_n 0, 1, (0, 0, 0, 0, [], 0)), (34, .invokevirtual 228, 3, (0, 140, 1, 6, [], 959)), (37, .istore 6, 2, (0, 6, 0, 0, [], 0)), (39, .iload 5, 2, (0, 5, 0, 0, [], 0)), (41, .iload 6, 2, (0, 6, 0, 0, [], 0)), (43, .if_icmp .ge 8, 3, (0, 2, 0, 0, [], 0)), (46, .iload 5, 2, (0, 5, 0, 0, [], 0)), (48, .goto 5, 3, (0, 3, 0, 0, [], 0))]
def MX5_best : ms_M := (yX5_best, cX5_best, 8, (some .int), (0, 0), (0, 2), [974, 972, 973, 83], [bX5_best_0, bX5_best_1, bX5_best_2, bX5_best_3, bX5_best_4, bX5_best_5, bX5_best_6, bX5_best_7, bX5_best_8, bX5_best_9, bX5_best_10], [bX5_best_100])
def bX5_orders_0 : ms_B := [(0, .iconst 1, 1, (1, 0, 0, 0, [], 0)), (1, .istore_n 1, 1, (0, 1, 0, 0, [], 0)), (2, .iconst 2, 1, (2, 0, 0, 0, [], 0)), (3, .istore_n 2, 1, (0, 2, 0, 0, [], 0)), (4, .nop, 1, (0, 100, 0, 0, [], 0))]
def bX5_orders_1 : ms_B := [(19, .iload_n 1, 1, (0, 1, 0, 0, [], 0)), (20, .ireturn, 1, (0, 0, 0, 0, [], 0))]
def bX5_orders_100 : ms_B := [(4, .iload_n 2, 1, (0, 2, 0, 0, [], 0)), (5, .iload_n 0, 1, (0, 0, 0, 0, [], 0)), (6, .if_icmp .gt 13, 3, (0, 1, 0, 0, [], 0)), (9, .iload_n 1, 1, (0, 1, 0, 0, [], 0)), (10, .iload_n 2, 1, (0, 2, 0, 0, [], 0)), (11, .imul, 1, (0, 0, 0, 0, [], 0)), (12, .istore_n 1, 1, (0, 1, 0, 0, [], 0)), (13, .iinc 2 1, 3, (1, 2, 0, 0, [], 0)), (16, .goto (-12), 3, (0, 100, 0, 0, [], 0))]
def MX5_orders : ms_M := (yX5_orders, cX5_orders, 3, (some .int), (0, 0), (1, 1), [985, 984, 0, 83], [bX5_orders_0, bX5_orders_1], [bX5_orders_100])
def bX5_weightOf_0 : ms_B := [(0, .iconst 0, 1, (0, 0, 0, 0, [], 0)), (1, .istore_n 2, 1, (0, 2, 0, 0, [], 0)), (2, .iconst 0, 1, (0, 0, 0, 0, [], 0)), (3, .istore_n 3, 1, (0, 3, 0, 0, [], 0)), (4, .nop, 1, (0, 100, 0, 0, [], 0))]
def bX5_weightOf_1 : ms_B := [(31, .iconst 0, 1, (0, 0, 0, 0, [], 0)), (32, .nop, 1, (0, 2, 0, 0, [], 0))]
def bX5_weightOf_2 : ms_B := [(32, .iadd, 1, (0, 0, 0, 0, [], 0)), (33, .istore_n 2, 1, (0, 2, 0, 0, [], 0)), (34, .iinc 3 1, 3, (1, 3, 0, 0, [], 0)), (37, .goto (-33), 3, (0, 100, 0, 0, [], 0))]
def bX5_weightOf_3 : ms_B := [(40, .iload_n 2, 1, (0, 2, 0, 0, [], 0)), (41, .ireturn, 1, (0, 0, 0, 0, [], 0))]
def bX5_weightOf_100 : ms_B := [(4, .iload_n 3, 1, (0, 3, 0, 0, [], 0)), (5, .aload_n 0, 1, (0, 0, 0, 0, [], 0)), (6, .getfield 138, 3, (1, 5, 0, 0, [], 661)), (9, .if_icmp .ge 31, 3, (0, 3, 0, 0, [], 0)), (12, .iload_n 2, 1, (0, 2, 0, 0, [], 0)), (13, .iload_n 1, 1, (0, 1, 0, 0, [], 0)), (14, .iload_n 3, 1, (0, 3, 0, 0, [], 0)), (15, .ishr, 1, (0, 0, 0, 0, [], 0)), (16, .iconst 1, 1, (1, 0, 0, 0, [], 0)), (17, .iand, 1, (0, 0, 0, 0, [], 0)), (18, .iconst 1, 1, (1, 0, 0, 0, [], 0)), (19, .if_icmp .ne 12, 3, (0, 1, 0, 0, [], 0)), (22, .aload_n 0, 1, (0, 0, 0, 0, [], 0)), (23, .getfield 26, 3, (8, 5, 3, 0, [], 668)), (26, .iload_n 3, 1, (0, 3, 0, 0, [], 0)), (27, .iaload, 1, (0, 0, 0, 0, [], 0)), (28, .goto 4, 3, (0, 2, 0, 0, [], 0))]
def MX5_weightOf : ms_M := (yX5_weightOf, cX5_weightOf, 4, (some .int), (0, 0), (0, 2), [982, 981, 73, 83], [bX5_weightOf_0, bX5_weightOf_1, bX5_weightOf_2, bX5_weightOf_3], [bX5_weightOf_100])
def bX5_power_0 : ms_B := [(0, .iload_n 1, 1, (0, 1, 0, 0, [], 0)), (1, .iconst 0, 1, (0, 0, 0, 0, [], 0)), (2, .aload_n 0, 1, (0, 0, 0, 0, [], 0)), (3, .getfield 138, 3, (1, 5, 0, 0, [], 661)), (6, .iconst 1, 1, (1, 0, 0, 0, [], 0)), (7, .isub, 1, (0, 0, 0, 0, [], 0)), (8, .invokestatic 74, 3, (0, 91, 3, 0, [], 776)), (11, .ifCond .eq 12, 3, (0, 1, 0, 0, [], 0)), (14, .iload_n 2, 1, (0, 2, 0, 0, [], 0)), (15, .iconst 0, 1, (0, 0, 0, 0, [], 0)), (16, .iconst 1, 1, (1, 0, 0, 0, [], 0)), (17, .invokestatic 74, 3, (0, 91, 3, 0, [], 776)), (20, .ifCond .ne 5, 3, (0, 2, 0, 0, [], 0)), (23, .nop, 1, (0, 1, 0, 0, [], 0))]
def bX5_power_1 : ms_B := [(23, .iconst (-1), 1, (-1, 0, 0, 0, [], 0)), (24, .ireturn, 1, (0, 0, 0, 0, [], 0))]
def bX5_power_2 : ms_B := [(25, .aload_n 0, 1, (0, 0, 0, 0, [], 0)), (26, .iconst 1, 1, (1, 0, 0, 0, [], 0)), (27, .aload_n 0, 1, (0, 0, 0, 0, [], 0)), (28, .getfield 138, 3, (1, 5, 0, 0, [], 661)), (31, .ishl, 1, (0, 0, 0, 0, [], 0)), (32, .iconst 1, 1, (1, 0, 0, 0, [], 0)), (33, .isub, 1, (0, 0, 0, 0, [], 0)), (34, .invokevirtual 237, 3, (0, 145, 2, 6, [], 979)), (37, .istore_n 3, 1, (0, 3, 0, 0, [], 0)), (38, .iconst 0, 1, (0, 0, 0, 0, [], 0)), (39, .istore 4, 2, (0, 4, 0, 0, [], 0)), (41, .iconst 0, 1, (0, 0, 0, 0, [], 0)), (42, .istore 5, 2, (0, 5, 0, 0, [], 0)), (44, .nop, 1, (0, 100, 0, 0, [], 0))]
def bX5_power_3 : ms_B := [(128, .iload 4, 2, (0, 4, 0, 0, [], 0)), (130, .iload 7, 2, (0, 7, 0, 0, [], 0)), (132, .invokestatic 240, 3, (0, 144, 1, 0, [], 983)), (135, .aload_n 0, 1, (0, 0, 0, 0, [], 0)), (136, .getfield 138, 3, (1, 5, 0, 0, [], 661)), (139, .iconst 1, 1, (1, 0, 0, 0, [], 0)), (140, .isub, 1, (0, 0, 0, 0, [], 0)), (141, .iload 7, 2, (0, 7, 0, 0, [], 0)), (143, .isub, 1, (0, 0, 0, 0, [], 0)), (144, .invokestatic 240, 3, (0, 144, 1, 0, [], 983)), (147, .imul, 1, (0, 0, 0, 0, [], 0)), (148, .iadd, 1, (0, 0, 0, 0, [], 0)), (149, .istore 4, 2, (0, 4, 0, 0, [], 0)), (151, .nop, 1, (0, 4, 0, 0, [], 0))]
def bX5_power_4 : ms_B := [(151, .iinc 5 1, 3, (1, 5, 0, 0, [], 0)), (154, .goto (-110), 3, (0, 100, 0, 0, [], 0))]
def bX5_power_5 : ms_B := [(157, .iload 4, 2, (0, 4, 0, 0, [], 0)), (159, .aload_n 0, 1, (0, 0, 0, 0, [], 0)), (160, .getfield 138, 3, (1, 5, 0, 0, [], 661)), (163, .invokestatic 240, 3, (0, 144, 1, 0, [], 983)), (166, .invokestatic 243, 3, (0, 92, 2, 0, [], 986)), (169, .istore 5, 2, (0, 5, 0, 0, [], 0)), (171, .iload_n 2, 1, (0, 2, 0, 0, [], 0)), (172, .ifCond .ne 11, 3, (0, 6, 0, 0, [], 0)), (175, .iload 4, 2, (0, 4, 0, 0, [], 0)), (177, .iload 5, 2, (0, 5, 0, 0, [], 0)), (179, .idiv, 1, (0, 0, 0, 0, [], 0)), (180, .goto 13, 3, (0, 7, 0, 0, [], 0))]
def bX5_power_6 : ms_B := [(183, .aload_n 0, 1, (0, 0, 0, 0, [], 0)), (184, .getfield 138, 3, (1, 5, 0, 0, [], 661)), (187, .invokestatic 240, 3, (0, 144, 1, 0, [], 983)), (190, .iload 5, 2, (0, 5, 0, 0, [], 0)), (192, .idiv, 1, (0, 0, 0, 0, [], 0)), (193, .nop, 1, (0, 7, 0, 0, [], 0))]
def bX5_power_7 : ms_B := [(193, .ireturn, 1, (0, 0, 0, 0, [], 0))]
def bX5_power_100 : ms_B := [(44, .iload 5, 2, (0, 5, 0, 0, [], 0)), (46, .iconst 1, 1, (1, 0, 0, 0, [], 0)), (47, .aload_n 0, 1, (0, 0, 0, 0, [], 0)), (48, .getfield 138, 3, (1, 5, 0, 0, [], 661)), (51, .ishl, 1, (0, 0, 0, 0, [], 0)), (52, .if_icmp .ge 105, 3, (0, 5, 0, 0, [], 0)), (55, .aload_n 0, 1, (0, 0, 0, 0, [], 0)), (56, .iload 5, 2, (0, 5, 0, 0, [], 0)), (58, .invokevirtual 237, 3, (0, 145, 2, 6, [], 979)), (61, .istore 6, 2, (0, 6, 0, 0, [], 0)), (63, .iload 5, 2, (0, 5, 0, 0, [], 0)), (65, .iload_n 1, 1, (0, 1, 0, 0, [], 0)), (66, .ishr, 1, (0, 0, 0, 0, [], 0)), (67, .iconst 1, 1, (1, 0, 0, 0, [], 0)), (68, .iand, 1, (0, 0, 0, 0, [], 0)), (69, .ifCond .ne 82, 3, (0, 4, 0, 0, [], 0)), (72, .iconst 2, 1, (2, 0, 0, 0, [], 0)), (73, .iload 6, 2, (0, 6, 0, 0, [], 0)), (75, .imul, 1, (0, 0, 0, 0, [], 0)), (76, .iload_n 3, 1, (0, 3, 0, 0, [], 0)), (77, .if_icmp .gt 74, 3, (0, 4, 0, 0, [], 0)), (80, .iconst 2, 1, (2, 0, 0, 0, [], 0)), (81, .iload 6, 2, (0, 6, 0, 0, [], 0)), (83, .aload_n 0, 1, (0, 0, 0, 0, [], 0)), (84, .getfield 26, 3, (8, 5, 3, 0, [], 668)), (87, .iload_n 1, 1, (0, 1, 0, 0, [], 0)), (88, .iaload, 1, (0, 0, 0, 0, [], 0)), (89, .iadd, 1, (0, 0, 0, 0, [], 0)), (90, .imul, 1, (0, 0, 0, 0, [], 0)), (91, .iload_n 3, 1, (0, 3, 0, 0, [], 0)), (92, .if_icmp .le 59, 3, (0, 4, 0, 0, [], 0)), (95, .iconst 0, 1, (0, 0, 0, 0, [], 0)), (96, .istore 7, 2, (0, 7, 0, 0, [], 0)), (98, .iconst 0, 1, (0, 0, 0, 0, [], 0)), (99, .istore 8, 2, (0, 8, 0, 0, [], 0)), (101, .nop, 1, (0, 101, 0, 0, [], 0))]
def bX5_power_101 : ms_B := [(101, .iload 8, 2, (0, 8, 0, 0, [], 0)), (103, .aload_n 0, 1, (0, 0, 0, 0, [], 0)), (104, .getfield 138, 3, (1, 5, 0, 0, [], 661)), (107, .if_icmp .ge 21, 3, (0, 3, 0, 0, [], 0)), (110, .iload 7, 2, (0, 7, 0, 0, [], 0)), (112, .iload 5, 2, (0, 5, 0, 0, [], 0)), (114, .iload 8, 2, (0, 8, 0, 0, [], 0)), (116, .ishr, 1, (0, 0, 0, 0, [], 0)), (117, .iconst 1, 1, (1, 0, 0, 0, [], 0)), (118, .iand, 1, (0, 0, 0, 0, [], 0)), (119, .iadd, 1, (0, 0, 0, 0, [], 0)), (120, .istore 7, 2, (0, 7, 0, 0, [], 0)), (122, .iinc 8 1, 3, (1, 8, 0, 0, [], 0)), (125, .goto (-24), 3, (0, 101, 0, 0, [], 0))]
def MX5_power : ms_M := (yX5_power, cX5_power, 9, (some .int), (0, 0), (0, 3), [978, 976, 977, 83], [bX5_power_0, bX5_power_1, bX5_power_2, bX5_power_3, bX5_power_4, bX5_power_5, bX5_power_6, bX5_power_7], [bX5_power_100, bX5_power_101])
def bX5_duel_0 : ms_B := [(0, .iload_n 1, 1, (0, 1, 0, 0, [], 0)), (1, .iconst 0, 1, (0, 0, 0, 0, [], 0)), (2, .bipush 6, 2, (6, 0, 0, 0, [], 0)), (4, .invokestatic 74, 3, (0, 91, 3, 0, [], 776)), (7, .ifCond .ne 5, 3, (0, 1, 0, 0, [], 0)), (10, .iconst (-1), 1, (-1, 0, 0, 0, [], 0)), (11, .ireturn, 1, (0, 0, 0, 0, [], 0))]
def bX5_duel_1 : ms_B := [(12, .aload_n 0, 1, (0, 0, 0, 0, [], 0)), (13, .getfield 146, 3, (12, 5, 0, 0, [], 672)), (16, .istore_n 2, 1, (0, 2, 0, 0, [], 0)), (17, .iconst 0, 1, (0, 0, 0, 0, [], 0)), (18, .istore_n 3, 1, (0, 3, 0, 0, [], 0)), (19, .nop, 1, (0, 100, 0, 0, [], 0))]
def bX5_duel_2 : ms_B := [(50, .aload_n 0, 1, (0, 0, 0, 0, [], 0)), (51, .iload_n 2, 1, (0, 2, 0, 0, [], 0)), (52, .putfield 146, 3, (12, 5, 0, 0, [], 672)), (55, .iload_n 1, 1, (0, 1, 0, 0, [], 0)), (56, .iconst 1, 1, (1, 0, 0, 0, [], 0)), (57, .isub, 1, (0, 0, 0, 0, [], 0)), (58, .istore_n 3, 1, (0, 3, 0, 0, [], 0)), (59, .nop, 1, (0, 101, 0, 0, [], 0))]
def bX5_duel_3 : ms_B := [(99, .iload 5, 2, (0, 5, 0, 0, [], 0)), (101, .nop, 1, (0, 4, 0, 0, [], 0))]
def bX5_duel_4 : ms_B := [(101, .istore 6, 2, (0, 6, 0, 0, [], 0)), (103, .iload 4, 2, (0, 4, 0, 0, [], 0)), (105, .bipush 18, 2, (18, 0, 0, 0, [], 0)), (107, .if_icmp .ge 15, 3, (0, 5, 0, 0, [], 0)), (110, .aload_n 0, 1, (0, 0, 0, 0, [], 0)), (111, .getfield 62, 3, (34, 5, 3, 0, [], 694)), (114, .iload 4, 2, (0, 4, 0, 0, [], 0)), (116, .iconst 1, 1, (1, 0, 0, 0, [], 0)), (117, .iadd, 1, (0, 0, 0, 0, [], 0)), (118, .iaload, 1, (0, 0, 0, 0, [], 0)), (119, .goto 5, 3, (0, 6, 0, 0, [], 0))]
def bX5_duel_5 : ms_B := [(122, .iload 5, 2, (0, 5, 0, 0, [], 0)), (124, .nop, 1, (0, 6, 0, 0, [], 0))]
def bX5_duel_6 : ms_B := [(124, .istore 7, 2, (0, 7, 0, 0, [], 0)), (126, .iload_n 3, 1, (0, 3, 0, 0, [], 0)), (127, .iconst 2, 1, (2, 0, 0, 0, [], 0)), (128, .irem, 1, (0, 0, 0, 0, [], 0)), (129, .ifCond .ne 38, 3, (0, 11, 0, 0, [], 0)), (132, .iload 6, 2, (0, 6, 0, 0, [], 0)), (134, .iload 5, 2, (0, 5, 0, 0, [], 0)), (136, .if_icmp .le 8, 3, (0, 7, 0, 0, [], 0)), (139, .iload 6, 2, (0, 6, 0, 0, [], 0)), (141, .goto 5, 3, (0, 8, 0, 0, [], 0))]
def bX5_duel_7 : ms_B := [(144, .iload 5, 2, (0, 5, 0, 0, [], 0)), (146, .nop, 1, (0, 8, 0, 0, [], 0))]
def bX5_duel_8 : ms_B := [(146, .istore 5, 2, (0, 5, 0, 0, [], 0)), (148, .iload 7, 2, (0, 7, 0, 0, [], 0)), (150, .iload 5, 2, (0, 5, 0, 0, [], 0)), (152, .if_icmp .le 8, 3, (0, 9, 0, 0, [], 0)), (155, .iload 7, 2, (0, 7, 0, 0, [], 0)), (157, .goto 5, 3, (0, 10, 0, 0, [], 0))]
def bX5_duel_9 : ms_B := [(160, .iload 5, 2, (0, 5, 0, 0, [], 0)), (162, .nop, 1, (0, 10, 0, 0, [], 0))]
def bX5_duel_10 : ms_B := [(162, .istore 5, 2, (0, 5, 0, 0, [], 0)), (164, .goto 35, 3, (0, 16, 0, 0, [], 0))]
def bX5_duel_11 : ms_B := [(167, .iload 6, 2, (0, 6, 0, 0, [], 0)), (169, .iload 5, 2, (0, 5, 0, 0, [], 0)), (171, .if_icmp .ge 8, 3, (0, 12, 0, 0, [], 0)), (174, .iload 6, 2, (0, 6, 0, 0, [], 0)), (176, .goto 5, 3, (0, 13, 0, 0, [], 0))]
def bX5_duel_12 : ms_B := [(179, .iload 5, 2, (0, 5, 0, 0, [], 0)), (181, .nop, 1, (0, 13, 0, 0, [], 0))]
def bX5_duel_13 : ms_B := [(181, .istore 5, 2, (0, 5, 0, 0, [], 0)), (183, .iload 7, 2, (0, 7, 0, 0, [], 0)), (185, .iload 5, 2, (0, 5, 0, 0, [], 0)), (187, .if_icmp .ge 8, 3, (0, 14, 0, 0, [], 0)), (190, .iload 7, 2, (0, 7, 0, 0, [], 0)), (192, .goto 5, 3, (0, 15, 0, 0, [], 0))]
def bX5_duel_14 : ms_B := [(195, .iload 5, 2, (0, 5, 0, 0, [], 0)), (197, .nop, 1, (0, 15, 0, 0, [], 0))]
def bX5_duel_15 : ms_B := [(197, .istore 5, 2, (0, 5, 0, 0, [], 0)), (199, .nop, 1, (0, 16, 0, 0, [], 0))]
def bX5_duel_16 : ms_B := [(199, .aload_n 0, 1, (0, 0, 0, 0, [], 0)), (200, .getfield 65, 3, (35, 5, 3, 0, [], 695)), (203, .iload 4, 2, (0, 4, 0, 0, [], 0)), (205, .iload 5, 2, (0, 5, 0, 0, [], 0)), (207, .iastore, 1, (0, 0, 0, 0, [], 0)), (208, .iinc 4 1, 3, (1, 4, 0, 0, [], 0)), (211, .goto (-145), 3, (0, 102, 0, 0, [], 0))]
def bX5_duel_17 : ms_B := [(214, .iconst 0, 1, (0, 0, 0, 0, [], 0)), (215, .istore 4, 2, (0, 4, 0, 0, [], 0)), (217, .nop, 1, (0, 103, 0, 0, [], 0))]
def bX5_duel_18 : ms_B := [(244, .iinc 3 (-1), 3, (-1, 3, 0, 0, [], 0)), (247, .goto (-188), 3, (0, 101, 0, 0, [], 0))]
def bX5_duel_19 : ms_B := [(250, .aload_n 0, 1, (0, 0, 0, 0, [], 0)), (251, .getfield 62, 3, (34, 5, 3, 0, [], 694)), (254, .aload_n 0, 1, (0, 0, 0, 0, [], 0)), (255, .getfield 146, 3, (12, 5, 0, 0, [], 672)), (258, .bipush 9, 2, (9, 0, 0, 0, [], 0)), (260, .iadd, 1, (0, 0, 0, 0, [], 0)), (261, .iaload, 1, (0, 0, 0, 0, [], 0)), (262, .ireturn, 1, (0, 0, 0, 0, [], 0))]
def bX5_duel_100 : ms_B := [(19, .iload_n 3, 1, (0, 3, 0, 0, [], 0)), (20, .bipush 19, 2, (19, 0, 0, 0, [], 0)), (22, .if_icmp .ge 28, 3, (0, 2, 0, 0, [], 0)), (25, .aload_n 0, 1, (0, 0, 0, 0, [], 0)), (26, .iload_n 3, 1, (0, 3, 0, 0, [], 0)), (27, .bipush 9, 2, (9, 0, 0, 0, [], 0)), (29, .isub, 1, (0, 0, 0, 0, [], 0)), (30, .putfield 146, 3, (12, 5, 0, 0, [], 672)), (33, .aload_n 0, 1, (0, 0, 0, 0, [], 0)), (34, .getfield 62, 3, (34, 5, 3, 0, [], 694)), (37, .iload_n 3, 1, (0, 3, 0, 0, [], 0)), (38, .aload_n 0, 1, (0, 0, 0, 0, [], 0)), (39, .iconst 2, 1, (2, 0, 0, 0, [], 0)), (40, .invokevirtual 203, 3, (0, 122, 2, 6, [], 903)), (43, .iastore, 1, (0, 0, 0, 0, [], 0)), (44, .iinc 3 1, 3, (1, 3, 0, 0, [], 0)), (47, .goto (-28), 3, (0, 100, 0, 0, [], 0))]
def bX5_duel_101 : ms_B := [(59, .iload_n 3, 1, (0, 3, 0, 0, [], 0)), (60, .ifCond .lt 190, 3, (0, 19, 0, 0, [], 0)), (63, .iconst 0, 1, (0, 0, 0, 0, [], 0)), (64, .istore 4, 2, (0, 4, 0, 0, [], 0)), (66, .nop, 1, (0, 102, 0, 0, [], 0))]
def bX5_duel_102 : ms_B := [(66, .iload 4, 2, (0, 4, 0, 0, [], 0)), (68, .bipush 19, 2, (19, 0, 0, 0, [], 0)), (70, .if_icmp .ge 144, 3, (0, 17, 0, 0, [], 0)), (73, .aload_n 0, 1, (0, 0, 0, 0, [], 0)), (74, .getfield 62, 3, (34, 5, 3, 0, [], 694)), (77, .iload 4, 2, (0, 4, 0, 0, [], 0)), (79, .iaload, 1, (0, 0, 0, 0, [], 0)), (80, .istore 5, 2, (0, 5, 0, 0, [], 0)), (82, .iload 4, 2, (0, 4, 0, 0, [], 0)), (84, .ifCond .le 15, 3, (0, 3, 0, 0, [], 0)), (87, .aload_n 0, 1, (0, 0, 0, 0, [], 0)), (88, .getfield 62, 3, (34, 5, 3, 0, [], 694)), (91, .iload 4, 2, (0, 4, 0, 0, [], 0)), (93, .iconst 1, 1, (1, 0, 0, 0, [], 0)), (94, .isub, 1, (0, 0, 0, 0, [], 0)), (95, .iaload, 1, (0, 0, 0, 0, [], 0)), (96, .goto 5, 3, (0, 4, 0, 0, [], 0))]
def bX5_duel_103 : ms_B := [(217, .iload 4, 2, (0, 4, 0, 0, [], 0)), (219, .bipush 19, 2, (19, 0, 0, 0, [], 0)), (221, .if_icmp .ge 23, 3, (0, 18, 0, 0, [], 0)), (224, .aload_n 0, 1, (0, 0, 0, 0, [], 0)), (225, .getfield 62, 3, (34, 5, 3, 0, [], 694)), (228, .iload 4, 2, (0, 4, 0, 0, [], 0)), (230, .aload_n 0, 1, (0, 0, 0, 0, [], 0)), (231, .getfield 65, 3, (35, 5, 3, 0, [], 695)), (234, .iload 4, 2, (0, 4, 0, 0, [], 0)), (236, .iaload, 1, (0, 0, 0, 0, [], 0)), (237, .iastore, 1, (0, 0, 0, 0, [], 0)), (238, .iinc 4 1, 3, (1, 4, 0, 0, [], 0)), (241, .goto (-24), 3, (0, 103, 0, 0, [], 0))]
def MX5_duel : ms_M := (yX5_duel, cX5_duel, 8, (some .int), (0, 0), (0, 2), [992, 990, 991, 83], [bX5_duel_0, bX5_duel_1, bX5_duel_2, bX5_duel_3, bX5_duel_4, bX5_duel_5, bX5_duel_6, bX5_duel_7, bX5_duel_8, bX5_duel_9, bX5_duel_10, bX5_duel_11, bX5_duel_12, bX5_duel_13, bX5_duel_14, bX5_duel_15, bX5_duel_16, bX5_duel_17, bX5_duel_18, bX5_duel_19], [bX5_duel_100, bX5_duel_101, bX5_duel_102, bX5_duel_103])
def bX5_odds_0 : ms_B := [(0, .aload_n 0, 1, (0, 0, 0, 0, [], 0)), (1, .iload_n 1, 1, (0, 1, 0, 0, [], 0)), (2, .invokevirtual 176, 3, (0, 94, 2, 6, [], 835)), (5, .ifCond .eq 41, 3, (0, 1, 0, 0, [], 0)), (8, .iload_n 2, 1, (0, 2, 0, 0, [], 0)), (9, .invokestatic 189, 3, (0, 95, 1, 0, [], 875)), (12, .ifCond .eq 34, 3, (0, 1, 0, 0, [], 0)), (15, .iload_n 3, 1, (0, 3, 0, 0, [], 0)), (16, .iconst 0, 1, (0, 0, 0, 0, [], 0)), (17, .bipush 10, 2, (10, 0, 0, 0, [], 0)), (19, .invokestatic 74, 3, (0, 91, 3, 0, [], 776)), (22, .ifCond .eq 24, 3, (0, 1, 0, 0, [], 0)), (25, .iload 4, 2, (0, 4, 0, 0, [], 0)), (27, .iconst 0, 1, (0, 0, 0, 0, [], 0)), (28, .bipush 6, 2, (6, 0, 0, 0, [], 0)), (30, .invokestatic 74, 3, (0, 91, 3, 0, [], 776)), (33, .ifCond .eq 13, 3, (0, 1, 0, 0, [], 0)), (36, .iload 5, 2, (0, 5, 0, 0, [], 0)), (38, .iconst 0, 1, (0, 0, 0, 0, [], 0)), (39, .iconst 1, 1, (1, 0, 0, 0, [], 0)), (40, .invokestatic 74, 3, (0, 91, 3, 0, [], 776)), (43, .ifCond .ne 5, 3, (0, 2, 0, 0, [], 0)), (46, .nop, 1, (0, 1, 0, 0, [], 0))]
def bX5_odds_1 : ms_B := [(46, .iconst (-1), 1, (-1, 0, 0, 0, [], 0)), (47, .ireturn, 1, (0, 0, 0, 0, [], 0))]
def bX5_odds_2 : ms_B := [(48, .iconst 0, 1, (0, 0, 0, 0, [], 0)), (49, .istore 6, 2, (0, 6, 0, 0, [], 0)), (51, .iconst 1, 1, (1, 0, 0, 0, [], 0)), (52, .istore 7, 2, (0, 7, 0, 0, [], 0)), (54, .iconst 0, 1, (0, 0, 0, 0, [], 0)), (55, .istore 8, 2, (0, 8, 0, 0, [], 0)), (57, .nop, 1, (0, 100, 0, 0, [], 0))]
def bX5_odds_3 : ms_B := [(77, .iconst 0, 1, (0, 0, 0, 0, [], 0)), (78, .istore 8, 2, (0, 8, 0, 0, [], 0)), (80, .nop, 1, (0, 101, 0, 0, [], 0))]
def bX5_odds_4 : ms_B := [(132, .bipush 10, 2, (10, 0, 0, 0, [], 0)), (134, .iload_n 3, 1, (0, 3, 0, 0, [], 0)), (135, .isub, 1, (0, 0, 0, 0, [], 0)), (136, .nop, 1, (0, 5, 0, 0, [], 0))]
def bX5_odds_5 : ms_B := [(136, .imul, 1, (0, 0, 0, 0, [], 0)), (137, .istore 9, 2, (0, 9, 0, 0, [], 0)), (139, .iinc 10 1, 3, (1, 10, 0, 0, [], 0)), (142, .goto (-30), 3, (0, 102, 0, 0, [], 0))]
def bX5_odds_6 : ms_B := [(145, .iload 6, 2, (0, 6, 0, 0, [], 0)), (147, .aload_n 0, 1, (0, 0, 0, 0, [], 0)), (148, .iload_n 1, 1, (0, 1, 0, 0, [], 0)), (149, .iload_n 2, 1, (0, 2, 0, 0, [], 0)), (150, .invokevirtual 166, 3, (0, 113, 3, 6, [], 847)), (153, .iconst 2, 1, (2, 0, 0, 0, [], 0)), (154, .iload 8, 2, (0, 8, 0, 0, [], 0)), (156, .imul, 1, (0, 0, 0, 0, [], 0)), (157, .iadd, 1, (0, 0, 0, 0, [], 0)), (158, .iload 4, 2, (0, 4, 0, 0, [], 0)), (160, .isub, 1, (0, 0, 0, 0, [], 0)), (161, .ifCond .gt 8, 3, (0, 7, 0, 0, [], 0)), (164, .iload 9, 2, (0, 9, 0, 0, [], 0)), (166, .goto 4, 3, (0, 8, 0, 0, [], 0))]
def bX5_odds_7 : ms_B := [(169, .iconst 0, 1, (0, 0, 0, 0, [], 0)), (170, .nop, 1, (0, 8, 0, 0, [], 0))]
def bX5_odds_8 : ms_B := [(170, .iadd, 1, (0, 0, 0, 0, [], 0)), (171, .istore 6, 2, (0, 6, 0, 0, [], 0)), (173, .iinc 8 1, 3, (1, 8, 0, 0, [], 0)), (176, .goto (-96), 3, (0, 101, 0, 0, [], 0))]
def bX5_odds_9 : ms_B := [(179, .iload 6, 2, (0, 6, 0, 0, [], 0)), (181, .iload 7, 2, (0, 7, 0, 0, [], 0)), (183, .invokestatic 243, 3, (0, 92, 2, 0, [], 986)), (186, .istore 8, 2, (0, 8, 0, 0, [], 0)), (188, .iload 5, 2, (0, 5, 0, 0, [], 0)), (190, .ifCond .ne 11, 3, (0, 10, 0, 0, [], 0)), (193, .iload 6, 2, (0, 6, 0, 0, [], 0)), (195, .iload 8, 2, (0, 8, 0, 0, [], 0)), (197, .idiv, 1, (0, 0, 0, 0, [], 0)), (198, .goto 8, 3, (0, 11, 0, 0, [], 0))]
def bX5_odds_10 : ms_B := [(201, .iload 7, 2, (0, 7, 0, 0, [], 0)), (203, .iload 8, 2, (0, 8, 0, 0, [], 0)), (205, .idiv, 1, (0, 0, 0, 0, [], 0)), (206, .nop, 1, (0, 11, 0, 0, [], 0))]
def bX5_odds_11 : ms_B := [(206, .ireturn, 1, (0, 0, 0, 0, [], 0))]
def bX5_odds_100 : ms_B := [(57, .iload 8, 2, (0, 8, 0, 0, [], 0)), (59, .iload 4, 2, (0, 4, 0, 0, [], 0)), (61, .if_icmp .ge 16, 3, (0, 3, 0, 0, [], 0)), (64, .iload 7, 2, (0, 7, 0, 0, [], 0)), (66, .bipush 10, 2, (10, 0, 0, 0, [], 0)), (68, .imul, 1, (0, 0, 0, 0, [], 0)), (69, .istore 7, 2, (0, 7, 0, 0, [], 0)), (71, .iinc 8 1, 3, (1, 8, 0, 0, [], 0)), (74, .goto (-17), 3, (0, 100, 0, 0, [], 0))]
def bX5_odds_101 : ms_B := [(80, .iload 8, 2, (0, 8, 0, 0, [], 0)), (82, .iload 4, 2, (0, 4, 0, 0, [], 0)), (84, .if_icmp .gt 95, 3, (0, 9, 0, 0, [], 0)), (87, .iload 4, 2, (0, 4, 0, 0, [], 0)), (89, .invokestatic 240, 3, (0, 144, 1, 0, [], 983)), (92, .iload 8, 2, (0, 8, 0, 0, [], 0)), (94, .invokestatic 240, 3, (0, 144, 1, 0, [], 983)), (97, .idiv, 1, (0, 0, 0, 0, [], 0)), (98, .iload 4, 2, (0, 4, 0, 0, [], 0)), (100, .iload 8, 2, (0, 8, 0, 0, [], 0)), (102, .isub, 1, (0, 0, 0, 0, [], 0)), (103, .invokestatic 240, 3, (0, 144, 1, 0, [], 983)), (106, .idiv, 1, (0, 0, 0, 0, [], 0)), (107, .istore 9, 2, (0, 9, 0, 0, [], 0)), (109, .iconst 0, 1, (0, 0, 0, 0, [], 0)), (110, .istore 10, 2, (0, 10, 0, 0, [], 0)), (112, .nop, 1, (0, 102, 0, 0, [], 0))]
def bX5_odds_102 : ms_B := [(112, .iload 10, 2, (0, 10, 0, 0, [], 0)), (114, .iload 4, 2, (0, 4, 0, 0, [], 0)), (116, .if_icmp .ge 29, 3, (0, 6, 0, 0, [], 0)), (119, .iload 9, 2, (0, 9, 0, 0, [], 0)), (121, .iload 10, 2, (0, 10, 0, 0, [], 0)), (123, .iload 8, 2, (0, 8, 0, 0, [], 0)), (125, .if_icmp .ge 7, 3, (0, 4, 0, 0, [], 0)), (128, .iload_n 3, 1, (0, 3, 0, 0, [], 0)), (129, .goto 7, 3, (0, 5, 0, 0, [], 0))]
def MX5_odds : ms_M := (yX5_odds, cX5_odds, 11, (some .int), (0, 0), (0, 6), [996, 994, 995, 83], [bX5_odds_0, bX5_odds_1, bX5_odds_2, bX5_odds_3, bX5_odds_4, bX5_odds_5, bX5_odds_6, bX5_odds_7, bX5_odds_8, bX5_odds_9, bX5_odds_10, bX5_odds_11], [bX5_odds_100, bX5_odds_101, bX5_odds_102])
def bX5_hears_0 : ms_B := [(0, .iload_n 1, 1, (0, 1, 0, 0, [], 0)), (1, .iconst 0, 1, (0, 0, 0, 0, [], 0)), (2, .iconst 1, 1, (1, 0, 0, 0, [], 0)), (3, .invokestatic 74, 3, (0, 91, 3, 0, [], 776)), (6, .ifCond .eq 28, 3, (0, 1, 0, 0, [], 0)), (9, .aload_n 0, 1, (0, 0, 0, 0, [], 0)), (10, .iload_n 2, 1, (0, 2, 0, 0, [], 0)), (11, .invokevirtual 176, 3, (0, 94, 2, 6, [], 835)), (14, .ifCond .eq 20, 3, (0, 1, 0, 0, [], 0)), (17, .iload_n 3, 1, (0, 3, 0, 0, [], 0)), (18, .invokestatic 189, 3, (0, 95, 1, 0, [], 875)), (21, .ifCond .eq 13, 3, (0, 1, 0, 0, [], 0)), (24, .iload 4, 2, (0, 4, 0, 0, [], 0)), (26, .iconst 0, 1, (0, 0, 0, 0, [], 0)), (27, .iconst 1, 1, (1, 0, 0, 0, [], 0)), (28, .invokestatic 74, 3, (0, 91, 3, 0, [], 776)), (31, .ifCond .ne 5, 3, (0, 2, 0, 0, [], 0)), (34, .nop, 1, (0, 1, 0, 0, [], 0))]
def bX5_hears_1 : ms_B := [(34, .iconst (-1), 1, (-1, 0, 0, 0, [], 0)), (35, .ireturn, 1, (0, 0, 0, 0, [], 0))]
def bX5_hears_2 : ms_B := [(36, .aload_n 0, 1, (0, 0, 0, 0, [], 0)), (37, .getfield 149, 3, (14, 5, 0, 0, [], 674)), (40, .bipush 6, 2, (6, 0, 0, 0, [], 0)), (42, .if_icmp .ne 6, 3, (0, 3, 0, 0, [], 0)), (45, .bipush (-3), 2, (-3, 0, 0, 0, [], 0)), (47, .ireturn, 1, (0, 0, 0, 0, [], 0))]
def bX5_hears_3 : ms_B := [(48, .iconst 4, 1, (4, 0, 0, 0, [], 0)), (49, .aload_n 0, 1, (0, 0, 0, 0, [], 0)), (50, .getfield 149, 3, (14, 5, 0, 0, [], 674)), (53, .imul, 1, (0, 0, 0, 0, [], 0)), (54, .istore 5, 2, (0, 5, 0, 0, [], 0)), (56, .aload_n 0, 1, (0, 0, 0, 0, [], 0)), (57, .getfield 38, 3, (15, 5, 3, 0, [], 675)), (60, .iload 5, 2, (0, 5, 0, 0, [], 0)), (62, .iload_n 1, 1, (0, 1, 0, 0, [], 0)), (63, .iastore, 1, (0, 0, 0, 0, [], 0)), (64, .aload_n 0, 1, (0, 0, 0, 0, [], 0)), (65, .getfield 38, 3, (15, 5, 3, 0, [], 675)), (68, .iload 5, 2, (0, 5, 0, 0, [], 0)), (70, .iconst 1, 1, (1, 0, 0, 0, [], 0)), (71, .iadd, 1, (0, 0, 0, 0, [], 0)), (72, .iload_n 2, 1, (0, 2, 0, 0, [], 0)), (73, .iastore, 1, (0, 0, 0, 0, [], 0)), (74, .aload_n 0, 1, (0, 0, 0, 0, [], 0)), (75, .getfield 38, 3, (15, 5, 3, 0, [], 675)), (78, .iload 5, 2, (0, 5, 0, 0, [], 0)), (80, .iconst 2, 1, (2, 0, 0, 0, [], 0)), (81, .iadd, 1, (0, 0, 0, 0, [], 0)), (82, .iload_n 3, 1, (0, 3, 0, 0, [], 0)), (83, .iastore, 1, (0, 0, 0, 0, [], 0)), (84, .aload_n 0, 1, (0, 0, 0, 0, [], 0)), (85, .getfield 38, 3, (15, 5, 3, 0, [], 675)), (88, .iload 5, 2, (0, 5, 0, 0, [], 0)), (90, .iconst 3, 1, (3, 0, 0, 0, [], 0)), (91, .iadd, 1, (0, 0, 0, 0, [], 0)), (92, .iload 4, 2, (0, 4, 0, 0, [], 0)), (94, .iastore, 1, (0, 0, 0, 0, [], 0)), (95, .aload_n 0, 1, (0, 0, 0, 0, [], 0)), (96, .dup, 1, (0, 0, 0, 0, [], 0)), (97, .getfield 149, 3, (14, 5, 0, 0, [], 674)), (100, .iconst 1, 1, (1, 0, 0, 0, [], 0)), (101, .iadd, 1, (0, 0, 0, 0, [], 0)), (102, .putfield 149, 3, (14, 5, 0, 0, [], 674)), (105, .aload_n 0, 1, (0, 0, 0, 0, [], 0)), (106, .getfield 149, 3, (14, 5, 0, 0, [], 674)), (109, .ireturn, 1, (0, 0, 0, 0, [], 0))]
def MX5_hears : ms_M := (yX5_hears, cX5_hears, 6, (some .int), (0, 0), (0, 5), [1000, 998, 999, 83], [bX5_hears_0, bX5_hears_1, bX5_hears_2, bX5_hears_3], [])
def bX5_forget_0 : ms_B := [(0, .aload_n 0, 1, (0, 0, 0, 0, [], 0)), (1, .getfield 149, 3, (14, 5, 0, 0, [], 674)), (4, .istore_n 1, 1, (0, 1, 0, 0, [], 0)), (5, .aload_n 0, 1, (0, 0, 0, 0, [], 0)), (6, .iconst 0, 1, (0, 0, 0, 0, [], 0)), (7, .putfield 149, 3, (14, 5, 0, 0, [], 674)), (10, .iload_n 1, 1, (0, 1, 0, 0, [], 0)), (11, .ireturn, 1, (0, 0, 0, 0, [], 0))]
def MX5_forget : ms_M := (yX5_forget, cX5_forget, 2, (some .int), (0, 0), (0, 1), [1004, 1002, 1003, 83], [bX5_forget_0], [])
def bX5_says_0 : ms_B := [(0, .aload_n 0, 1, (0, 0, 0, 0, [], 0)), (1, .iload_n 1, 1, (0, 1, 0, 0, [], 0)), (2, .iload_n 3, 1, (0, 3, 0, 0, [], 0)), (3, .iload 4, 2, (0, 4, 0, 0, [], 0)), (5, .invokevirtual 162, 3, (0, 111, 4, 6, [], 859)), (8, .aload_n 0, 1, (0, 0, 0, 0, [], 0)), (9, .getfield 13, 3, (4, 5, 3, 0, [], 664)), (12, .iload_n 2, 1, (0, 2, 0, 0, [], 0)), (13, .iaload, 1, (0, 0, 0, 0, [], 0)), (14, .if_icmp .gt 7, 3, (0, 1, 0, 0, [], 0)), (17, .iconst 1, 1, (1, 0, 0, 0, [], 0)), (18, .goto 4, 3, (0, 2, 0, 0, [], 0))]
def bX5_says_1 : ms_B := [(21, .iconst 0, 1, (0, 0, 0, 0, [], 0)), (22, .nop, 1, (0, 2, 0, 0, [], 0))]
def bX5_says_2 : ms_B := [(22, .ireturn, 1, (0, 0, 1, 0, [], 0))]
def MX5_says : ms_M := (yX5_says, cX5_says, 5, (some .boolean), (0, 0), (0, 5), [1016, 1015, 75, 83], [bX5_says_0, bX5_says_1, bX5_says_2], [])
def bX5_isSo_0 : ms_B := [(0, .iconst 1, 1, (1, 0, 0, 0, [], 0)), (1, .istore_n 2, 1, (0, 2, 0, 0, [], 0)), (2, .iconst 0, 1, (0, 0, 0, 0, [], 0)), (3, .istore_n 3, 1, (0, 3, 0, 0, [], 0)), (4, .nop, 1, (0, 100, 0, 0, [], 0))]
def bX5_isSo_1 : ms_B := [(68, .iconst 0, 1, (0, 0, 0, 0, [], 0)), (69, .nop, 1, (0, 2, 0, 0, [], 0))]
def bX5_isSo_2 : ms_B := [(69, .if_icmp .ne 7, 3, (0, 3, 0, 0, [], 0)), (72, .iconst 1, 1, (1, 0, 0, 0, [], 0)), (73, .goto 4, 3, (0, 4, 0, 0, [], 0))]
def bX5_isSo_3 : ms_B := [(76, .iconst 0, 1, (0, 0, 0, 0, [], 0)), (77, .nop, 1, (0, 4, 0, 0, [], 0))]
def bX5_isSo_4 : ms_B := [(77, .istore_n 2, 1, (0, 2, 0, 0, [], 0)), (78, .iinc 3 1, 3, (1, 3, 0, 0, [], 0)), (81, .goto (-77), 3, (0, 100, 0, 0, [], 0))]
def bX5_isSo_5 : ms_B := [(84, .iload_n 2, 1, (0, 2, 0, 0, [], 0)), (85, .ireturn, 1, (0, 0, 1, 0, [], 0))]
def bX5_isSo_100 : ms_B := [(4, .iload_n 3, 1, (0, 3, 0, 0, [], 0)), (5, .aload_n 0, 1, (0, 0, 0, 0, [], 0)), (6, .getfield 149, 3, (14, 5, 0, 0, [], 674)), (9, .if_icmp .ge 75, 3, (0, 5, 0, 0, [], 0)), (12, .iconst 4, 1, (4, 0, 0, 0, [], 0)), (13, .iload_n 3, 1, (0, 3, 0, 0, [], 0)), (14, .imul, 1, (0, 0, 0, 0, [], 0)), (15, .istore 4, 2, (0, 4, 0, 0, [], 0)), (17, .iload_n 2, 1, (0, 2, 0, 0, [], 0)), (18, .ifCond .eq 58, 3, (0, 3, 0, 0, [], 0)), (21, .aload_n 0, 1, (0, 0, 0, 0, [], 0)), (22, .iload_n 1, 1, (0, 1, 0, 0, [], 0)), (23, .aload_n 0, 1, (0, 0, 0, 0, [], 0)), (24, .getfield 38, 3, (15, 5, 3, 0, [], 675)), (27, .iload 4, 2, (0, 4, 0, 0, [], 0)), (29, .iaload, 1, (0, 0, 0, 0, [], 0)), (30, .aload_n 0, 1, (0, 0, 0, 0, [], 0)), (31, .getfield 38, 3, (15, 5, 3, 0, [], 675)), (34, .iload 4, 2, (0, 4, 0, 0, [], 0)), (36, .iconst 1, 1, (1, 0, 0, 0, [], 0)), (37, .iadd, 1, (0, 0, 0, 0, [], 0)), (38, .iaload, 1, (0, 0, 0, 0, [], 0)), (39, .aload_n 0, 1, (0, 0, 0, 0, [], 0)), (40, .getfield 38, 3, (15, 5, 3, 0, [], 675)), (43, .iload 4, 2, (0, 4, 0, 0, [], 0)), (45, .iconst 2, 1, (2, 0, 0, 0, [], 0)), (46, .iadd, 1, (0, 0, 0, 0, [], 0)), (47, .iaload, 1, (0, 0, 0, 0, [], 0)), (48, .invokevirtual 246, 3, (0, 151, 5, 6, [], 1013)), (51, .aload_n 0, 1, (0, 0, 0, 0, [], 0)), (52, .getfield 38, 3, (15, 5, 3, 0, [], 675)), (55, .iload 4, 2, (0, 4, 0, 0, [], 0)), (57, .iconst 3, 1, (3, 0, 0, 0, [], 0)), (58, .iadd, 1, (0, 0, 0, 0, [], 0)), (59, .iaload, 1, (0, 0, 0, 0, [], 0)), (60, .iconst 1, 1, (1, 0, 0, 0, [], 0)), (61, .if_icmp .ne 7, 3, (0, 1, 0, 0, [], 0)), (64, .iconst 1, 1, (1, 0, 0, 0, [], 0)), (65, .goto 4, 3, (0, 2, 0, 0, [], 0))]
def MX5_isSo : ms_M := (yX5_isSo, cX5_isSo, 5, (some .boolean), (0, 0), (0, 2), [1012, 1011, 74, 83], [bX5_isSo_0, bX5_isSo_1, bX5_isSo_2, bX5_isSo_3, bX5_isSo_4, bX5_isSo_5], [bX5_isSo_100])
def bX5_warmth_0 : ms_B := [(0, .iload_n 1, 1, (0, 1, 0, 0, [], 0)), (1, .iconst 0, 1, (0, 0, 0, 0, [], 0)), (2, .iconst 1, 1, (1, 0, 0, 0, [], 0)), (3, .invokestatic 74, 3, (0, 91, 3, 0, [], 776)), (6, .ifCond .ne 5, 3, (0, 1, 0, 0, [], 0)), (9, .iconst (-1), 1, (-1, 0, 0, 0, [], 0)), (10, .ireturn, 1, (0, 0, 0, 0, [], 0))]
def bX5_warmth_1 : ms_B := [(11, .iconst 0, 1, (0, 0, 0, 0, [], 0)), (12, .istore_n 2, 1, (0, 2, 0, 0, [], 0)), (13, .bipush (-9), 2, (-9, 0, 0, 0, [], 0)), (15, .istore_n 3, 1, (0, 3, 0, 0, [], 0)), (16, .bipush 39, 2, (39, 0, 0, 0, [], 0)), (18, .istore 4, 2, (0, 4, 0, 0, [], 0)), (20, .nop, 1, (0, 100, 0, 0, [], 0))]
def bX5_warmth_2 : ms_B := [(43, .iconst 0, 1, (0, 0, 0, 0, [], 0)), (44, .nop, 1, (0, 3, 0, 0, [], 0))]
def bX5_warmth_3 : ms_B := [(44, .iadd, 1, (0, 0, 0, 0, [], 0)), (45, .istore_n 2, 1, (0, 2, 0, 0, [], 0)), (46, .iload 5, 2, (0, 5, 0, 0, [], 0)), (48, .ifCond .eq 8, 3, (0, 4, 0, 0, [], 0)), (51, .iload 4, 2, (0, 4, 0, 0, [], 0)), (53, .goto 4, 3, (0, 5, 0, 0, [], 0))]
def bX5_warmth_4 : ms_B := [(56, .iload_n 3, 1, (0, 3, 0, 0, [], 0)), (57, .nop, 1, (0, 5, 0, 0, [], 0))]
def bX5_warmth_5 : ms_B := [(57, .istore_n 3, 1, (0, 3, 0, 0, [], 0)), (58, .iinc 4 (-1), 3, (-1, 4, 0, 0, [], 0)), (61, .goto (-41), 3, (0, 100, 0, 0, [], 0))]
def bX5_warmth_6 : ms_B := [(64, .iload_n 1, 1, (0, 1, 0, 0, [], 0)), (65, .ifCond .ne 7, 3, (0, 7, 0, 0, [], 0)), (68, .iload_n 2, 1, (0, 2, 0, 0, [], 0)), (69, .goto 4, 3, (0, 8, 0, 0, [], 0))]
def bX5_warmth_7 : ms_B := [(72, .iload_n 3, 1, (0, 3, 0, 0, [], 0)), (73, .nop, 1, (0, 8, 0, 0, [], 0))]
def bX5_warmth_8 : ms_B := [(73, .ireturn, 1, (0, 0, 0, 0, [], 0))]
def bX5_warmth_100 : ms_B := [(20, .iload 4, 2, (0, 4, 0, 0, [], 0)), (22, .ifCond .lt 42, 3, (0, 6, 0, 0, [], 0)), (25, .aload_n 0, 1, (0, 0, 0, 0, [], 0)), (26, .iload 4, 2, (0, 4, 0, 0, [], 0)), (28, .invokevirtual 250, 3, (0, 152, 2, 6, [], 1009)), (31, .istore 5, 2, (0, 5, 0, 0, [], 0)), (33, .iload_n 2, 1, (0, 2, 0, 0, [], 0)), (34, .iload 5, 2, (0, 5, 0, 0, [], 0)), (36, .ifCond .eq 7, 3, (0, 2, 0, 0, [], 0)), (39, .iconst 1, 1, (1, 0, 0, 0, [], 0)), (40, .goto 4, 3, (0, 3, 0, 0, [], 0))]
def MX5_warmth : ms_M := (yX5_warmth, cX5_warmth, 6, (some .int), (0, 0), (0, 2), [1008, 1006, 1007, 83], [bX5_warmth_0, bX5_warmth_1, bX5_warmth_2, bX5_warmth_3, bX5_warmth_4, bX5_warmth_5, bX5_warmth_6, bX5_warmth_7, bX5_warmth_8], [bX5_warmth_100])
def bX5_ask_0 : ms_B := [(0, .aload_n 0, 1, (0, 0, 0, 0, [], 0)), (1, .iconst 0, 1, (0, 0, 0, 0, [], 0)), (2, .invokevirtual 253, 3, (0, 153, 2, 6, [], 1021)), (5, .istore_n 1, 1, (0, 1, 0, 0, [], 0)), (6, .bipush (-9), 2, (-9, 0, 0, 0, [], 0)), (8, .istore_n 2, 1, (0, 2, 0, 0, [], 0)), (9, .iload_n 1, 1, (0, 1, 0, 0, [], 0)), (10, .istore_n 3, 1, (0, 3, 0, 0, [], 0)), (11, .iconst 0, 1, (0, 0, 0, 0, [], 0)), (12, .istore 4, 2, (0, 4, 0, 0, [], 0)), (14, .nop, 1, (0, 100, 0, 0, [], 0))]
def bX5_ask_1 : ms_B := [(85, .iconst 0, 1, (0, 0, 0, 0, [], 0)), (86, .nop, 1, (0, 2, 0, 0, [], 0))]
def bX5_ask_2 : ms_B := [(86, .iadd, 1, (0, 0, 0, 0, [], 0)), (87, .istore 7, 2, (0, 7, 0, 0, [], 0)), (89, .iinc 8 1, 3, (1, 8, 0, 0, [], 0)), (92, .goto (-44), 3, (0, 103, 0, 0, [], 0))]
def bX5_ask_3 : ms_B := [(95, .iload 7, 2, (0, 7, 0, 0, [], 0)), (97, .iload_n 1, 1, (0, 1, 0, 0, [], 0)), (98, .iload 7, 2, (0, 7, 0, 0, [], 0)), (100, .isub, 1, (0, 0, 0, 0, [], 0)), (101, .if_icmp .le 8, 3, (0, 4, 0, 0, [], 0)), (104, .iload 7, 2, (0, 7, 0, 0, [], 0)), (106, .goto 7, 3, (0, 5, 0, 0, [], 0))]
def bX5_ask_4 : ms_B := [(109, .iload_n 1, 1, (0, 1, 0, 0, [], 0)), (110, .iload 7, 2, (0, 7, 0, 0, [], 0)), (112, .isub, 1, (0, 0, 0, 0, [], 0)), (113, .nop, 1, (0, 5, 0, 0, [], 0))]
def bX5_ask_5 : ms_B := [(113, .istore 8, 2, (0, 8, 0, 0, [], 0)), (115, .iload 8, 2, (0, 8, 0, 0, [], 0)), (117, .iload_n 3, 1, (0, 3, 0, 0, [], 0)), (118, .if_icmp .ge 20, 3, (0, 6, 0, 0, [], 0)), (121, .bipush 100, 2, (100, 0, 0, 0, [], 0)), (123, .iload 4, 2, (0, 4, 0, 0, [], 0)), (125, .imul, 1, (0, 0, 0, 0, [], 0)), (126, .bipush 10, 2, (10, 0, 0, 0, [], 0)), (128, .iload 5, 2, (0, 5, 0, 0, [], 0)), (130, .imul, 1, (0, 0, 0, 0, [], 0)), (131, .iadd, 1, (0, 0, 0, 0, [], 0)), (132, .iload 6, 2, (0, 6, 0, 0, [], 0)), (134, .iadd, 1, (0, 0, 0, 0, [], 0)), (135, .goto 4, 3, (0, 7, 0, 0, [], 0))]
def bX5_ask_6 : ms_B := [(138, .iload_n 2, 1, (0, 2, 0, 0, [], 0)), (139, .nop, 1, (0, 7, 0, 0, [], 0))]
def bX5_ask_7 : ms_B := [(139, .istore_n 2, 1, (0, 2, 0, 0, [], 0)), (140, .iload 8, 2, (0, 8, 0, 0, [], 0)), (142, .iload_n 3, 1, (0, 3, 0, 0, [], 0)), (143, .if_icmp .ge 8, 3, (0, 8, 0, 0, [], 0)), (146, .iload 8, 2, (0, 8, 0, 0, [], 0)), (148, .goto 4, 3, (0, 9, 0, 0, [], 0))]
def bX5_ask_8 : ms_B := [(151, .iload_n 3, 1, (0, 3, 0, 0, [], 0)), (152, .nop, 1, (0, 9, 0, 0, [], 0))]
def bX5_ask_9 : ms_B := [(152, .istore_n 3, 1, (0, 3, 0, 0, [], 0)), (153, .iinc 6 1, 3, (1, 6, 0, 0, [], 0)), (156, .goto (-121), 3, (0, 102, 0, 0, [], 0))]
def bX5_ask_10 : ms_B := [(159, .iinc 5 1, 3, (1, 5, 0, 0, [], 0)), (162, .goto (-139), 3, (0, 101, 0, 0, [], 0))]
def bX5_ask_11 : ms_B := [(165, .iinc 4 1, 3, (1, 4, 0, 0, [], 0)), (168, .goto (-154), 3, (0, 100, 0, 0, [], 0))]
def bX5_ask_12 : ms_B := [(171, .iload_n 2, 1, (0, 2, 0, 0, [], 0)), (172, .ireturn, 1, (0, 0, 0, 0, [], 0))]
def bX5_ask_100 : ms_B := [(14, .iload 4, 2, (0, 4, 0, 0, [], 0)), (16, .iconst 2, 1, (2, 0, 0, 0, [], 0)), (17, .if_icmp .ge 154, 3, (0, 12, 0, 0, [], 0)), (20, .iconst 0, 1, (0, 0, 0, 0, [], 0)), (21, .istore 5, 2, (0, 5, 0, 0, [], 0)), (23, .nop, 1, (0, 101, 0, 0, [], 0))]
def bX5_ask_101 : ms_B := [(23, .iload 5, 2, (0, 5, 0, 0, [], 0)), (25, .aload_n 0, 1, (0, 0, 0, 0, [], 0)), (26, .getfield 71, 3, (0, 5, 0, 0, [], 660)), (29, .if_icmp .ge 136, 3, (0, 11, 0, 0, [], 0)), (32, .iconst 0, 1, (0, 0, 0, 0, [], 0)), (33, .istore 6, 2, (0, 6, 0, 0, [], 0)), (35, .nop, 1, (0, 102, 0, 0, [], 0))]
def bX5_ask_102 : ms_B := [(35, .iload 6, 2, (0, 6, 0, 0, [], 0)), (37, .bipush 8, 2, (8, 0, 0, 0, [], 0)), (39, .if_icmp .ge 120, 3, (0, 10, 0, 0, [], 0)), (42, .iconst 0, 1, (0, 0, 0, 0, [], 0)), (43, .istore 7, 2, (0, 7, 0, 0, [], 0)), (45, .iconst 0, 1, (0, 0, 0, 0, [], 0)), (46, .istore 8, 2, (0, 8, 0, 0, [], 0)), (48, .nop, 1, (0, 103, 0, 0, [], 0))]
def bX5_ask_103 : ms_B := [(48, .iload 8, 2, (0, 8, 0, 0, [], 0)), (50, .bipush 40, 2, (40, 0, 0, 0, [], 0)), (52, .if_icmp .ge 43, 3, (0, 3, 0, 0, [], 0)), (55, .iload 7, 2, (0, 7, 0, 0, [], 0)), (57, .aload_n 0, 1, (0, 0, 0, 0, [], 0)), (58, .iload 8, 2, (0, 8, 0, 0, [], 0)), (60, .invokevirtual 250, 3, (0, 152, 2, 6, [], 1009)), (63, .ifCond .eq 22, 3, (0, 1, 0, 0, [], 0)), (66, .aload_n 0, 1, (0, 0, 0, 0, [], 0)), (67, .iload 8, 2, (0, 8, 0, 0, [], 0)), (69, .iload 4, 2, (0, 4, 0, 0, [], 0)), (71, .iload 5, 2, (0, 5, 0, 0, [], 0)), (73, .iload 6, 2, (0, 6, 0, 0, [], 0)), (75, .invokevirtual 246, 3, (0, 151, 5, 6, [], 1013)), (78, .ifCond .eq 7, 3, (0, 1, 0, 0, [], 0)), (81, .iconst 1, 1, (1, 0, 0, 0, [], 0)), (82, .goto 4, 3, (0, 2, 0, 0, [], 0))]
def MX5_ask : ms_M := (yX5_ask, cX5_ask, 9, (some .int), (0, 0), (0, 1), [1020, 1018, 1019, 83], [bX5_ask_0, bX5_ask_1, bX5_ask_2, bX5_ask_3, bX5_ask_4, bX5_ask_5, bX5_ask_6, bX5_ask_7, bX5_ask_8, bX5_ask_9, bX5_ask_10, bX5_ask_11, bX5_ask_12], [bX5_ask_100, bX5_ask_101, bX5_ask_102, bX5_ask_103])
def bX5_marked_0 : ms_B := [(0, .aload_n 0, 1, (0, 0, 0, 0, [], 0)), (1, .getfield 17, 3, (5, 5, 3, 0, [], 665)), (4, .iload_n 2, 1, (0, 2, 0, 0, [], 0)), (5, .iaload, 1, (0, 0, 0, 0, [], 0)), (6, .istore_n 3, 1, (0, 3, 0, 0, [], 0)), (7, .aload_n 0, 1, (0, 0, 0, 0, [], 0)), (8, .dup, 1, (0, 0, 0, 0, [], 0)), (9, .getfield 256, 3, (16, 5, 2, 0, [], 676)), (12, .lconst 1, 1, (1, 0, 0, 0, [], 0)), (13, .ladd, 1, (0, 0, 0, 0, [], 0)), (14, .putfield 256, 3, (16, 5, 2, 0, [], 676)), (17, .iload_n 1, 1, (0, 1, 0, 0, [], 0)), (18, .iconst 1, 1, (1, 0, 0, 0, [], 0)), (19, .if_icmp .eq 8, 3, (0, 1, 0, 0, [], 0)), (22, .iload_n 1, 1, (0, 1, 0, 0, [], 0)), (23, .iconst 3, 1, (3, 0, 0, 0, [], 0)), (24, .if_icmp .ne 24, 3, (0, 2, 0, 0, [], 0)), (27, .nop, 1, (0, 1, 0, 0, [], 0))]
def bX5_marked_1 : ms_B := [(27, .iload_n 3, 1, (0, 3, 0, 0, [], 0)), (28, .aload_n 0, 1, (0, 0, 0, 0, [], 0)), (29, .getfield 20, 3, (6, 5, 3, 0, [], 666)), (32, .iload_n 2, 1, (0, 2, 0, 0, [], 0)), (33, .iaload, 1, (0, 0, 0, 0, [], 0)), (34, .iadd, 1, (0, 0, 0, 0, [], 0)), (35, .istore_n 3, 1, (0, 3, 0, 0, [], 0)), (36, .aload_n 0, 1, (0, 0, 0, 0, [], 0)), (37, .dup, 1, (0, 0, 0, 0, [], 0)), (38, .getfield 256, 3, (16, 5, 2, 0, [], 676)), (41, .ldc2_w 260, 3, (10, 0, 0, 0, [], 1030)), (44, .ladd, 1, (0, 0, 0, 0, [], 0)), (45, .putfield 256, 3, (16, 5, 2, 0, [], 676)), (48, .nop, 1, (0, 2, 0, 0, [], 0))]
def bX5_marked_2 : ms_B := [(48, .iload_n 1, 1, (0, 1, 0, 0, [], 0)), (49, .iconst 2, 1, (2, 0, 0, 0, [], 0)), (50, .if_icmp .eq 8, 3, (0, 3, 0, 0, [], 0)), (53, .iload_n 1, 1, (0, 1, 0, 0, [], 0)), (54, .iconst 4, 1, (4, 0, 0, 0, [], 0)), (55, .if_icmp .ne 24, 3, (0, 4, 0, 0, [], 0)), (58, .nop, 1, (0, 3, 0, 0, [], 0))]
def bX5_marked_3 : ms_B := [(58, .iload_n 3, 1, (0, 3, 0, 0, [], 0)), (59, .aload_n 0, 1, (0, 0, 0, 0, [], 0)), (60, .getfield 23, 3, (7, 5, 3, 0, [], 667)), (63, .iload_n 2, 1, (0, 2, 0, 0, [], 0)), (64, .iaload, 1, (0, 0, 0, 0, [], 0)), (65, .isub, 1, (0, 0, 0, 0, [], 0)), (66, .istore_n 3, 1, (0, 3, 0, 0, [], 0)), (67, .aload_n 0, 1, (0, 0, 0, 0, [], 0)), (68, .dup, 1, (0, 0, 0, 0, [], 0)), (69, .getfield 256, 3, (16, 5, 2, 0, [], 676)), (72, .ldc2_w 262, 3, (100, 0, 0, 0, [], 1031)), (75, .ladd, 1, (0, 0, 0, 0, [], 0)), (76, .putfield 256, 3, (16, 5, 2, 0, [], 676)), (79, .nop, 1, (0, 4, 0, 0, [], 0))]
def bX5_marked_4 : ms_B := [(79, .iload_n 1, 1, (0, 1, 0, 0, [], 0)), (80, .iconst 3, 1, (3, 0, 0, 0, [], 0)), (81, .if_icmp .ne 19, 3, (0, 5, 0, 0, [], 0)), (84, .iload_n 3, 1, (0, 3, 0, 0, [], 0)), (85, .iconst 2, 1, (2, 0, 0, 0, [], 0)), (86, .imul, 1, (0, 0, 0, 0, [], 0)), (87, .istore_n 3, 1, (0, 3, 0, 0, [], 0)), (88, .aload_n 0, 1, (0, 0, 0, 0, [], 0)), (89, .dup, 1, (0, 0, 0, 0, [], 0)), (90, .getfield 256, 3, (16, 5, 2, 0, [], 676)), (93, .ldc2_w 264, 3, (1000, 0, 0, 0, [], 1032)), (96, .ladd, 1, (0, 0, 0, 0, [], 0)), (97, .putfield 256, 3, (16, 5, 2, 0, [], 676)), (100, .nop, 1, (0, 5, 0, 0, [], 0))]
def bX5_marked_5 : ms_B := [(100, .iload_n 1, 1, (0, 1, 0, 0, [], 0)), (101, .iconst 4, 1, (4, 0, 0, 0, [], 0)), (102, .if_icmp .ne 19, 3, (0, 6, 0, 0, [], 0)), (105, .iload_n 3, 1, (0, 3, 0, 0, [], 0)), (106, .iload_n 2, 1, (0, 2, 0, 0, [], 0)), (107, .iadd, 1, (0, 0, 0, 0, [], 0)), (108, .istore_n 3, 1, (0, 3, 0, 0, [], 0)), (109, .aload_n 0, 1, (0, 0, 0, 0, [], 0)), (110, .dup, 1, (0, 0, 0, 0, [], 0)), (111, .getfield 256, 3, (16, 5, 2, 0, [], 676)), (114, .ldc2_w 266, 3, (10000, 0, 0, 0, [], 1033)), (117, .ladd, 1, (0, 0, 0, 0, [], 0)), (118, .putfield 256, 3, (16, 5, 2, 0, [], 676)), (121, .nop, 1, (0, 6, 0, 0, [], 0))]
def bX5_marked_6 : ms_B := [(121, .iload_n 1, 1, (0, 1, 0, 0, [], 0)), (122, .iconst 5, 1, (5, 0, 0, 0, [], 0)), (123, .if_icmp .ne 23, 3, (0, 7, 0, 0, [], 0)), (126, .iload_n 3, 1, (0, 3, 0, 0, [], 0)), (127, .aload_n 0, 1, (0, 0, 0, 0, [], 0)), (128, .iload_n 2, 1, (0, 2, 0, 0, [], 0)), (129, .invokevirtual 180, 3, (0, 115, 2, 6, [], 839)), (132, .iadd, 1, (0, 0, 0, 0, [], 0)), (133, .istore_n 3, 1, (0, 3, 0, 0, [], 0)), (134, .aload_n 0, 1, (0, 0, 0, 0, [], 0)), (135, .dup, 1, (0, 0, 0, 0, [], 0)), (136, .getfield 256, 3, (16, 5, 2, 0, [], 676)), (139, .ldc2_w 268, 3, (100000, 0, 0, 0, [], 1034)), (142, .ladd, 1, (0, 0, 0, 0, [], 0)), (143, .putfield 256, 3, (16, 5, 2, 0, [], 676)), (146, .nop, 1, (0, 7, 0, 0, [], 0))]
def bX5_marked_7 : ms_B := [(146, .iload_n 3, 1, (0, 3, 0, 0, [], 0)), (147, .ireturn, 1, (0, 0, 0, 0, [], 0))]
def MX5_marked : ms_M := (yX5_marked, cX5_marked, 4, (some .int), (0, 0), (0, 3), [1029, 1028, 76, 83], [bX5_marked_0, bX5_marked_1, bX5_marked_2, bX5_marked_3, bX5_marked_4, bX5_marked_5, bX5_marked_6, bX5_marked_7], [])
def bX5_mark_0 : ms_B := [(0, .iload_n 1, 1, (0, 1, 0, 0, [], 0)), (1, .iconst 0, 1, (0, 0, 0, 0, [], 0)), (2, .iconst 5, 1, (5, 0, 0, 0, [], 0)), (3, .invokestatic 74, 3, (0, 91, 3, 0, [], 776)), (6, .ifCond .eq 20, 3, (0, 1, 0, 0, [], 0)), (9, .aload_n 0, 1, (0, 0, 0, 0, [], 0)), (10, .iload_n 2, 1, (0, 2, 0, 0, [], 0)), (11, .invokevirtual 176, 3, (0, 94, 2, 6, [], 835)), (14, .ifCond .eq 12, 3, (0, 1, 0, 0, [], 0)), (17, .aload_n 0, 1, (0, 0, 0, 0, [], 0)), (18, .iload_n 1, 1, (0, 1, 0, 0, [], 0)), (19, .iload_n 2, 1, (0, 2, 0, 0, [], 0)), (20, .invokevirtual 270, 3, (0, 155, 3, 6, [], 1026)), (23, .goto 5, 3, (0, 2, 0, 0, [], 0))]
def bX5_mark_1 : ms_B := [(26, .ldc 192, 2, (-1000000, 0, 0, 0, [], 878)), (28, .nop, 1, (0, 2, 0, 0, [], 0))]
def bX5_mark_2 : ms_B := [(28, .ireturn, 1, (0, 0, 0, 0, [], 0))]
def MX5_mark : ms_M := (yX5_mark, cX5_mark, 3, (some .int), (0, 0), (0, 3), [1025, 1023, 1024, 83], [bX5_mark_0, bX5_mark_1, bX5_mark_2], [])
def bX5_keep_0 : ms_B := [(0, .iload_n 1, 1, (0, 1, 0, 0, [], 0)), (1, .iconst 0, 1, (0, 0, 0, 0, [], 0)), (2, .iconst 1, 1, (1, 0, 0, 0, [], 0)), (3, .invokestatic 74, 3, (0, 91, 3, 0, [], 776)), (6, .ifCond .ne 5, 3, (0, 1, 0, 0, [], 0)), (9, .iconst (-1), 1, (-1, 0, 0, 0, [], 0)), (10, .ireturn, 1, (0, 0, 0, 0, [], 0))]
def bX5_keep_1 : ms_B := [(11, .bipush 112, 2, (112, 0, 0, 0, [], 0)), (13, .iload_n 1, 1, (0, 1, 0, 0, [], 0)), (14, .imul, 1, (0, 0, 0, 0, [], 0)), (15, .istore_n 2, 1, (0, 2, 0, 0, [], 0)), (16, .aload_n 0, 1, (0, 0, 0, 0, [], 0)), (17, .getfield 68, 3, (36, 5, 3, 0, [], 696)), (20, .iload_n 2, 1, (0, 2, 0, 0, [], 0)), (21, .iconst 1, 1, (1, 0, 0, 0, [], 0)), (22, .iastore, 1, (0, 0, 0, 0, [], 0)), (23, .aload_n 0, 1, (0, 0, 0, 0, [], 0)), (24, .getfield 68, 3, (36, 5, 3, 0, [], 696)), (27, .iload_n 2, 1, (0, 2, 0, 0, [], 0)), (28, .iconst 1, 1, (1, 0, 0, 0, [], 0)), (29, .iadd, 1, (0, 0, 0, 0, [], 0)), (30, .aload_n 0, 1, (0, 0, 0, 0, [], 0)), (31, .getfield 152, 3, (32, 5, 0, 0, [], 692)), (34, .iastore, 1, (0, 0, 0, 0, [], 0)), (35, .aload_n 0, 1, (0, 0, 0, 0, [], 0)), (36, .aload_n 0, 1, (0, 0, 0, 0, [], 0)), (37, .getfield 68, 3, (36, 5, 3, 0, [], 696)), (40, .iload_n 2, 1, (0, 2, 0, 0, [], 0)), (41, .iconst 2, 1, (2, 0, 0, 0, [], 0)), (42, .iadd, 1, (0, 0, 0, 0, [], 0)), (43, .invokevirtual 196, 3, (0, 123, 3, 6, [], 895)), (46, .iconst 0, 1, (0, 0, 0, 0, [], 0)), (47, .istore_n 3, 1, (0, 3, 0, 0, [], 0)), (48, .nop, 1, (0, 100, 0, 0, [], 0))]
def bX5_keep_2 : ms_B := [(77, .aload_n 0, 1, (0, 0, 0, 0, [], 0)), (78, .getfield 144, 3, (11, 5, 0, 0, [], 671)), (81, .ireturn, 1, (0, 0, 0, 0, [], 0))]
def bX5_keep_100 : ms_B := [(48, .iload_n 3, 1, (0, 3, 0, 0, [], 0)), (49, .bipush 100, 2, (100, 0, 0, 0, [], 0)), (51, .if_icmp .ge 26, 3, (0, 2, 0, 0, [], 0)), (54, .aload_n 0, 1, (0, 0, 0, 0, [], 0)), (55, .getfield 68, 3, (36, 5, 3, 0, [], 696)), (58, .iload_n 2, 1, (0, 2, 0, 0, [], 0)), (59, .bipush 12, 2, (12, 0, 0, 0, [], 0)), (61, .iadd, 1, (0, 0, 0, 0, [], 0)), (62, .iload_n 3, 1, (0, 3, 0, 0, [], 0)), (63, .iadd, 1, (0, 0, 0, 0, [], 0)), (64, .aload_n 0, 1, (0, 0, 0, 0, [], 0)), (65, .getfield 56, 3, (31, 5, 3, 0, [], 691)), (68, .iload_n 3, 1, (0, 3, 0, 0, [], 0)), (69, .iaload, 1, (0, 0, 0, 0, [], 0)), (70, .iastore, 1, (0, 0, 0, 0, [], 0)), (71, .iinc 3 1, 3, (1, 3, 0, 0, [], 0)), (74, .goto (-26), 3, (0, 100, 0, 0, [], 0))]
def MX5_keep : ms_M := (yX5_keep, cX5_keep, 4, (some .int), (0, 0), (0, 2), [1038, 1036, 1037, 83], [bX5_keep_0, bX5_keep_1, bX5_keep_2], [bX5_keep_100])
def bX5_back_0 : ms_B := [(0, .iload_n 1, 1, (0, 1, 0, 0, [], 0)), (1, .iconst 0, 1, (0, 0, 0, 0, [], 0)), (2, .iconst 1, 1, (1, 0, 0, 0, [], 0)), (3, .invokestatic 74, 3, (0, 91, 3, 0, [], 776)), (6, .ifCond .ne 5, 3, (0, 1, 0, 0, [], 0)), (9, .iconst (-1), 1, (-1, 0, 0, 0, [], 0)), (10, .ireturn, 1, (0, 0, 0, 0, [], 0))]
def bX5_back_1 : ms_B := [(11, .bipush 112, 2, (112, 0, 0, 0, [], 0)), (13, .iload_n 1, 1, (0, 1, 0, 0, [], 0)), (14, .imul, 1, (0, 0, 0, 0, [], 0)), (15, .istore_n 2, 1, (0, 2, 0, 0, [], 0)), (16, .aload_n 0, 1, (0, 0, 0, 0, [], 0)), (17, .getfield 68, 3, (36, 5, 3, 0, [], 696)), (20, .iload_n 2, 1, (0, 2, 0, 0, [], 0)), (21, .iaload, 1, (0, 0, 0, 0, [], 0)), (22, .ifCond .ne 6, 3, (0, 2, 0, 0, [], 0)), (25, .bipush (-2), 2, (-2, 0, 0, 0, [], 0)), (27, .ireturn, 1, (0, 0, 0, 0, [], 0))]
def bX5_back_2 : ms_B := [(28, .aload_n 0, 1, (0, 0, 0, 0, [], 0)), (29, .aload_n 0, 1, (0, 0, 0, 0, [], 0)), (30, .getfield 68, 3, (36, 5, 3, 0, [], 696)), (33, .iload_n 2, 1, (0, 2, 0, 0, [], 0)), (34, .iconst 1, 1, (1, 0, 0, 0, [], 0)), (35, .iadd, 1, (0, 0, 0, 0, [], 0)), (36, .iaload, 1, (0, 0, 0, 0, [], 0)), (37, .putfield 152, 3, (32, 5, 0, 0, [], 692)), (40, .aload_n 0, 1, (0, 0, 0, 0, [], 0)), (41, .aload_n 0, 1, (0, 0, 0, 0, [], 0)), (42, .getfield 68, 3, (36, 5, 3, 0, [], 696)), (45, .iload_n 2, 1, (0, 2, 0, 0, [], 0)), (46, .iconst 2, 1, (2, 0, 0, 0, [], 0)), (47, .iadd, 1, (0, 0, 0, 0, [], 0)), (48, .invokevirtual 206, 3, (0, 124, 3, 6, [], 919)), (51, .iconst 0, 1, (0, 0, 0, 0, [], 0)), (52, .istore_n 3, 1, (0, 3, 0, 0, [], 0)), (53, .nop, 1, (0, 100, 0, 0, [], 0))]
def bX5_back_3 : ms_B := [(82, .aload_n 0, 1, (0, 0, 0, 0, [], 0)), (83, .getfield 144, 3, (11, 5, 0, 0, [], 671)), (86, .ireturn, 1, (0, 0, 0, 0, [], 0))]
def bX5_back_100 : ms_B := [(53, .iload_n 3, 1, (0, 3, 0, 0, [], 0)), (54, .bipush 100, 2, (100, 0, 0, 0, [], 0)), (56, .if_icmp .ge 26, 3, (0, 3, 0, 0, [], 0)), (59, .aload_n 0, 1, (0, 0, 0, 0, [], 0)), (60, .getfield 56, 3, (31, 5, 3, 0, [], 691)), (63, .iload_n 3, 1, (0, 3, 0, 0, [], 0)), (64, .aload_n 0, 1, (0, 0, 0, 0, [], 0)), (65, .getfield 68, 3, (36, 5, 3, 0, [], 696)), (68, .iload_n 2, 1, (0, 2, 0, 0, [], 0)), (69, .bipush 12, 2, (12, 0, 0, 0, [], 0)), (71, .iadd, 1, (0, 0, 0, 0, [], 0)), (72, .iload_n 3, 1, (0, 3, 0, 0, [], 0)), (73, .iadd, 1, (0, 0, 0, 0, [], 0)), (74, .iaload, 1, (0, 0, 0, 0, [], 0)), (75, .iastore, 1, (0, 0, 0, 0, [], 0)), (76, .iinc 3 1, 3, (1, 3, 0, 0, [], 0)), (79, .goto (-26), 3, (0, 100, 0, 0, [], 0))]
def MX5_back : ms_M := (yX5_back, cX5_back, 4, (some .int), (0, 0), (0, 2), [1042, 1040, 1041, 83], [bX5_back_0, bX5_back_1, bX5_back_2, bX5_back_3], [bX5_back_100])
def bX5_count_0 : ms_B := [(0, .iload_n 1, 1, (0, 1, 0, 0, [], 0)), (1, .iconst 0, 1, (0, 0, 0, 0, [], 0)), (2, .bipush 6, 2, (6, 0, 0, 0, [], 0)), (4, .invokestatic 74, 3, (0, 91, 3, 0, [], 776)), (7, .ifCond .ne 5, 3, (0, 1, 0, 0, [], 0)), (10, .iconst (-1), 1, (-1, 0, 0, 0, [], 0)), (11, .ireturn, 1, (0, 0, 0, 0, [], 0))]
def bX5_count_1 : ms_B := [(12, .iload_n 1, 1, (0, 1, 0, 0, [], 0)), (13, .ifCond .ne 10, 3, (0, 2, 0, 0, [], 0)), (16, .aload_n 0, 1, (0, 0, 0, 0, [], 0)), (17, .getfield 71, 3, (0, 5, 0, 0, [], 660)), (20, .goto 67, 3, (0, 8, 0, 0, [], 0))]
def bX5_count_2 : ms_B := [(23, .iload_n 1, 1, (0, 1, 0, 0, [], 0)), (24, .iconst 1, 1, (1, 0, 0, 0, [], 0)), (25, .if_icmp .ne 10, 3, (0, 3, 0, 0, [], 0)), (28, .aload_n 0, 1, (0, 0, 0, 0, [], 0)), (29, .getfield 138, 3, (1, 5, 0, 0, [], 661)), (32, .goto 55, 3, (0, 8, 0, 0, [], 0))]
def bX5_count_3 : ms_B := [(35, .iload_n 1, 1, (0, 1, 0, 0, [], 0)), (36, .iconst 2, 1, (2, 0, 0, 0, [], 0)), (37, .if_icmp .ne 10, 3, (0, 4, 0, 0, [], 0)), (40, .aload_n 0, 1, (0, 0, 0, 0, [], 0)), (41, .getfield 141, 3, (2, 5, 0, 0, [], 662)), (44, .goto 43, 3, (0, 8, 0, 0, [], 0))]
def bX5_count_4 : ms_B := [(47, .iload_n 1, 1, (0, 1, 0, 0, [], 0)), (48, .iconst 3, 1, (3, 0, 0, 0, [], 0)), (49, .if_icmp .ne 10, 3, (0, 5, 0, 0, [], 0)), (52, .aload_n 0, 1, (0, 0, 0, 0, [], 0)), (53, .getfield 7, 3, (3, 5, 0, 0, [], 663)), (56, .goto 31, 3, (0, 8, 0, 0, [], 0))]
def bX5_count_5 : ms_B := [(59, .iload_n 1, 1, (0, 1, 0, 0, [], 0)), (60, .iconst 4, 1, (4, 0, 0, 0, [], 0)), (61, .if_icmp .ne 10, 3, (0, 6, 0, 0, [], 0)), (64, .aload_n 0, 1, (0, 0, 0, 0, [], 0)), (65, .getfield 149, 3, (14, 5, 0, 0, [], 674)), (68, .goto 19, 3, (0, 8, 0, 0, [], 0))]
def bX5_count_6 : ms_B := [(71, .iload_n 1, 1, (0, 1, 0, 0, [], 0)), (72, .iconst 5, 1, (5, 0, 0, 0, [], 0)), (73, .if_icmp .ne 10, 3, (0, 7, 0, 0, [], 0)), (76, .aload_n 0, 1, (0, 0, 0, 0, [], 0)), (77, .getfield 152, 3, (32, 5, 0, 0, [], 692)), (80, .goto 7, 3, (0, 8, 0, 0, [], 0))]
def bX5_count_7 : ms_B := [(83, .aload_n 0, 1, (0, 0, 0, 0, [], 0)), (84, .getfield 78, 3, (18, 5, 0, 0, [], 678)), (87, .nop, 1, (0, 8, 0, 0, [], 0))]
def bX5_count_8 : ms_B := [(87, .ireturn, 1, (0, 0, 0, 0, [], 0))]
def MX5_count : ms_M := (yX5_count, cX5_count, 2, (some .int), (0, 0), (0, 2), [1046, 1044, 1045, 83], [bX5_count_0, bX5_count_1, bX5_count_2, bX5_count_3, bX5_count_4, bX5_count_5, bX5_count_6, bX5_count_7, bX5_count_8], [])
def bX5_trace_0 : ms_B := [(0, .aload_n 0, 1, (0, 0, 0, 0, [], 0)), (1, .getfield 256, 3, (16, 5, 2, 0, [], 676)), (4, .lreturn, 1, (0, 0, 0, 0, [], 0))]
def MX5_trace : ms_M := (yX5_trace, cX5_trace, 1, (some .long), (0, 0), (0, 1), [1050, 1048, 1049, 83], [bX5_trace_0], [])
def bJ6_bitCount_0f7a4_0 : ms_B := [(0, .iload_n 0, 1, (0, 0, 0, 0, [], 0)), (1, .iload_n 0, 1, (0, 0, 0, 0, [], 0)), (2, .iconst 1, 1, (1, 0, 0, 0, [], 0)), (3, .iushr, 1, (0, 0, 0, 0, [], 0)), (4, .ldc_w 265, 3, (1431655765, 0, 0, 0, [], 551)), (7, .iand, 1, (0, 0, 0, 0, [], 0)), (8, .isub, 1, (0, 0, 0, 0, [], 0)), (9, .istore_n 0, 1, (0, 0, 0, 0, [], 0)), (10, .iload_n 0, 1, (0, 0, 0, 0, [], 0)), (11, .ldc_w 266, 3, (858993459, 0, 0, 0, [], 552)), (14, .iand, 1, (0, 0, 0, 0, [], 0)), (15, .iload_n 0, 1, (0, 0, 0, 0, [], 0)), (16, .iconst 2, 1, (2, 0, 0, 0, [], 0)), (17, .iushr, 1, (0, 0, 0, 0, [], 0)), (18, .ldc_w 266, 3, (858993459, 0, 0, 0, [], 552)), (21, .iand, 1, (0, 0, 0, 0, [], 0)), (22, .iadd, 1, (0, 0, 0, 0, [], 0)), (23, .istore_n 0, 1, (0, 0, 0, 0, [], 0)), (24, .iload_n 0, 1, (0, 0, 0, 0, [], 0)), (25, .iload_n 0, 1, (0, 0, 0, 0, [], 0)), (26, .iconst 4, 1, (4, 0, 0, 0, [], 0)), (27, .iushr, 1, (0, 0, 0, 0, [], 0)), (28, .iadd, 1, (0, 0, 0, 0, [], 0)), (29, .ldc_w 267, 3, (252645135, 0, 0, 0, [], 553)), (32, .iand, 1, (0, 0, 0, 0, [], 0)), (33, .istore_n 0, 1, (0, 0, 0, 0, [], 0)), (34, .iload_n 0, 1, (0, 0, 0, 0, [], 0)), (35, .iload_n 0, 1, (0, 0, 0, 0, [], 0)), (36, .bipush 8, 2, (8, 0, 0, 0, [], 0)), (38, .iushr, 1, (0, 0, 0, 0, [], 0)), (39, .iadd, 1, (0, 0, 0, 0, [], 0)), (40, .istore_n 0, 1, (0, 0, 0, 0, [], 0)), (41, .iload_n 0, 1, (0, 0, 0, 0, [], 0)), (42, .iload_n 0, 1, (0, 0, 0, 0, [], 0)), (43, .bipush 16, 2, (16, 0, 0, 0, [], 0)), (45, .iushr, 1, (0, 0, 0, 0, [], 0)), (46, .iadd, 1, (0, 0, 0, 0, [], 0)), (47, .istore_n 0, 1, (0, 0, 0, 0, [], 0)), (48, .iload_n 0, 1, (0, 0, 0, 0, [], 0)), (49, .bipush 63, 2, (63, 0, 0, 0, [], 0)), (51, .iand, 1, (0, 0, 0, 0, [], 0)), (52, .ireturn, 1, (0, 0, 0, 0, [], 0))]
def MJ6_bitCount_0f7a4 : ms_M := (yJ6_bitCount_0f7a4, cJ6_bitCount_0f7a4, 1, (some .int), (0, 0), (1, 1), [550, 549, 0, 86], [bJ6_bitCount_0f7a4_0], [])
def ms_P : List ms_M := [MX0_init, MX0_judge, MX0_drawFrom, MX0_judgeOne, MX1_init, MX1_begin, MX1_become, MX1_remember, MX1_loseOldest, MX1_takeBack, MX1_standing, MX2_init, MX2_add, MX2_tell, MX2_readItem, MX2_readColumn, MX2_readGap, MX2_readHands, MX2_readVoter, MX2_readDay, MX2_number, MX2_ended, MX2_take, MX2_takeLetters, MX2_takeNumber, MX3_init, MX3_begin, MX3_addColumn, MX3_addVoter, MX3_addDay, MX3_warmOn, MX3_snowLimit, MX4_init, MX4_type, MX4_clear, MX4_wold, MX4_column, MX4_field, MX4_voter, MX4_days, MX4_warms, MX4_stakes, MX4_pulls, MX4_undo, MX4_now, MX4_first, MX4_fair, MX4_best, MX4_power, MX4_duel, MX4_odds, MX4_hears, MX4_forget, MX4_warmth, MX4_ask, MX4_mark, MX4_keep, MX4_back, MX4_count, MX4_trace, MX4_within, MX4_isColumn, MX4_isField, MX4_isVoter, MX4_warmToday, MX4_mild, MX4_falls, MX4_lowestUpTo, MX4_edge, MX4_wet, MX4_claim, MX4_halves, MX4_greaterHalf, MX4_snowyFields, MX4_rainyFields, MX4_widest, MX4_vote, MX4_decidedOrders, MX4_weightOf, MX4_snowyWays, MX4_leastTerms, MX4_greatestShared, MX4_hearNothing, MX4_warmths, MX4_greaterPart, MX4_columnMark, MX4_moorMark, MX4_fenMark, MX4_fellMark, MX4_saltingMark, MX4_woodMark, MX5_in, MX5_common, MX5_init, MX5_isColumn, MX5_isField, MX5_type, MX5_clear, MX5_here, MX5_skip, MX5_number, MX5_ends, MX5_readsColumn, MX5_readsVoter, MX5_readsDay, MX5_readsGap, MX5_readsHands, MX5_readsItem, MX5_wold, MX5_comesRead, MX5_warmAt, MX5_mildBy, MX5_warmthNow, MX5_mild, MX5_lowestBy, MX5_edge, MX5_wet, MX5_halves, MX5_column, MX5_falls, MX5_field, MX5_voter, MX5_fallMany, MX5_writes, MX5_readsBack, MX5_notes, MX5_days, MX5_warms, MX5_stakes, MX5_pulls, MX5_undo, MX5_widest, MX5_stakeMany, MX5_vote, MX5_now, MX5_first, MX5_firstLine, MX5_nextLine, MX5_lineNumber, MX5_hasHill, MX5_hasSea, MX5_allOf, MX5_fair, MX5_best, MX5_orders, MX5_weightOf, MX5_power, MX5_duel, MX5_odds, MX5_hears, MX5_forget, MX5_says, MX5_isSo, MX5_warmth, MX5_ask, MX5_marked, MX5_mark, MX5_keep, MX5_back, MX5_count, MX5_trace, MJ6_bitCount_0f7a4]
def bL_law_0 : ms_B := [(0, .new 7, 3, (0, 4, 88, 78, [], 87)), (3, .dup, 1, (0, 0, 0, 0, [], 0)), (4, .invokespecial 9, 3, (0, 32, 1, 5, [(37, 412)], 89)), (7, .astore_n 1, 1, (0, 1, 0, 0, [], 0)), (8, .new 10, 3, (0, 5, 655, 83, [], 654)), (11, .dup, 1, (0, 0, 0, 0, [], 0)), (12, .invokespecial 12, 3, (0, 93, 1, 6, [(19, 634)], 656)), (15, .astore_n 2, 1, (0, 2, 0, 0, [], 0)), (16, .iconst 0, 1, (0, 0, 0, 0, [], 0)), (17, .istore_n 3, 1, (0, 3, 0, 0, [], 0)), (18, .nop, 1, (0, 100, 0, 0, [], 0))]
def bL_law_1 : ms_B := [(156, .aload_n 1, 1, (0, 1, 0, 0, [], 0)), (157, .aload_n 0, 1, (0, 0, 0, 0, [], 0)), (158, .iload_n 3, 1, (0, 3, 0, 0, [], 0)), (159, .iconst 1, 1, (1, 0, 0, 0, [], 0)), (160, .iadd, 1, (0, 0, 0, 0, [], 0)), (161, .iaload, 1, (0, 0, 0, 0, [], 0)), (162, .invokevirtual 13, 3, (0, 33, 2, 5, [], 290)), (165, .aload_n 2, 1, (0, 2, 0, 0, [], 0)), (166, .aload_n 0, 1, (0, 0, 0, 0, [], 0)), (167, .iload_n 3, 1, (0, 3, 0, 0, [], 0)), (168, .iconst 1, 1, (1, 0, 0, 0, [], 0)), (169, .iadd, 1, (0, 0, 0, 0, [], 0)), (170, .iaload, 1, (0, 0, 0, 0, [], 0)), (171, .invokevirtual 17, 3, (0, 96, 2, 6, [], 772)), (174, .if_icmp .eq 684, 3, (0, 28, 0, 0, [], 0)), (177, .iconst 0, 1, (0, 0, 0, 0, [], 0)), (178, .ireturn, 1, (0, 0, 1, 0, [], 0))]
def bL_law_2 : ms_B := [(179, .aload_n 1, 1, (0, 1, 0, 0, [], 0)), (180, .invokevirtual 18, 3, (0, 34, 1, 5, [], 301)), (183, .aload_n 2, 1, (0, 2, 0, 0, [], 0)), (184, .invokevirtual 22, 3, (0, 97, 1, 6, [], 779)), (187, .if_icmp .eq 671, 3, (0, 28, 0, 0, [], 0)), (190, .iconst 0, 1, (0, 0, 0, 0, [], 0)), (191, .ireturn, 1, (0, 0, 1, 0, [], 0))]
def bL_law_3 : ms_B := [(192, .aload_n 1, 1, (0, 1, 0, 0, [], 0)), (193, .invokevirtual 23, 3, (0, 35, 1, 5, [], 305)), (196, .aload_n 2, 1, (0, 2, 0, 0, [], 0)), (197, .invokevirtual 26, 3, (0, 108, 1, 6, [], 783)), (200, .if_icmp .eq 658, 3, (0, 28, 0, 0, [], 0)), (203, .iconst 0, 1, (0, 0, 0, 0, [], 0)), (204, .ireturn, 1, (0, 0, 1, 0, [], 0))]
def bL_law_4 : ms_B := [(205, .aload_n 1, 1, (0, 1, 0, 0, [], 0)), (206, .aload_n 0, 1, (0, 0, 0, 0, [], 0)), (207, .iload_n 3, 1, (0, 3, 0, 0, [], 0)), (208, .iconst 1, 1, (1, 0, 0, 0, [], 0)), (209, .iadd, 1, (0, 0, 0, 0, [], 0)), (210, .iaload, 1, (0, 0, 0, 0, [], 0)), (211, .aload_n 0, 1, (0, 0, 0, 0, [], 0)), (212, .iload_n 3, 1, (0, 3, 0, 0, [], 0)), (213, .iconst 2, 1, (2, 0, 0, 0, [], 0)), (214, .iadd, 1, (0, 0, 0, 0, [], 0)), (215, .iaload, 1, (0, 0, 0, 0, [], 0)), (216, .invokevirtual 27, 3, (0, 36, 3, 5, [], 382)), (219, .aload_n 2, 1, (0, 2, 0, 0, [], 0)), (220, .aload_n 0, 1, (0, 0, 0, 0, [], 0)), (221, .iload_n 3, 1, (0, 3, 0, 0, [], 0)), (222, .iconst 1, 1, (1, 0, 0, 0, [], 0)), (223, .iadd, 1, (0, 0, 0, 0, [], 0)), (224, .iaload, 1, (0, 0, 0, 0, [], 0)), (225, .aload_n 0, 1, (0, 0, 0, 0, [], 0)), (226, .iload_n 3, 1, (0, 3, 0, 0, [], 0)), (227, .iconst 2, 1, (2, 0, 0, 0, [], 0)), (228, .iadd, 1, (0, 0, 0, 0, [], 0)), (229, .iaload, 1, (0, 0, 0, 0, [], 0)), (230, .invokevirtual 31, 3, (0, 118, 3, 6, [], 831)), (233, .if_icmp .eq 625, 3, (0, 28, 0, 0, [], 0)), (236, .iconst 0, 1, (0, 0, 0, 0, [], 0)), (237, .ireturn, 1, (0, 0, 1, 0, [], 0))]
def bL_law_5 : ms_B := [(238, .aload_n 1, 1, (0, 1, 0, 0, [], 0)), (239, .aload_n 0, 1, (0, 0, 0, 0, [], 0)), (240, .iload_n 3, 1, (0, 3, 0, 0, [], 0)), (241, .iconst 1, 1, (1, 0, 0, 0, [], 0)), (242, .iadd, 1, (0, 0, 0, 0, [], 0)), (243, .iaload, 1, (0, 0, 0, 0, [], 0)), (244, .aload_n 0, 1, (0, 0, 0, 0, [], 0)), (245, .iload_n 3, 1, (0, 3, 0, 0, [], 0)), (246, .iconst 2, 1, (2, 0, 0, 0, [], 0)), (247, .iadd, 1, (0, 0, 0, 0, [], 0)), (248, .iaload, 1, (0, 0, 0, 0, [], 0)), (249, .aload_n 0, 1, (0, 0, 0, 0, [], 0)), (250, .iload_n 3, 1, (0, 3, 0, 0, [], 0)), (251, .iconst 3, 1, (3, 0, 0, 0, [], 0)), (252, .iadd, 1, (0, 0, 0, 0, [], 0)), (253, .iaload, 1, (0, 0, 0, 0, [], 0)), (254, .invokevirtual 32, 3, (0, 37, 4, 5, [], 425)), (257, .aload_n 2, 1, (0, 2, 0, 0, [], 0)), (258, .aload_n 0, 1, (0, 0, 0, 0, [], 0)), (259, .iload_n 3, 1, (0, 3, 0, 0, [], 0)), (260, .iconst 1, 1, (1, 0, 0, 0, [], 0)), (261, .iadd, 1, (0, 0, 0, 0, [], 0)), (262, .iaload, 1, (0, 0, 0, 0, [], 0)), (263, .aload_n 0, 1, (0, 0, 0, 0, [], 0)), (264, .iload_n 3, 1, (0, 3, 0, 0, [], 0)), (265, .iconst 2, 1, (2, 0, 0, 0, [], 0)), (266, .iadd, 1, (0, 0, 0, 0, [], 0)), (267, .iaload, 1, (0, 0, 0, 0, [], 0)), (268, .aload_n 0, 1, (0, 0, 0, 0, [], 0)), (269, .iload_n 3, 1, (0, 3, 0, 0, [], 0)), (270, .iconst 3, 1, (3, 0, 0, 0, [], 0)), (271, .iadd, 1, (0, 0, 0, 0, [], 0)), (272, .iaload, 1, (0, 0, 0, 0, [], 0)), (273, .invokevirtual 36, 3, (0, 120, 4, 6, [], 871)), (276, .if_icmp .eq 582, 3, (0, 28, 0, 0, [], 0)), (279, .iconst 0, 1, (0, 0, 0, 0, [], 0)), (280, .ireturn, 1, (0, 0, 1, 0, [], 0))]
def bL_law_6 : ms_B := [(281, .aload_n 1, 1, (0, 1, 0, 0, [], 0)), (282, .aload_n 0, 1, (0, 0, 0, 0, [], 0)), (283, .iload_n 3, 1, (0, 3, 0, 0, [], 0)), (284, .iconst 1, 1, (1, 0, 0, 0, [], 0)), (285, .iadd, 1, (0, 0, 0, 0, [], 0)), (286, .iaload, 1, (0, 0, 0, 0, [], 0)), (287, .aload_n 0, 1, (0, 0, 0, 0, [], 0)), (288, .iload_n 3, 1, (0, 3, 0, 0, [], 0)), (289, .iconst 2, 1, (2, 0, 0, 0, [], 0)), (290, .iadd, 1, (0, 0, 0, 0, [], 0)), (291, .iaload, 1, (0, 0, 0, 0, [], 0)), (292, .invokevirtual 37, 3, (0, 38, 3, 5, [], 438)), (295, .aload_n 2, 1, (0, 2, 0, 0, [], 0)), (296, .aload_n 0, 1, (0, 0, 0, 0, [], 0)), (297, .iload_n 3, 1, (0, 3, 0, 0, [], 0)), (298, .iconst 1, 1, (1, 0, 0, 0, [], 0)), (299, .iadd, 1, (0, 0, 0, 0, [], 0)), (300, .iaload, 1, (0, 0, 0, 0, [], 0)), (301, .aload_n 0, 1, (0, 0, 0, 0, [], 0)), (302, .iload_n 3, 1, (0, 3, 0, 0, [], 0)), (303, .iconst 2, 1, (2, 0, 0, 0, [], 0)), (304, .iadd, 1, (0, 0, 0, 0, [], 0)), (305, .iaload, 1, (0, 0, 0, 0, [], 0)), (306, .invokevirtual 40, 3, (0, 121, 3, 6, [], 883)), (309, .if_icmp .eq 549, 3, (0, 28, 0, 0, [], 0)), (312, .iconst 0, 1, (0, 0, 0, 0, [], 0)), (313, .ireturn, 1, (0, 0, 1, 0, [], 0))]
def bL_law_7 : ms_B := [(314, .aload_n 1, 1, (0, 1, 0, 0, [], 0)), (315, .aload_n 0, 1, (0, 0, 0, 0, [], 0)), (316, .iload_n 3, 1, (0, 3, 0, 0, [], 0)), (317, .iconst 1, 1, (1, 0, 0, 0, [], 0)), (318, .iadd, 1, (0, 0, 0, 0, [], 0)), (319, .iaload, 1, (0, 0, 0, 0, [], 0)), (320, .invokevirtual 41, 3, (0, 39, 2, 5, [], 446)), (323, .aload_n 2, 1, (0, 2, 0, 0, [], 0)), (324, .aload_n 0, 1, (0, 0, 0, 0, [], 0)), (325, .iload_n 3, 1, (0, 3, 0, 0, [], 0)), (326, .iconst 1, 1, (1, 0, 0, 0, [], 0)), (327, .iadd, 1, (0, 0, 0, 0, [], 0)), (328, .iaload, 1, (0, 0, 0, 0, [], 0)), (329, .invokevirtual 44, 3, (0, 126, 2, 6, [], 887)), (332, .if_icmp .eq 526, 3, (0, 28, 0, 0, [], 0)), (335, .iconst 0, 1, (0, 0, 0, 0, [], 0)), (336, .ireturn, 1, (0, 0, 1, 0, [], 0))]
def bL_law_8 : ms_B := [(337, .aload_n 1, 1, (0, 1, 0, 0, [], 0)), (338, .aload_n 0, 1, (0, 0, 0, 0, [], 0)), (339, .iload_n 3, 1, (0, 3, 0, 0, [], 0)), (340, .iconst 1, 1, (1, 0, 0, 0, [], 0)), (341, .iadd, 1, (0, 0, 0, 0, [], 0)), (342, .iaload, 1, (0, 0, 0, 0, [], 0)), (343, .invokevirtual 45, 3, (0, 40, 2, 5, [], 461)), (346, .aload_n 2, 1, (0, 2, 0, 0, [], 0)), (347, .aload_n 0, 1, (0, 0, 0, 0, [], 0)), (348, .iload_n 3, 1, (0, 3, 0, 0, [], 0)), (349, .iconst 1, 1, (1, 0, 0, 0, [], 0)), (350, .iadd, 1, (0, 0, 0, 0, [], 0)), (351, .iaload, 1, (0, 0, 0, 0, [], 0)), (352, .invokevirtual 48, 3, (0, 127, 2, 6, [], 899)), (355, .if_icmp .eq 503, 3, (0, 28, 0, 0, [], 0)), (358, .iconst 0, 1, (0, 0, 0, 0, [], 0)), (359, .ireturn, 1, (0, 0, 1, 0, [], 0))]
def bL_law_9 : ms_B := [(360, .aload_n 1, 1, (0, 1, 0, 0, [], 0)), (361, .aload_n 0, 1, (0, 0, 0, 0, [], 0)), (362, .iload_n 3, 1, (0, 3, 0, 0, [], 0)), (363, .iconst 1, 1, (1, 0, 0, 0, [], 0)), (364, .iadd, 1, (0, 0, 0, 0, [], 0)), (365, .iaload, 1, (0, 0, 0, 0, [], 0)), (366, .invokevirtual 49, 3, (0, 41, 2, 5, [], 475)), (369, .aload_n 2, 1, (0, 2, 0, 0, [], 0)), (370, .aload_n 0, 1, (0, 0, 0, 0, [], 0)), (371, .iload_n 3, 1, (0, 3, 0, 0, [], 0)), (372, .iconst 1, 1, (1, 0, 0, 0, [], 0)), (373, .iadd, 1, (0, 0, 0, 0, [], 0)), (374, .iaload, 1, (0, 0, 0, 0, [], 0)), (375, .invokevirtual 52, 3, (0, 128, 2, 6, [], 907)), (378, .if_icmp .eq 480, 3, (0, 28, 0, 0, [], 0)), (381, .iconst 0, 1, (0, 0, 0, 0, [], 0)), (382, .ireturn, 1, (0, 0, 1, 0, [], 0))]
def bL_law_10 : ms_B := [(383, .aload_n 1, 1, (0, 1, 0, 0, [], 0)), (384, .aload_n 0, 1, (0, 0, 0, 0, [], 0)), (385, .iload_n 3, 1, (0, 3, 0, 0, [], 0)), (386, .iconst 1, 1, (1, 0, 0, 0, [], 0)), (387, .iadd, 1, (0, 0, 0, 0, [], 0)), (388, .iaload, 1, (0, 0, 0, 0, [], 0)), (389, .invokevirtual 53, 3, (0, 42, 2, 5, [], 479)), (392, .aload_n 2, 1, (0, 2, 0, 0, [], 0)), (393, .aload_n 0, 1, (0, 0, 0, 0, [], 0)), (394, .iload_n 3, 1, (0, 3, 0, 0, [], 0)), (395, .iconst 1, 1, (1, 0, 0, 0, [], 0)), (396, .iadd, 1, (0, 0, 0, 0, [], 0)), (397, .iaload, 1, (0, 0, 0, 0, [], 0)), (398, .invokevirtual 56, 3, (0, 129, 2, 6, [], 911)), (401, .if_icmp .eq 457, 3, (0, 28, 0, 0, [], 0)), (404, .iconst 0, 1, (0, 0, 0, 0, [], 0)), (405, .ireturn, 1, (0, 0, 1, 0, [], 0))]
def bL_law_11 : ms_B := [(406, .aload_n 1, 1, (0, 1, 0, 0, [], 0)), (407, .invokevirtual 57, 3, (0, 43, 1, 5, [], 483)), (410, .aload_n 2, 1, (0, 2, 0, 0, [], 0)), (411, .invokevirtual 60, 3, (0, 130, 1, 6, [], 915)), (414, .if_icmp .eq 444, 3, (0, 28, 0, 0, [], 0)), (417, .iconst 0, 1, (0, 0, 0, 0, [], 0)), (418, .ireturn, 1, (0, 0, 1, 0, [], 0))]
def bL_law_12 : ms_B := [(419, .aload_n 1, 1, (0, 1, 0, 0, [], 0)), (420, .aload_n 0, 1, (0, 0, 0, 0, [], 0)), (421, .iload_n 3, 1, (0, 3, 0, 0, [], 0)), (422, .iconst 1, 1, (1, 0, 0, 0, [], 0)), (423, .iadd, 1, (0, 0, 0, 0, [], 0)), (424, .iaload, 1, (0, 0, 0, 0, [], 0)), (425, .invokevirtual 61, 3, (0, 44, 2, 5, [], 491)), (428, .aload_n 2, 1, (0, 2, 0, 0, [], 0)), (429, .aload_n 0, 1, (0, 0, 0, 0, [], 0)), (430, .iload_n 3, 1, (0, 3, 0, 0, [], 0)), (431, .iconst 1, 1, (1, 0, 0, 0, [], 0)), (432, .iadd, 1, (0, 0, 0, 0, [], 0)), (433, .iaload, 1, (0, 0, 0, 0, [], 0)), (434, .invokevirtual 64, 3, (0, 134, 2, 6, [], 923)), (437, .if_icmp .eq 421, 3, (0, 28, 0, 0, [], 0)), (440, .iconst 0, 1, (0, 0, 0, 0, [], 0)), (441, .ireturn, 1, (0, 0, 1, 0, [], 0))]
def bL_law_13 : ms_B := [(442, .aload_n 1, 1, (0, 1, 0, 0, [], 0)), (443, .aload_n 0, 1, (0, 0, 0, 0, [], 0)), (444, .iload_n 3, 1, (0, 3, 0, 0, [], 0)), (445, .iconst 1, 1, (1, 0, 0, 0, [], 0)), (446, .iadd, 1, (0, 0, 0, 0, [], 0)), (447, .iaload, 1, (0, 0, 0, 0, [], 0)), (448, .aload_n 0, 1, (0, 0, 0, 0, [], 0)), (449, .iload_n 3, 1, (0, 3, 0, 0, [], 0)), (450, .iconst 2, 1, (2, 0, 0, 0, [], 0)), (451, .iadd, 1, (0, 0, 0, 0, [], 0)), (452, .iaload, 1, (0, 0, 0, 0, [], 0)), (453, .invokevirtual 65, 3, (0, 45, 3, 5, [], 511)), (456, .aload_n 2, 1, (0, 2, 0, 0, [], 0)), (457, .aload_n 0, 1, (0, 0, 0, 0, [], 0)), (458, .iload_n 3, 1, (0, 3, 0, 0, [], 0)), (459, .iconst 1, 1, (1, 0, 0, 0, [], 0)), (460, .iadd, 1, (0, 0, 0, 0, [], 0)), (461, .iaload, 1, (0, 0, 0, 0, [], 0)), (462, .aload_n 0, 1, (0, 0, 0, 0, [], 0)), (463, .iload_n 3, 1, (0, 3, 0, 0, [], 0)), (464, .iconst 2, 1, (2, 0, 0, 0, [], 0)), (465, .iadd, 1, (0, 0, 0, 0, [], 0)), (466, .iaload, 1, (0, 0, 0, 0, [], 0)), (467, .invokevirtual 68, 3, (0, 135, 3, 6, [], 939)), (470, .if_icmp .eq 388, 3, (0, 28, 0, 0, [], 0)), (473, .iconst 0, 1, (0, 0, 0, 0, [], 0)), (474, .ireturn, 1, (0, 0, 1, 0, [], 0))]
def bL_law_14 : ms_B := [(475, .aload_n 1, 1, (0, 1, 0, 0, [], 0)), (476, .aload_n 0, 1, (0, 0, 0, 0, [], 0)), (477, .iload_n 3, 1, (0, 3, 0, 0, [], 0)), (478, .iconst 1, 1, (1, 0, 0, 0, [], 0)), (479, .iadd, 1, (0, 0, 0, 0, [], 0)), (480, .iaload, 1, (0, 0, 0, 0, [], 0)), (481, .invokevirtual 69, 3, (0, 46, 2, 5, [], 515)), (484, .aload_n 2, 1, (0, 2, 0, 0, [], 0)), (485, .aload_n 0, 1, (0, 0, 0, 0, [], 0)), (486, .iload_n 3, 1, (0, 3, 0, 0, [], 0)), (487, .iconst 1, 1, (1, 0, 0, 0, [], 0)), (488, .iadd, 1, (0, 0, 0, 0, [], 0)), (489, .iaload, 1, (0, 0, 0, 0, [], 0)), (490, .invokevirtual 72, 3, (0, 142, 2, 6, [], 943)), (493, .if_icmp .eq 365, 3, (0, 28, 0, 0, [], 0)), (496, .iconst 0, 1, (0, 0, 0, 0, [], 0)), (497, .ireturn, 1, (0, 0, 1, 0, [], 0))]
def bL_law_15 : ms_B := [(498, .aload_n 1, 1, (0, 1, 0, 0, [], 0)), (499, .aload_n 0, 1, (0, 0, 0, 0, [], 0)), (500, .iload_n 3, 1, (0, 3, 0, 0, [], 0)), (501, .iconst 1, 1, (1, 0, 0, 0, [], 0)), (502, .iadd, 1, (0, 0, 0, 0, [], 0)), (503, .iaload, 1, (0, 0, 0, 0, [], 0)), (504, .invokevirtual 73, 3, (0, 47, 2, 5, [], 532)), (507, .aload_n 2, 1, (0, 2, 0, 0, [], 0)), (508, .aload_n 0, 1, (0, 0, 0, 0, [], 0)), (509, .iload_n 3, 1, (0, 3, 0, 0, [], 0)), (510, .iconst 1, 1, (1, 0, 0, 0, [], 0)), (511, .iadd, 1, (0, 0, 0, 0, [], 0)), (512, .iaload, 1, (0, 0, 0, 0, [], 0)), (513, .invokevirtual 76, 3, (0, 143, 2, 6, [], 971)), (516, .if_icmp .eq 342, 3, (0, 28, 0, 0, [], 0)), (519, .iconst 0, 1, (0, 0, 0, 0, [], 0)), (520, .ireturn, 1, (0, 0, 1, 0, [], 0))]
def bL_law_16 : ms_B := [(521, .aload_n 1, 1, (0, 1, 0, 0, [], 0)), (522, .aload_n 0, 1, (0, 0, 0, 0, [], 0)), (523, .iload_n 3, 1, (0, 3, 0, 0, [], 0)), (524, .iconst 1, 1, (1, 0, 0, 0, [], 0)), (525, .iadd, 1, (0, 0, 0, 0, [], 0)), (526, .iaload, 1, (0, 0, 0, 0, [], 0)), (527, .aload_n 0, 1, (0, 0, 0, 0, [], 0)), (528, .iload_n 3, 1, (0, 3, 0, 0, [], 0)), (529, .iconst 2, 1, (2, 0, 0, 0, [], 0)), (530, .iadd, 1, (0, 0, 0, 0, [], 0)), (531, .iaload, 1, (0, 0, 0, 0, [], 0)), (532, .invokevirtual 77, 3, (0, 48, 3, 5, [], 536)), (535, .aload_n 2, 1, (0, 2, 0, 0, [], 0)), (536, .aload_n 0, 1, (0, 0, 0, 0, [], 0)), (537, .iload_n 3, 1, (0, 3, 0, 0, [], 0)), (538, .iconst 1, 1, (1, 0, 0, 0, [], 0)), (539, .iadd, 1, (0, 0, 0, 0, [], 0)), (540, .iaload, 1, (0, 0, 0, 0, [], 0)), (541, .aload_n 0, 1, (0, 0, 0, 0, [], 0)), (542, .iload_n 3, 1, (0, 3, 0, 0, [], 0)), (543, .iconst 2, 1, (2, 0, 0, 0, [], 0)), (544, .iadd, 1, (0, 0, 0, 0, [], 0)), (545, .iaload, 1, (0, 0, 0, 0, [], 0)), (546, .invokevirtual 80, 3, (0, 146, 3, 6, [], 975)), (549, .if_icmp .eq 309, 3, (0, 28, 0, 0, [], 0)), (552, .iconst 0, 1, (0, 0, 0, 0, [], 0)), (553, .ireturn, 1, (0, 0, 1, 0, [], 0))]
def bL_law_17 : ms_B := [(554, .aload_n 1, 1, (0, 1, 0, 0, [], 0)), (555, .aload_n 0, 1, (0, 0, 0, 0, [], 0)), (556, .iload_n 3, 1, (0, 3, 0, 0, [], 0)), (557, .iconst 1, 1, (1, 0, 0, 0, [], 0)), (558, .iadd, 1, (0, 0, 0, 0, [], 0)), (559, .iaload, 1, (0, 0, 0, 0, [], 0)), (560, .invokevirtual 81, 3, (0, 49, 2, 5, [], 562)), (563, .aload_n 2, 1, (0, 2, 0, 0, [], 0)), (564, .aload_n 0, 1, (0, 0, 0, 0, [], 0)), (565, .iload_n 3, 1, (0, 3, 0, 0, [], 0)), (566, .iconst 1, 1, (1, 0, 0, 0, [], 0)), (567, .iadd, 1, (0, 0, 0, 0, [], 0)), (568, .iaload, 1, (0, 0, 0, 0, [], 0)), (569, .invokevirtual 84, 3, (0, 147, 2, 6, [], 989)), (572, .if_icmp .eq 286, 3, (0, 28, 0, 0, [], 0)), (575, .iconst 0, 1, (0, 0, 0, 0, [], 0)), (576, .ireturn, 1, (0, 0, 1, 0, [], 0))]
def bL_law_18 : ms_B := [(577, .aload_n 1, 1, (0, 1, 0, 0, [], 0)), (578, .aload_n 0, 1, (0, 0, 0, 0, [], 0)), (579, .iload_n 3, 1, (0, 3, 0, 0, [], 0)), (580, .iconst 1, 1, (1, 0, 0, 0, [], 0)), (581, .iadd, 1, (0, 0, 0, 0, [], 0)), (582, .iaload, 1, (0, 0, 0, 0, [], 0)), (583, .aload_n 0, 1, (0, 0, 0, 0, [], 0)), (584, .iload_n 3, 1, (0, 3, 0, 0, [], 0)), (585, .iconst 2, 1, (2, 0, 0, 0, [], 0)), (586, .iadd, 1, (0, 0, 0, 0, [], 0)), (587, .iaload, 1, (0, 0, 0, 0, [], 0)), (588, .aload_n 0, 1, (0, 0, 0, 0, [], 0)), (589, .iload_n 3, 1, (0, 3, 0, 0, [], 0)), (590, .iconst 3, 1, (3, 0, 0, 0, [], 0)), (591, .iadd, 1, (0, 0, 0, 0, [], 0)), (592, .iaload, 1, (0, 0, 0, 0, [], 0)), (593, .aload_n 0, 1, (0, 0, 0, 0, [], 0)), (594, .iload_n 3, 1, (0, 3, 0, 0, [], 0)), (595, .iconst 4, 1, (4, 0, 0, 0, [], 0)), (596, .iadd, 1, (0, 0, 0, 0, [], 0)), (597, .iaload, 1, (0, 0, 0, 0, [], 0)), (598, .aload_n 0, 1, (0, 0, 0, 0, [], 0)), (599, .iload_n 3, 1, (0, 3, 0, 0, [], 0)), (600, .iconst 5, 1, (5, 0, 0, 0, [], 0)), (601, .iadd, 1, (0, 0, 0, 0, [], 0)), (602, .iaload, 1, (0, 0, 0, 0, [], 0)), (603, .invokevirtual 85, 3, (0, 50, 6, 5, [], 566)), (606, .aload_n 2, 1, (0, 2, 0, 0, [], 0)), (607, .aload_n 0, 1, (0, 0, 0, 0, [], 0)), (608, .iload_n 3, 1, (0, 3, 0, 0, [], 0)), (609, .iconst 1, 1, (1, 0, 0, 0, [], 0)), (610, .iadd, 1, (0, 0, 0, 0, [], 0)), (611, .iaload, 1, (0, 0, 0, 0, [], 0)), (612, .aload_n 0, 1, (0, 0, 0, 0, [], 0)), (613, .iload_n 3, 1, (0, 3, 0, 0, [], 0)), (614, .iconst 2, 1, (2, 0, 0, 0, [], 0)), (615, .iadd, 1, (0, 0, 0, 0, [], 0)), (616, .iaload, 1, (0, 0, 0, 0, [], 0)), (617, .aload_n 0, 1, (0, 0, 0, 0, [], 0)), (618, .iload_n 3, 1, (0, 3, 0, 0, [], 0)), (619, .iconst 3, 1, (3, 0, 0, 0, [], 0)), (620, .iadd, 1, (0, 0, 0, 0, [], 0)), (621, .iaload, 1, (0, 0, 0, 0, [], 0)), (622, .aload_n 0, 1, (0, 0, 0, 0, [], 0)), (623, .iload_n 3, 1, (0, 3, 0, 0, [], 0)), (624, .iconst 4, 1, (4, 0, 0, 0, [], 0)), (625, .iadd, 1, (0, 0, 0, 0, [], 0)), (626, .iaload, 1, (0, 0, 0, 0, [], 0)), (627, .aload_n 0, 1, (0, 0, 0, 0, [], 0)), (628, .iload_n 3, 1, (0, 3, 0, 0, [], 0)), (629, .iconst 5, 1, (5, 0, 0, 0, [], 0)), (630, .iadd, 1, (0, 0, 0, 0, [], 0)), (631, .iaload, 1, (0, 0, 0, 0, [], 0)), (632, .invokevirtual 89, 3, (0, 148, 6, 6, [], 993)), (635, .if_icmp .eq 223, 3, (0, 28, 0, 0, [], 0)), (638, .iconst 0, 1, (0, 0, 0, 0, [], 0)), (639, .ireturn, 1, (0, 0, 1, 0, [], 0))]
def bL_law_19 : ms_B := [(640, .aload_n 1, 1, (0, 1, 0, 0, [], 0)), (641, .aload_n 0, 1, (0, 0, 0, 0, [], 0)), (642, .iload_n 3, 1, (0, 3, 0, 0, [], 0)), (643, .iconst 1, 1, (1, 0, 0, 0, [], 0)), (644, .iadd, 1, (0, 0, 0, 0, [], 0)), (645, .iaload, 1, (0, 0, 0, 0, [], 0)), (646, .aload_n 0, 1, (0, 0, 0, 0, [], 0)), (647, .iload_n 3, 1, (0, 3, 0, 0, [], 0)), (648, .iconst 2, 1, (2, 0, 0, 0, [], 0)), (649, .iadd, 1, (0, 0, 0, 0, [], 0)), (650, .iaload, 1, (0, 0, 0, 0, [], 0)), (651, .aload_n 0, 1, (0, 0, 0, 0, [], 0)), (652, .iload_n 3, 1, (0, 3, 0, 0, [], 0)), (653, .iconst 3, 1, (3, 0, 0, 0, [], 0)), (654, .iadd, 1, (0, 0, 0, 0, [], 0)), (655, .iaload, 1, (0, 0, 0, 0, [], 0)), (656, .aload_n 0, 1, (0, 0, 0, 0, [], 0)), (657, .iload_n 3, 1, (0, 3, 0, 0, [], 0)), (658, .iconst 4, 1, (4, 0, 0, 0, [], 0)), (659, .iadd, 1, (0, 0, 0, 0, [], 0)), (660, .iaload, 1, (0, 0, 0, 0, [], 0)), (661, .invokevirtual 90, 3, (0, 51, 5, 5, [], 573)), (664, .aload_n 2, 1, (0, 2, 0, 0, [], 0)), (665, .aload_n 0, 1, (0, 0, 0, 0, [], 0)), (666, .iload_n 3, 1, (0, 3, 0, 0, [], 0)), (667, .iconst 1, 1, (1, 0, 0, 0, [], 0)), (668, .iadd, 1, (0, 0, 0, 0, [], 0)), (669, .iaload, 1, (0, 0, 0, 0, [], 0)), (670, .aload_n 0, 1, (0, 0, 0, 0, [], 0)), (671, .iload_n 3, 1, (0, 3, 0, 0, [], 0)), (672, .iconst 2, 1, (2, 0, 0, 0, [], 0)), (673, .iadd, 1, (0, 0, 0, 0, [], 0)), (674, .iaload, 1, (0, 0, 0, 0, [], 0)), (675, .aload_n 0, 1, (0, 0, 0, 0, [], 0)), (676, .iload_n 3, 1, (0, 3, 0, 0, [], 0)), (677, .iconst 3, 1, (3, 0, 0, 0, [], 0)), (678, .iadd, 1, (0, 0, 0, 0, [], 0)), (679, .iaload, 1, (0, 0, 0, 0, [], 0)), (680, .aload_n 0, 1, (0, 0, 0, 0, [], 0)), (681, .iload_n 3, 1, (0, 3, 0, 0, [], 0)), (682, .iconst 4, 1, (4, 0, 0, 0, [], 0)), (683, .iadd, 1, (0, 0, 0, 0, [], 0)), (684, .iaload, 1, (0, 0, 0, 0, [], 0)), (685, .invokevirtual 94, 3, (0, 149, 5, 6, [], 997)), (688, .if_icmp .eq 170, 3, (0, 28, 0, 0, [], 0)), (691, .iconst 0, 1, (0, 0, 0, 0, [], 0)), (692, .ireturn, 1, (0, 0, 1, 0, [], 0))]
def bL_law_20 : ms_B := [(693, .aload_n 1, 1, (0, 1, 0, 0, [], 0)), (694, .invokevirtual 95, 3, (0, 52, 1, 5, [], 581)), (697, .aload_n 2, 1, (0, 2, 0, 0, [], 0)), (698, .invokevirtual 98, 3, (0, 150, 1, 6, [], 1001)), (701, .if_icmp .eq 157, 3, (0, 28, 0, 0, [], 0)), (704, .iconst 0, 1, (0, 0, 0, 0, [], 0)), (705, .ireturn, 1, (0, 0, 1, 0, [], 0))]
def bL_law_21 : ms_B := [(706, .aload_n 1, 1, (0, 1, 0, 0, [], 0)), (707, .aload_n 0, 1, (0, 0, 0, 0, [], 0)), (708, .iload_n 3, 1, (0, 3, 0, 0, [], 0)), (709, .iconst 1, 1, (1, 0, 0, 0, [], 0)), (710, .iadd, 1, (0, 0, 0, 0, [], 0)), (711, .iaload, 1, (0, 0, 0, 0, [], 0)), (712, .invokevirtual 99, 3, (0, 53, 2, 5, [], 585)), (715, .aload_n 2, 1, (0, 2, 0, 0, [], 0)), (716, .aload_n 0, 1, (0, 0, 0, 0, [], 0)), (717, .iload_n 3, 1, (0, 3, 0, 0, [], 0)), (718, .iconst 1, 1, (1, 0, 0, 0, [], 0)), (719, .iadd, 1, (0, 0, 0, 0, [], 0)), (720, .iaload, 1, (0, 0, 0, 0, [], 0)), (721, .invokevirtual 102, 3, (0, 153, 2, 6, [], 1005)), (724, .if_icmp .eq 134, 3, (0, 28, 0, 0, [], 0)), (727, .iconst 0, 1, (0, 0, 0, 0, [], 0)), (728, .ireturn, 1, (0, 0, 1, 0, [], 0))]
def bL_law_22 : ms_B := [(729, .aload_n 1, 1, (0, 1, 0, 0, [], 0)), (730, .invokevirtual 103, 3, (0, 54, 1, 5, [], 593)), (733, .aload_n 2, 1, (0, 2, 0, 0, [], 0)), (734, .invokevirtual 106, 3, (0, 154, 1, 6, [], 1017)), (737, .if_icmp .eq 121, 3, (0, 28, 0, 0, [], 0)), (740, .iconst 0, 1, (0, 0, 0, 0, [], 0)), (741, .ireturn, 1, (0, 0, 1, 0, [], 0))]
def bL_law_23 : ms_B := [(742, .aload_n 1, 1, (0, 1, 0, 0, [], 0)), (743, .aload_n 0, 1, (0, 0, 0, 0, [], 0)), (744, .iload_n 3, 1, (0, 3, 0, 0, [], 0)), (745, .iconst 1, 1, (1, 0, 0, 0, [], 0)), (746, .iadd, 1, (0, 0, 0, 0, [], 0)), (747, .iaload, 1, (0, 0, 0, 0, [], 0)), (748, .aload_n 0, 1, (0, 0, 0, 0, [], 0)), (749, .iload_n 3, 1, (0, 3, 0, 0, [], 0)), (750, .iconst 2, 1, (2, 0, 0, 0, [], 0)), (751, .iadd, 1, (0, 0, 0, 0, [], 0)), (752, .iaload, 1, (0, 0, 0, 0, [], 0)), (753, .invokevirtual 107, 3, (0, 55, 3, 5, [], 601)), (756, .aload_n 2, 1, (0, 2, 0, 0, [], 0)), (757, .aload_n 0, 1, (0, 0, 0, 0, [], 0)), (758, .iload_n 3, 1, (0, 3, 0, 0, [], 0)), (759, .iconst 1, 1, (1, 0, 0, 0, [], 0)), (760, .iadd, 1, (0, 0, 0, 0, [], 0)), (761, .iaload, 1, (0, 0, 0, 0, [], 0)), (762, .aload_n 0, 1, (0, 0, 0, 0, [], 0)), (763, .iload_n 3, 1, (0, 3, 0, 0, [], 0)), (764, .iconst 2, 1, (2, 0, 0, 0, [], 0)), (765, .iadd, 1, (0, 0, 0, 0, [], 0)), (766, .iaload, 1, (0, 0, 0, 0, [], 0)), (767, .invokevirtual 110, 3, (0, 156, 3, 6, [], 1022)), (770, .if_icmp .eq 88, 3, (0, 28, 0, 0, [], 0)), (773, .iconst 0, 1, (0, 0, 0, 0, [], 0)), (774, .ireturn, 1, (0, 0, 1, 0, [], 0))]
def bL_law_24 : ms_B := [(775, .aload_n 1, 1, (0, 1, 0, 0, [], 0)), (776, .aload_n 0, 1, (0, 0, 0, 0, [], 0)), (777, .iload_n 3, 1, (0, 3, 0, 0, [], 0)), (778, .iconst 1, 1, (1, 0, 0, 0, [], 0)), (779, .iadd, 1, (0, 0, 0, 0, [], 0)), (780, .iaload, 1, (0, 0, 0, 0, [], 0)), (781, .invokevirtual 111, 3, (0, 56, 2, 5, [], 634)), (784, .aload_n 2, 1, (0, 2, 0, 0, [], 0)), (785, .aload_n 0, 1, (0, 0, 0, 0, [], 0)), (786, .iload_n 3, 1, (0, 3, 0, 0, [], 0)), (787, .iconst 1, 1, (1, 0, 0, 0, [], 0)), (788, .iadd, 1, (0, 0, 0, 0, [], 0)), (789, .iaload, 1, (0, 0, 0, 0, [], 0)), (790, .invokevirtual 114, 3, (0, 157, 2, 6, [], 1035)), (793, .if_icmp .eq 65, 3, (0, 28, 0, 0, [], 0)), (796, .iconst 0, 1, (0, 0, 0, 0, [], 0)), (797, .ireturn, 1, (0, 0, 1, 0, [], 0))]
def bL_law_25 : ms_B := [(798, .aload_n 1, 1, (0, 1, 0, 0, [], 0)), (799, .aload_n 0, 1, (0, 0, 0, 0, [], 0)), (800, .iload_n 3, 1, (0, 3, 0, 0, [], 0)), (801, .iconst 1, 1, (1, 0, 0, 0, [], 0)), (802, .iadd, 1, (0, 0, 0, 0, [], 0)), (803, .iaload, 1, (0, 0, 0, 0, [], 0)), (804, .invokevirtual 115, 3, (0, 57, 2, 5, [], 642)), (807, .aload_n 2, 1, (0, 2, 0, 0, [], 0)), (808, .aload_n 0, 1, (0, 0, 0, 0, [], 0)), (809, .iload_n 3, 1, (0, 3, 0, 0, [], 0)), (810, .iconst 1, 1, (1, 0, 0, 0, [], 0)), (811, .iadd, 1, (0, 0, 0, 0, [], 0)), (812, .iaload, 1, (0, 0, 0, 0, [], 0)), (813, .invokevirtual 118, 3, (0, 158, 2, 6, [], 1039)), (816, .if_icmp .eq 42, 3, (0, 28, 0, 0, [], 0)), (819, .iconst 0, 1, (0, 0, 0, 0, [], 0)), (820, .ireturn, 1, (0, 0, 1, 0, [], 0))]
def bL_law_26 : ms_B := [(821, .aload_n 1, 1, (0, 1, 0, 0, [], 0)), (822, .aload_n 0, 1, (0, 0, 0, 0, [], 0)), (823, .iload_n 3, 1, (0, 3, 0, 0, [], 0)), (824, .iconst 1, 1, (1, 0, 0, 0, [], 0)), (825, .iadd, 1, (0, 0, 0, 0, [], 0)), (826, .iaload, 1, (0, 0, 0, 0, [], 0)), (827, .invokevirtual 119, 3, (0, 58, 2, 5, [], 646)), (830, .aload_n 2, 1, (0, 2, 0, 0, [], 0)), (831, .aload_n 0, 1, (0, 0, 0, 0, [], 0)), (832, .iload_n 3, 1, (0, 3, 0, 0, [], 0)), (833, .iconst 1, 1, (1, 0, 0, 0, [], 0)), (834, .iadd, 1, (0, 0, 0, 0, [], 0)), (835, .iaload, 1, (0, 0, 0, 0, [], 0)), (836, .invokevirtual 122, 3, (0, 159, 2, 6, [], 1043)), (839, .if_icmp .eq 19, 3, (0, 28, 0, 0, [], 0)), (842, .iconst 0, 1, (0, 0, 0, 0, [], 0)), (843, .ireturn, 1, (0, 0, 1, 0, [], 0))]
def bL_law_27 : ms_B := [(844, .aload_n 1, 1, (0, 1, 0, 0, [], 0)), (845, .invokevirtual 123, 3, (0, 59, 1, 5, [], 650)), (848, .aload_n 2, 1, (0, 2, 0, 0, [], 0)), (849, .invokevirtual 127, 3, (0, 160, 1, 6, [], 1047)), (852, .lcmp, 1, (0, 0, 0, 0, [], 0)), (853, .ifCond .eq 5, 3, (0, 28, 0, 0, [], 0)), (856, .iconst 0, 1, (0, 0, 0, 0, [], 0)), (857, .ireturn, 1, (0, 0, 1, 0, [], 0))]
def bL_law_28 : ms_B := [(858, .iinc 3 6, 3, (6, 3, 0, 0, [], 0)), (861, .goto (-843), 3, (0, 100, 0, 0, [], 0))]
def bL_law_29 : ms_B := [(864, .iconst 1, 1, (1, 0, 0, 0, [], 0)), (865, .ireturn, 1, (0, 0, 1, 0, [], 0))]
def bL_law_100 : ms_B := [(18, .iload_n 3, 1, (0, 3, 0, 0, [], 0)), (19, .aload_n 0, 1, (0, 0, 0, 0, [], 0)), (20, .arraylength, 1, (0, 0, 0, 0, [], 0)), (21, .bipush 6, 2, (6, 0, 0, 0, [], 0)), (23, .isub, 1, (0, 0, 0, 0, [], 0)), (24, .if_icmp .gt 840, 3, (0, 29, 0, 0, [], 0)), (27, .aload_n 0, 1, (0, 0, 0, 0, [], 0)), (28, .iload_n 3, 1, (0, 3, 0, 0, [], 0)), (29, .iaload, 1, (0, 0, 0, 0, [], 0)), (30, .bipush 31, 2, (31, 0, 0, 0, [], 0)), (32, .iand, 1, (0, 0, 0, 0, [], 0)), (33, .tableswitch 825 0 26 #[123, 146, 159, 172, 205, 248, 281, 304, 327, 350, 373, 386, 409, 442, 465, 488, 521, 544, 607, 660, 673, 696, 709, 742, 765, 788, 811], 123, (0, 28, 0, 0, [(0, 1), (1, 2), (2, 3), (3, 4), (4, 5), (5, 6), (6, 7), (7, 8), (8, 9), (9, 10), (10, 11), (11, 12), (12, 13), (13, 14), (14, 15), (15, 16), (16, 17), (17, 18), (18, 19), (19, 20), (20, 21), (21, 22), (22, 23), (23, 24), (24, 25), (25, 26), (26, 27)], 0))]
def ML_law : ms_M := (⟨"SleetLineLaw", "law", "([I)Z"⟩, code, 4, (some .boolean), (58, 1094), (1, 1), [0, 0, 0, 0], [bL_law_0, bL_law_1, bL_law_2, bL_law_3, bL_law_4, bL_law_5, bL_law_6, bL_law_7, bL_law_8, bL_law_9, bL_law_10, bL_law_11, bL_law_12, bL_law_13, bL_law_14, bL_law_15, bL_law_16, bL_law_17, bL_law_18, bL_law_19, bL_law_20, bL_law_21, bL_law_22, bL_law_23, bL_law_24, bL_law_25, bL_law_26, bL_law_27, bL_law_28, bL_law_29], [bL_law_100])
end
section
/-! What the machine decides of the methods. -/
set_option maxRecDepth 100000 in
theorem kX0_init : ms_ckM ms_P MX0_init = true := by decide +kernel
set_option maxRecDepth 100000 in
theorem kX0_judge : ms_ckM ms_P MX0_judge = true := by decide +kernel
set_option maxRecDepth 100000 in
theorem kX0_drawFrom : ms_ckM ms_P MX0_drawFrom = true := by decide +kernel
set_option maxRecDepth 100000 in
theorem kX0_judgeOne : ms_ckM ms_P MX0_judgeOne = true := by decide +kernel
set_option maxRecDepth 100000 in
theorem kX1_init : ms_ckM ms_P MX1_init = true := by decide +kernel
set_option maxRecDepth 100000 in
theorem kX1_begin : ms_ckM ms_P MX1_begin = true := by decide +kernel
set_option maxRecDepth 100000 in
theorem kX1_become : ms_ckM ms_P MX1_become = true := by decide +kernel
set_option maxRecDepth 100000 in
theorem kX1_remember : ms_ckM ms_P MX1_remember = true := by decide +kernel
set_option maxRecDepth 100000 in
theorem kX1_loseOldest : ms_ckM ms_P MX1_loseOldest = true := by decide +kernel
set_option maxRecDepth 100000 in
theorem kX1_takeBack : ms_ckM ms_P MX1_takeBack = true := by decide +kernel
set_option maxRecDepth 100000 in
theorem kX1_standing : ms_ckM ms_P MX1_standing = true := by decide +kernel
set_option maxRecDepth 100000 in
theorem kX2_init : ms_ckM ms_P MX2_init = true := by decide +kernel
set_option maxRecDepth 100000 in
theorem kX2_add : ms_ckM ms_P MX2_add = true := by decide +kernel
set_option maxRecDepth 100000 in
theorem kX2_tell : ms_ckM ms_P MX2_tell = true := by decide +kernel
set_option maxRecDepth 100000 in
theorem kX2_readItem : ms_ckM ms_P MX2_readItem = true := by decide +kernel
set_option maxRecDepth 100000 in
theorem kX2_readColumn : ms_ckM ms_P MX2_readColumn = true := by decide +kernel
set_option maxRecDepth 100000 in
theorem kX2_readGap : ms_ckM ms_P MX2_readGap = true := by decide +kernel
set_option maxRecDepth 100000 in
theorem kX2_readHands : ms_ckM ms_P MX2_readHands = true := by decide +kernel
set_option maxRecDepth 100000 in
theorem kX2_readVoter : ms_ckM ms_P MX2_readVoter = true := by decide +kernel
set_option maxRecDepth 100000 in
theorem kX2_readDay : ms_ckM ms_P MX2_readDay = true := by decide +kernel
set_option maxRecDepth 100000 in
theorem kX2_number : ms_ckM ms_P MX2_number = true := by decide +kernel
set_option maxRecDepth 100000 in
theorem kX2_ended : ms_ckM ms_P MX2_ended = true := by decide +kernel
set_option maxRecDepth 100000 in
theorem kX2_take : ms_ckM ms_P MX2_take = true := by decide +kernel
set_option maxRecDepth 100000 in
theorem kX2_takeLetters : ms_ckM ms_P MX2_takeLetters = true := by decide +kernel
set_option maxRecDepth 100000 in
theorem kX2_takeNumber : ms_ckM ms_P MX2_takeNumber = true := by decide +kernel
set_option maxRecDepth 100000 in
theorem kX3_init : ms_ckM ms_P MX3_init = true := by decide +kernel
set_option maxRecDepth 100000 in
theorem kX3_begin : ms_ckM ms_P MX3_begin = true := by decide +kernel
set_option maxRecDepth 100000 in
theorem kX3_addColumn : ms_ckM ms_P MX3_addColumn = true := by decide +kernel
set_option maxRecDepth 100000 in
theorem kX3_addVoter : ms_ckM ms_P MX3_addVoter = true := by decide +kernel
set_option maxRecDepth 100000 in
theorem kX3_addDay : ms_ckM ms_P MX3_addDay = true := by decide +kernel
set_option maxRecDepth 100000 in
theorem kX3_warmOn : ms_ckM ms_P MX3_warmOn = true := by decide +kernel
set_option maxRecDepth 100000 in
theorem kX3_snowLimit : ms_ckM ms_P MX3_snowLimit = true := by decide +kernel
set_option maxRecDepth 100000 in
theorem kX4_init : ms_ckM ms_P MX4_init = true := by decide +kernel
set_option maxRecDepth 100000 in
theorem kX4_type : ms_ckM ms_P MX4_type = true := by decide +kernel
set_option maxRecDepth 100000 in
theorem kX4_clear : ms_ckM ms_P MX4_clear = true := by decide +kernel
set_option maxRecDepth 100000 in
theorem kX4_wold : ms_ckM ms_P MX4_wold = true := by decide +kernel
set_option maxRecDepth 100000 in
theorem kX4_column : ms_ckM ms_P MX4_column = true := by decide +kernel
set_option maxRecDepth 100000 in
theorem kX4_field : ms_ckM ms_P MX4_field = true := by decide +kernel
set_option maxRecDepth 100000 in
theorem kX4_voter : ms_ckM ms_P MX4_voter = true := by decide +kernel
set_option maxRecDepth 100000 in
theorem kX4_days : ms_ckM ms_P MX4_days = true := by decide +kernel
end
section
/-! What the machine decides of the methods. -/
set_option maxRecDepth 100000 in
theorem kX4_warms : ms_ckM ms_P MX4_warms = true := by decide +kernel
set_option maxRecDepth 100000 in
theorem kX4_stakes : ms_ckM ms_P MX4_stakes = true := by decide +kernel
set_option maxRecDepth 100000 in
theorem kX4_pulls : ms_ckM ms_P MX4_pulls = true := by decide +kernel
set_option maxRecDepth 100000 in
theorem kX4_undo : ms_ckM ms_P MX4_undo = true := by decide +kernel
set_option maxRecDepth 100000 in
theorem kX4_now : ms_ckM ms_P MX4_now = true := by decide +kernel
set_option maxRecDepth 100000 in
theorem kX4_first : ms_ckM ms_P MX4_first = true := by decide +kernel
set_option maxRecDepth 100000 in
theorem kX4_fair : ms_ckM ms_P MX4_fair = true := by decide +kernel
set_option maxRecDepth 100000 in
theorem kX4_best : ms_ckM ms_P MX4_best = true := by decide +kernel
set_option maxRecDepth 100000 in
theorem kX4_power : ms_ckM ms_P MX4_power = true := by decide +kernel
set_option maxRecDepth 100000 in
theorem kX4_duel : ms_ckM ms_P MX4_duel = true := by decide +kernel
set_option maxRecDepth 100000 in
theorem kX4_odds : ms_ckM ms_P MX4_odds = true := by decide +kernel
set_option maxRecDepth 100000 in
theorem kX4_hears : ms_ckM ms_P MX4_hears = true := by decide +kernel
set_option maxRecDepth 100000 in
theorem kX4_forget : ms_ckM ms_P MX4_forget = true := by decide +kernel
set_option maxRecDepth 100000 in
theorem kX4_warmth : ms_ckM ms_P MX4_warmth = true := by decide +kernel
set_option maxRecDepth 100000 in
theorem kX4_ask : ms_ckM ms_P MX4_ask = true := by decide +kernel
set_option maxRecDepth 100000 in
theorem kX4_mark : ms_ckM ms_P MX4_mark = true := by decide +kernel
set_option maxRecDepth 100000 in
theorem kX4_keep : ms_ckM ms_P MX4_keep = true := by decide +kernel
set_option maxRecDepth 100000 in
theorem kX4_back : ms_ckM ms_P MX4_back = true := by decide +kernel
set_option maxRecDepth 100000 in
theorem kX4_count : ms_ckM ms_P MX4_count = true := by decide +kernel
set_option maxRecDepth 100000 in
theorem kX4_trace : ms_ckM ms_P MX4_trace = true := by decide +kernel
set_option maxRecDepth 100000 in
theorem kX4_within : ms_ckM ms_P MX4_within = true := by decide +kernel
set_option maxRecDepth 100000 in
theorem kX4_isColumn : ms_ckM ms_P MX4_isColumn = true := by decide +kernel
set_option maxRecDepth 100000 in
theorem kX4_isField : ms_ckM ms_P MX4_isField = true := by decide +kernel
set_option maxRecDepth 100000 in
theorem kX4_isVoter : ms_ckM ms_P MX4_isVoter = true := by decide +kernel
set_option maxRecDepth 100000 in
theorem kX4_warmToday : ms_ckM ms_P MX4_warmToday = true := by decide +kernel
set_option maxRecDepth 100000 in
theorem kX4_mild : ms_ckM ms_P MX4_mild = true := by decide +kernel
set_option maxRecDepth 100000 in
theorem kX4_falls : ms_ckM ms_P MX4_falls = true := by decide +kernel
set_option maxRecDepth 100000 in
theorem kX4_lowestUpTo : ms_ckM ms_P MX4_lowestUpTo = true := by decide +kernel
set_option maxRecDepth 100000 in
theorem kX4_edge : ms_ckM ms_P MX4_edge = true := by decide +kernel
set_option maxRecDepth 100000 in
theorem kX4_wet : ms_ckM ms_P MX4_wet = true := by decide +kernel
set_option maxRecDepth 100000 in
theorem kX4_claim : ms_ckM ms_P MX4_claim = true := by decide +kernel
set_option maxRecDepth 100000 in
theorem kX4_halves : ms_ckM ms_P MX4_halves = true := by decide +kernel
set_option maxRecDepth 100000 in
theorem kX4_greaterHalf : ms_ckM ms_P MX4_greaterHalf = true := by decide +kernel
set_option maxRecDepth 100000 in
theorem kX4_snowyFields : ms_ckM ms_P MX4_snowyFields = true := by decide +kernel
set_option maxRecDepth 100000 in
theorem kX4_rainyFields : ms_ckM ms_P MX4_rainyFields = true := by decide +kernel
set_option maxRecDepth 100000 in
theorem kX4_widest : ms_ckM ms_P MX4_widest = true := by decide +kernel
set_option maxRecDepth 100000 in
theorem kX4_vote : ms_ckM ms_P MX4_vote = true := by decide +kernel
set_option maxRecDepth 100000 in
theorem kX4_decidedOrders : ms_ckM ms_P MX4_decidedOrders = true := by decide +kernel
set_option maxRecDepth 100000 in
theorem kX4_weightOf : ms_ckM ms_P MX4_weightOf = true := by decide +kernel
set_option maxRecDepth 100000 in
theorem kX4_snowyWays : ms_ckM ms_P MX4_snowyWays = true := by decide +kernel
end
section
/-! What the machine decides of the methods. -/
set_option maxRecDepth 100000 in
theorem kX4_leastTerms : ms_ckM ms_P MX4_leastTerms = true := by decide +kernel
set_option maxRecDepth 100000 in
theorem kX4_greatestShared : ms_ckM ms_P MX4_greatestShared = true := by decide +kernel
set_option maxRecDepth 100000 in
theorem kX4_hearNothing : ms_ckM ms_P MX4_hearNothing = true := by decide +kernel
set_option maxRecDepth 100000 in
theorem kX4_warmths : ms_ckM ms_P MX4_warmths = true := by decide +kernel
set_option maxRecDepth 100000 in
theorem kX4_greaterPart : ms_ckM ms_P MX4_greaterPart = true := by decide +kernel
set_option maxRecDepth 100000 in
theorem kX4_columnMark : ms_ckM ms_P MX4_columnMark = true := by decide +kernel
set_option maxRecDepth 100000 in
theorem kX4_moorMark : ms_ckM ms_P MX4_moorMark = true := by decide +kernel
set_option maxRecDepth 100000 in
theorem kX4_fenMark : ms_ckM ms_P MX4_fenMark = true := by decide +kernel
set_option maxRecDepth 100000 in
theorem kX4_fellMark : ms_ckM ms_P MX4_fellMark = true := by decide +kernel
set_option maxRecDepth 100000 in
theorem kX4_saltingMark : ms_ckM ms_P MX4_saltingMark = true := by decide +kernel
set_option maxRecDepth 100000 in
theorem kX4_woodMark : ms_ckM ms_P MX4_woodMark = true := by decide +kernel
set_option maxRecDepth 100000 in
theorem kX5_in : ms_ckM ms_P MX5_in = true := by decide +kernel
set_option maxRecDepth 100000 in
theorem kX5_common : ms_ckM ms_P MX5_common = true := by decide +kernel
set_option maxRecDepth 100000 in
theorem kX5_init : ms_ckM ms_P MX5_init = true := by decide +kernel
set_option maxRecDepth 100000 in
theorem kX5_isColumn : ms_ckM ms_P MX5_isColumn = true := by decide +kernel
set_option maxRecDepth 100000 in
theorem kX5_isField : ms_ckM ms_P MX5_isField = true := by decide +kernel
set_option maxRecDepth 100000 in
theorem kX5_type : ms_ckM ms_P MX5_type = true := by decide +kernel
set_option maxRecDepth 100000 in
theorem kX5_clear : ms_ckM ms_P MX5_clear = true := by decide +kernel
set_option maxRecDepth 100000 in
theorem kX5_here : ms_ckM ms_P MX5_here = true := by decide +kernel
set_option maxRecDepth 100000 in
theorem kX5_skip : ms_ckM ms_P MX5_skip = true := by decide +kernel
set_option maxRecDepth 100000 in
theorem kX5_number : ms_ckM ms_P MX5_number = true := by decide +kernel
set_option maxRecDepth 100000 in
theorem kX5_ends : ms_ckM ms_P MX5_ends = true := by decide +kernel
set_option maxRecDepth 100000 in
theorem kX5_readsColumn : ms_ckM ms_P MX5_readsColumn = true := by decide +kernel
set_option maxRecDepth 100000 in
theorem kX5_readsVoter : ms_ckM ms_P MX5_readsVoter = true := by decide +kernel
set_option maxRecDepth 100000 in
theorem kX5_readsDay : ms_ckM ms_P MX5_readsDay = true := by decide +kernel
set_option maxRecDepth 100000 in
theorem kX5_readsGap : ms_ckM ms_P MX5_readsGap = true := by decide +kernel
set_option maxRecDepth 100000 in
theorem kX5_readsHands : ms_ckM ms_P MX5_readsHands = true := by decide +kernel
set_option maxRecDepth 100000 in
theorem kX5_readsItem : ms_ckM ms_P MX5_readsItem = true := by decide +kernel
set_option maxRecDepth 100000 in
theorem kX5_wold : ms_ckM ms_P MX5_wold = true := by decide +kernel
set_option maxRecDepth 100000 in
theorem kX5_comesRead : ms_ckM ms_P MX5_comesRead = true := by decide +kernel
set_option maxRecDepth 100000 in
theorem kX5_warmAt : ms_ckM ms_P MX5_warmAt = true := by decide +kernel
set_option maxRecDepth 100000 in
theorem kX5_mildBy : ms_ckM ms_P MX5_mildBy = true := by decide +kernel
set_option maxRecDepth 100000 in
theorem kX5_warmthNow : ms_ckM ms_P MX5_warmthNow = true := by decide +kernel
set_option maxRecDepth 100000 in
theorem kX5_mild : ms_ckM ms_P MX5_mild = true := by decide +kernel
set_option maxRecDepth 100000 in
theorem kX5_lowestBy : ms_ckM ms_P MX5_lowestBy = true := by decide +kernel
set_option maxRecDepth 100000 in
theorem kX5_edge : ms_ckM ms_P MX5_edge = true := by decide +kernel
set_option maxRecDepth 100000 in
theorem kX5_wet : ms_ckM ms_P MX5_wet = true := by decide +kernel
set_option maxRecDepth 100000 in
theorem kX5_halves : ms_ckM ms_P MX5_halves = true := by decide +kernel
set_option maxRecDepth 100000 in
theorem kX5_column : ms_ckM ms_P MX5_column = true := by decide +kernel
set_option maxRecDepth 100000 in
theorem kX5_falls : ms_ckM ms_P MX5_falls = true := by decide +kernel
end
section
/-! What the machine decides of the methods. -/
set_option maxRecDepth 100000 in
theorem kX5_field : ms_ckM ms_P MX5_field = true := by decide +kernel
set_option maxRecDepth 100000 in
theorem kX5_voter : ms_ckM ms_P MX5_voter = true := by decide +kernel
set_option maxRecDepth 100000 in
theorem kX5_fallMany : ms_ckM ms_P MX5_fallMany = true := by decide +kernel
set_option maxRecDepth 100000 in
theorem kX5_writes : ms_ckM ms_P MX5_writes = true := by decide +kernel
set_option maxRecDepth 100000 in
theorem kX5_readsBack : ms_ckM ms_P MX5_readsBack = true := by decide +kernel
set_option maxRecDepth 100000 in
theorem kX5_notes : ms_ckM ms_P MX5_notes = true := by decide +kernel
set_option maxRecDepth 100000 in
theorem kX5_days : ms_ckM ms_P MX5_days = true := by decide +kernel
set_option maxRecDepth 100000 in
theorem kX5_warms : ms_ckM ms_P MX5_warms = true := by decide +kernel
set_option maxRecDepth 100000 in
theorem kX5_stakes : ms_ckM ms_P MX5_stakes = true := by decide +kernel
set_option maxRecDepth 100000 in
theorem kX5_pulls : ms_ckM ms_P MX5_pulls = true := by decide +kernel
set_option maxRecDepth 100000 in
theorem kX5_undo : ms_ckM ms_P MX5_undo = true := by decide +kernel
set_option maxRecDepth 100000 in
theorem kX5_widest : ms_ckM ms_P MX5_widest = true := by decide +kernel
set_option maxRecDepth 100000 in
theorem kX5_stakeMany : ms_ckM ms_P MX5_stakeMany = true := by decide +kernel
set_option maxRecDepth 100000 in
theorem kX5_vote : ms_ckM ms_P MX5_vote = true := by decide +kernel
set_option maxRecDepth 100000 in
theorem kX5_now : ms_ckM ms_P MX5_now = true := by decide +kernel
set_option maxRecDepth 100000 in
theorem kX5_first : ms_ckM ms_P MX5_first = true := by decide +kernel
set_option maxRecDepth 100000 in
theorem kX5_firstLine : ms_ckM ms_P MX5_firstLine = true := by decide +kernel
set_option maxRecDepth 100000 in
theorem kX5_nextLine : ms_ckM ms_P MX5_nextLine = true := by decide +kernel
set_option maxRecDepth 100000 in
theorem kX5_lineNumber : ms_ckM ms_P MX5_lineNumber = true := by decide +kernel
set_option maxRecDepth 100000 in
theorem kX5_hasHill : ms_ckM ms_P MX5_hasHill = true := by decide +kernel
set_option maxRecDepth 100000 in
theorem kX5_hasSea : ms_ckM ms_P MX5_hasSea = true := by decide +kernel
set_option maxRecDepth 100000 in
theorem kX5_allOf : ms_ckM ms_P MX5_allOf = true := by decide +kernel
set_option maxRecDepth 100000 in
theorem kX5_fair : ms_ckM ms_P MX5_fair = true := by decide +kernel
set_option maxRecDepth 100000 in
theorem kX5_best : ms_ckM ms_P MX5_best = true := by decide +kernel
set_option maxRecDepth 100000 in
theorem kX5_orders : ms_ckM ms_P MX5_orders = true := by decide +kernel
set_option maxRecDepth 100000 in
theorem kX5_weightOf : ms_ckM ms_P MX5_weightOf = true := by decide +kernel
set_option maxRecDepth 100000 in
theorem kX5_power : ms_ckM ms_P MX5_power = true := by decide +kernel
set_option maxRecDepth 100000 in
theorem kX5_duel : ms_ckM ms_P MX5_duel = true := by decide +kernel
set_option maxRecDepth 100000 in
theorem kX5_odds : ms_ckM ms_P MX5_odds = true := by decide +kernel
set_option maxRecDepth 100000 in
theorem kX5_hears : ms_ckM ms_P MX5_hears = true := by decide +kernel
set_option maxRecDepth 100000 in
theorem kX5_forget : ms_ckM ms_P MX5_forget = true := by decide +kernel
set_option maxRecDepth 100000 in
theorem kX5_says : ms_ckM ms_P MX5_says = true := by decide +kernel
set_option maxRecDepth 100000 in
theorem kX5_isSo : ms_ckM ms_P MX5_isSo = true := by decide +kernel
set_option maxRecDepth 100000 in
theorem kX5_warmth : ms_ckM ms_P MX5_warmth = true := by decide +kernel
set_option maxRecDepth 100000 in
theorem kX5_ask : ms_ckM ms_P MX5_ask = true := by decide +kernel
set_option maxRecDepth 100000 in
theorem kX5_marked : ms_ckM ms_P MX5_marked = true := by decide +kernel
set_option maxRecDepth 100000 in
theorem kX5_mark : ms_ckM ms_P MX5_mark = true := by decide +kernel
set_option maxRecDepth 100000 in
theorem kX5_keep : ms_ckM ms_P MX5_keep = true := by decide +kernel
set_option maxRecDepth 100000 in
theorem kX5_back : ms_ckM ms_P MX5_back = true := by decide +kernel
set_option maxRecDepth 100000 in
theorem kX5_count : ms_ckM ms_P MX5_count = true := by decide +kernel
end
section
/-! What the machine decides of the methods. -/
set_option maxRecDepth 100000 in
theorem kX5_trace : ms_ckM ms_P MX5_trace = true := by decide +kernel
set_option maxRecDepth 100000 in
theorem kJ6_bitCount_0f7a4 : ms_ckM ms_P MJ6_bitCount_0f7a4 = true := by decide +kernel
end
section
/-! The law's own blocks; all methods. -/
set_option maxRecDepth 100000 in
theorem kL_0 : ms_ckB ms_P ML_law bL_law_0 = true := by decide +kernel
set_option maxRecDepth 100000 in
theorem kL_1 : ms_ckB ms_P ML_law bL_law_1 = true := by decide +kernel
set_option maxRecDepth 100000 in
theorem kL_2 : ms_ckB ms_P ML_law bL_law_2 = true := by decide +kernel
set_option maxRecDepth 100000 in
theorem kL_3 : ms_ckB ms_P ML_law bL_law_3 = true := by decide +kernel
set_option maxRecDepth 100000 in
theorem kL_4 : ms_ckB ms_P ML_law bL_law_4 = true := by decide +kernel
set_option maxRecDepth 100000 in
theorem kL_5 : ms_ckB ms_P ML_law bL_law_5 = true := by decide +kernel
set_option maxRecDepth 100000 in
theorem kL_6 : ms_ckB ms_P ML_law bL_law_6 = true := by decide +kernel
set_option maxRecDepth 100000 in
theorem kL_7 : ms_ckB ms_P ML_law bL_law_7 = true := by decide +kernel
set_option maxRecDepth 100000 in
theorem kL_8 : ms_ckB ms_P ML_law bL_law_8 = true := by decide +kernel
set_option maxRecDepth 100000 in
theorem kL_9 : ms_ckB ms_P ML_law bL_law_9 = true := by decide +kernel
set_option maxRecDepth 100000 in
theorem kL_10 : ms_ckB ms_P ML_law bL_law_10 = true := by decide +kernel
set_option maxRecDepth 100000 in
theorem kL_11 : ms_ckB ms_P ML_law bL_law_11 = true := by decide +kernel
set_option maxRecDepth 100000 in
theorem kL_12 : ms_ckB ms_P ML_law bL_law_12 = true := by decide +kernel
set_option maxRecDepth 100000 in
theorem kL_13 : ms_ckB ms_P ML_law bL_law_13 = true := by decide +kernel
set_option maxRecDepth 100000 in
theorem kL_14 : ms_ckB ms_P ML_law bL_law_14 = true := by decide +kernel
set_option maxRecDepth 100000 in
theorem kL_15 : ms_ckB ms_P ML_law bL_law_15 = true := by decide +kernel
set_option maxRecDepth 100000 in
theorem kL_16 : ms_ckB ms_P ML_law bL_law_16 = true := by decide +kernel
set_option maxRecDepth 100000 in
theorem kL_17 : ms_ckB ms_P ML_law bL_law_17 = true := by decide +kernel
set_option maxRecDepth 100000 in
theorem kL_18 : ms_ckB ms_P ML_law bL_law_18 = true := by decide +kernel
set_option maxRecDepth 100000 in
theorem kL_19 : ms_ckB ms_P ML_law bL_law_19 = true := by decide +kernel
set_option maxRecDepth 100000 in
theorem kL_20 : ms_ckB ms_P ML_law bL_law_20 = true := by decide +kernel
set_option maxRecDepth 100000 in
theorem kL_21 : ms_ckB ms_P ML_law bL_law_21 = true := by decide +kernel
set_option maxRecDepth 100000 in
theorem kL_22 : ms_ckB ms_P ML_law bL_law_22 = true := by decide +kernel
set_option maxRecDepth 100000 in
theorem kL_23 : ms_ckB ms_P ML_law bL_law_23 = true := by decide +kernel
set_option maxRecDepth 100000 in
theorem kL_24 : ms_ckB ms_P ML_law bL_law_24 = true := by decide +kernel
set_option maxRecDepth 100000 in
theorem kL_25 : ms_ckB ms_P ML_law bL_law_25 = true := by decide +kernel
set_option maxRecDepth 100000 in
theorem kL_26 : ms_ckB ms_P ML_law bL_law_26 = true := by decide +kernel
set_option maxRecDepth 100000 in
theorem kL_27 : ms_ckB ms_P ML_law bL_law_27 = true := by decide +kernel
set_option maxRecDepth 100000 in
theorem kL_28 : ms_ckB ms_P ML_law bL_law_28 = true := by decide +kernel
set_option maxRecDepth 100000 in
theorem kL_29 : ms_ckB ms_P ML_law bL_law_29 = true := by decide +kernel
set_option maxRecDepth 100000 in
theorem kL_100 : ms_ckB ms_P ML_law bL_law_100 = true := by decide +kernel
theorem kL_nb : [bL_law_0, bL_law_1, bL_law_2, bL_law_3, bL_law_4, bL_law_5, bL_law_6, bL_law_7, bL_law_8, bL_law_9, bL_law_10, bL_law_11, bL_law_12, bL_law_13, bL_law_14, bL_law_15, bL_law_16, bL_law_17, bL_law_18, bL_law_19, bL_law_20, bL_law_21, bL_law_22, bL_law_23, bL_law_24, bL_law_25, bL_law_26, bL_law_27, bL_law_28, bL_law_29].all (ms_ckB ms_P ML_law) = true := by
  simp only [List.all_cons, List.all_nil, Bool.and_true, Bool.and_eq_true, kL_0, kL_1, kL_2, kL_3, kL_4, kL_5, kL_6, kL_7, kL_8, kL_9, kL_10, kL_11, kL_12, kL_13, kL_14, kL_15, kL_16, kL_17, kL_18, kL_19, kL_20, kL_21, kL_22, kL_23, kL_24, kL_25, kL_26, kL_27, kL_28, kL_29, and_self]
theorem kL_nc : [bL_law_100].all (ms_ckB ms_P ML_law) = true := by
  simp only [List.all_cons, List.all_nil, Bool.and_true, Bool.and_eq_true, kL_100, and_self]
theorem ms_P_ok : ∀ M ∈ ms_P, ms_ckM ms_P M = true := by
  unfold ms_P
  exact List.forall_mem_cons.mpr ⟨kX0_init, List.forall_mem_cons.mpr ⟨kX0_judge, List.forall_mem_cons.mpr ⟨kX0_drawFrom, List.forall_mem_cons.mpr ⟨kX0_judgeOne, List.forall_mem_cons.mpr ⟨kX1_init, List.forall_mem_cons.mpr ⟨kX1_begin, List.forall_mem_cons.mpr ⟨kX1_become, List.forall_mem_cons.mpr ⟨kX1_remember, List.forall_mem_cons.mpr ⟨kX1_loseOldest, List.forall_mem_cons.mpr ⟨kX1_takeBack, List.forall_mem_cons.mpr ⟨kX1_standing, List.forall_mem_cons.mpr ⟨kX2_init, List.forall_mem_cons.mpr ⟨kX2_add, List.forall_mem_cons.mpr ⟨kX2_tell, List.forall_mem_cons.mpr ⟨kX2_readItem, List.forall_mem_cons.mpr ⟨kX2_readColumn, List.forall_mem_cons.mpr ⟨kX2_readGap, List.forall_mem_cons.mpr ⟨kX2_readHands, List.forall_mem_cons.mpr ⟨kX2_readVoter, List.forall_mem_cons.mpr ⟨kX2_readDay, List.forall_mem_cons.mpr ⟨kX2_number, List.forall_mem_cons.mpr ⟨kX2_ended, List.forall_mem_cons.mpr ⟨kX2_take, List.forall_mem_cons.mpr ⟨kX2_takeLetters, List.forall_mem_cons.mpr ⟨kX2_takeNumber, List.forall_mem_cons.mpr ⟨kX3_init, List.forall_mem_cons.mpr ⟨kX3_begin, List.forall_mem_cons.mpr ⟨kX3_addColumn, List.forall_mem_cons.mpr ⟨kX3_addVoter, List.forall_mem_cons.mpr ⟨kX3_addDay, List.forall_mem_cons.mpr ⟨kX3_warmOn, List.forall_mem_cons.mpr ⟨kX3_snowLimit, List.forall_mem_cons.mpr ⟨kX4_init, List.forall_mem_cons.mpr ⟨kX4_type, List.forall_mem_cons.mpr ⟨kX4_clear, List.forall_mem_cons.mpr ⟨kX4_wold, List.forall_mem_cons.mpr ⟨kX4_column, List.forall_mem_cons.mpr ⟨kX4_field, List.forall_mem_cons.mpr ⟨kX4_voter, List.forall_mem_cons.mpr ⟨kX4_days, List.forall_mem_cons.mpr ⟨kX4_warms, List.forall_mem_cons.mpr ⟨kX4_stakes, List.forall_mem_cons.mpr ⟨kX4_pulls, List.forall_mem_cons.mpr ⟨kX4_undo, List.forall_mem_cons.mpr ⟨kX4_now, List.forall_mem_cons.mpr ⟨kX4_first, List.forall_mem_cons.mpr ⟨kX4_fair, List.forall_mem_cons.mpr ⟨kX4_best, List.forall_mem_cons.mpr ⟨kX4_power, List.forall_mem_cons.mpr ⟨kX4_duel, List.forall_mem_cons.mpr ⟨kX4_odds, List.forall_mem_cons.mpr ⟨kX4_hears, List.forall_mem_cons.mpr ⟨kX4_forget, List.forall_mem_cons.mpr ⟨kX4_warmth, List.forall_mem_cons.mpr ⟨kX4_ask, List.forall_mem_cons.mpr ⟨kX4_mark, List.forall_mem_cons.mpr ⟨kX4_keep, List.forall_mem_cons.mpr ⟨kX4_back, List.forall_mem_cons.mpr ⟨kX4_count, List.forall_mem_cons.mpr ⟨kX4_trace, List.forall_mem_cons.mpr ⟨kX4_within, List.forall_mem_cons.mpr ⟨kX4_isColumn, List.forall_mem_cons.mpr ⟨kX4_isField, List.forall_mem_cons.mpr ⟨kX4_isVoter, List.forall_mem_cons.mpr ⟨kX4_warmToday, List.forall_mem_cons.mpr ⟨kX4_mild, List.forall_mem_cons.mpr ⟨kX4_falls, List.forall_mem_cons.mpr ⟨kX4_lowestUpTo, List.forall_mem_cons.mpr ⟨kX4_edge, List.forall_mem_cons.mpr ⟨kX4_wet, List.forall_mem_cons.mpr ⟨kX4_claim, List.forall_mem_cons.mpr ⟨kX4_halves, List.forall_mem_cons.mpr ⟨kX4_greaterHalf, List.forall_mem_cons.mpr ⟨kX4_snowyFields, List.forall_mem_cons.mpr ⟨kX4_rainyFields, List.forall_mem_cons.mpr ⟨kX4_widest, List.forall_mem_cons.mpr ⟨kX4_vote, List.forall_mem_cons.mpr ⟨kX4_decidedOrders, List.forall_mem_cons.mpr ⟨kX4_weightOf, List.forall_mem_cons.mpr ⟨kX4_snowyWays, List.forall_mem_cons.mpr ⟨kX4_leastTerms, List.forall_mem_cons.mpr ⟨kX4_greatestShared, List.forall_mem_cons.mpr ⟨kX4_hearNothing, List.forall_mem_cons.mpr ⟨kX4_warmths, List.forall_mem_cons.mpr ⟨kX4_greaterPart, List.forall_mem_cons.mpr ⟨kX4_columnMark, List.forall_mem_cons.mpr ⟨kX4_moorMark, List.forall_mem_cons.mpr ⟨kX4_fenMark, List.forall_mem_cons.mpr ⟨kX4_fellMark, List.forall_mem_cons.mpr ⟨kX4_saltingMark, List.forall_mem_cons.mpr ⟨kX4_woodMark, List.forall_mem_cons.mpr ⟨kX5_in, List.forall_mem_cons.mpr ⟨kX5_common, List.forall_mem_cons.mpr ⟨kX5_init, List.forall_mem_cons.mpr ⟨kX5_isColumn, List.forall_mem_cons.mpr ⟨kX5_isField, List.forall_mem_cons.mpr ⟨kX5_type, List.forall_mem_cons.mpr ⟨kX5_clear, List.forall_mem_cons.mpr ⟨kX5_here, List.forall_mem_cons.mpr ⟨kX5_skip, List.forall_mem_cons.mpr ⟨kX5_number, List.forall_mem_cons.mpr ⟨kX5_ends, List.forall_mem_cons.mpr ⟨kX5_readsColumn, List.forall_mem_cons.mpr ⟨kX5_readsVoter, List.forall_mem_cons.mpr ⟨kX5_readsDay, List.forall_mem_cons.mpr ⟨kX5_readsGap, List.forall_mem_cons.mpr ⟨kX5_readsHands, List.forall_mem_cons.mpr ⟨kX5_readsItem, List.forall_mem_cons.mpr ⟨kX5_wold, List.forall_mem_cons.mpr ⟨kX5_comesRead, List.forall_mem_cons.mpr ⟨kX5_warmAt, List.forall_mem_cons.mpr ⟨kX5_mildBy, List.forall_mem_cons.mpr ⟨kX5_warmthNow, List.forall_mem_cons.mpr ⟨kX5_mild, List.forall_mem_cons.mpr ⟨kX5_lowestBy, List.forall_mem_cons.mpr ⟨kX5_edge, List.forall_mem_cons.mpr ⟨kX5_wet, List.forall_mem_cons.mpr ⟨kX5_halves, List.forall_mem_cons.mpr ⟨kX5_column, List.forall_mem_cons.mpr ⟨kX5_falls, List.forall_mem_cons.mpr ⟨kX5_field, List.forall_mem_cons.mpr ⟨kX5_voter, List.forall_mem_cons.mpr ⟨kX5_fallMany, List.forall_mem_cons.mpr ⟨kX5_writes, List.forall_mem_cons.mpr ⟨kX5_readsBack, List.forall_mem_cons.mpr ⟨kX5_notes, List.forall_mem_cons.mpr ⟨kX5_days, List.forall_mem_cons.mpr ⟨kX5_warms, List.forall_mem_cons.mpr ⟨kX5_stakes, List.forall_mem_cons.mpr ⟨kX5_pulls, List.forall_mem_cons.mpr ⟨kX5_undo, List.forall_mem_cons.mpr ⟨kX5_widest, List.forall_mem_cons.mpr ⟨kX5_stakeMany, List.forall_mem_cons.mpr ⟨kX5_vote, List.forall_mem_cons.mpr ⟨kX5_now, List.forall_mem_cons.mpr ⟨kX5_first, List.forall_mem_cons.mpr ⟨kX5_firstLine, List.forall_mem_cons.mpr ⟨kX5_nextLine, List.forall_mem_cons.mpr ⟨kX5_lineNumber, List.forall_mem_cons.mpr ⟨kX5_hasHill, List.forall_mem_cons.mpr ⟨kX5_hasSea, List.forall_mem_cons.mpr ⟨kX5_allOf, List.forall_mem_cons.mpr ⟨kX5_fair, List.forall_mem_cons.mpr ⟨kX5_best, List.forall_mem_cons.mpr ⟨kX5_orders, List.forall_mem_cons.mpr ⟨kX5_weightOf, List.forall_mem_cons.mpr ⟨kX5_power, List.forall_mem_cons.mpr ⟨kX5_duel, List.forall_mem_cons.mpr ⟨kX5_odds, List.forall_mem_cons.mpr ⟨kX5_hears, List.forall_mem_cons.mpr ⟨kX5_forget, List.forall_mem_cons.mpr ⟨kX5_says, List.forall_mem_cons.mpr ⟨kX5_isSo, List.forall_mem_cons.mpr ⟨kX5_warmth, List.forall_mem_cons.mpr ⟨kX5_ask, List.forall_mem_cons.mpr ⟨kX5_marked, List.forall_mem_cons.mpr ⟨kX5_mark, List.forall_mem_cons.mpr ⟨kX5_keep, List.forall_mem_cons.mpr ⟨kX5_back, List.forall_mem_cons.mpr ⟨kX5_count, List.forall_mem_cons.mpr ⟨kX5_trace, List.forall_mem_cons.mpr ⟨kJ6_bitCount_0f7a4, fun _ h => absurd h List.not_mem_nil⟩⟩⟩⟩⟩⟩⟩⟩⟩⟩⟩⟩⟩⟩⟩⟩⟩⟩⟩⟩⟩⟩⟩⟩⟩⟩⟩⟩⟩⟩⟩⟩⟩⟩⟩⟩⟩⟩⟩⟩⟩⟩⟩⟩⟩⟩⟩⟩⟩⟩⟩⟩⟩⟩⟩⟩⟩⟩⟩⟩⟩⟩⟩⟩⟩⟩⟩⟩⟩⟩⟩⟩⟩⟩⟩⟩⟩⟩⟩⟩⟩⟩⟩⟩⟩⟩⟩⟩⟩⟩⟩⟩⟩⟩⟩⟩⟩⟩⟩⟩⟩⟩⟩⟩⟩⟩⟩⟩⟩⟩⟩⟩⟩⟩⟩⟩⟩⟩⟩⟩⟩⟩⟩⟩⟩⟩⟩⟩⟩⟩⟩⟩⟩⟩⟩⟩⟩⟩⟩⟩⟩⟩⟩⟩⟩⟩⟩⟩⟩⟩⟩⟩⟩⟩⟩⟩⟩⟩⟩⟩⟩⟩
theorem ms_L_ok (t : Nat) : ms_ckB ms_P ML_law (M_bl ML_law t) = true := ms_ckM_bl (M := ML_law) kL_nb kL_nc t
end
section
-- ===== end of PART A; then your names; then what follows =====
/-! THE CLAIM OUT OF ONE WALK OF THE LAW'S BODY. Your part is whole_start (and what it stands on); all else here is the same for every law, but numbers. -/
def R_law : String := "SleetLineLaw"
def lw_P (b : Addr) (xs : List Int32) (args : Array Value) (s : State) : Prop := args = #[.ref b] ∧ s.IntsAt b xs ∧ xs.length ≤ 3072 ∧ (Jvm.Cond.and given_1 narrow_1).before args s = true
def lw_Q (_ : Array Value) (s : State) (o : Outcome) (t : State) : Prop := o = .returned (some (.int 1)) ∧ Framed s o t [] 600000 7302250
def lw_Z (below : List Frame) (a : Array Value) (s : State) : State → Prop := fun t => ∃ o, t.status = .running ∧ Ended t below o ∧ lw_Q a s o t
/-- the law's own end, with 1 on the stack, nothing written that was there before, its room as the claim has it -/
theorem lw_ret {p : Program} {l : Launch} {e : Env} {s : State} {m : MethodId} {below : List Frame} {meth : Method} {c : Code} {b : Nat} (hx : p.tables.exec = Jvm.exec) (hb : c.code = code) (hr : meth.sig.returnType = ret) (hlocks : meth.locks = false) {pc : Nat} {H : Heap} {ls : Array Slot} (hdg : decode code pc = .ok (.ireturn, 1)) : W p l e room_1 s m #[Value.ref b] below meth c H [] 600000 7302250 (lw_Z below #[Value.ref b] s) (F0 m pc ls [.int 1]) := by
  intro T hT X
  obtain ⟨fs, hret, hrun, hended, hW, hframe⟩ := X.leave (v := some (.int 1)) (hlocks := hlocks) (fun h => by rw [hr] at h; cases h)
  have hmeth' : T.vm.method? m = some meth := X.method'
  refine ⟨T.setFrames fs, ?_, .returned (some (.int 1)), hrun, hended, rfl, ⟨_, rfl⟩, hW, hframe⟩
  jvm_step X.here [X.here.top, hx, hb, hdg, hmeth', hr, ret, narrow_b1]
  (try refine ⟨rfl, ?_⟩); (try refine ⟨rfl, ?_⟩)
  first | (intro acts; rw [hret _ acts rfl rfl rfl]) | rw [hret _ _ rfl rfl rfl]
  exact Steps.refl _
/-- what holds at the law's entry: the machine, the code, the tables' words (any of lw_tbl by 'hts w (by decide +kernel)'), the script of L ints xs at the cell b, what the Statement gives of the start (any of its parts by flat_of_before) -/
def lw_At (p : Program) (s : State) (m : MethodId) (meth : Method) (c : Code) (b L : Nat) (xs : Nat → Int32) : Prop :=
  p.tables.exec = Jvm.exec ∧ c.code = code ∧ meth.sig.returnType = ret ∧ c.maxLocals = 4 ∧ s.vm.findClass R_law = some m.cls ∧ (∀ w ∈ lw_tbl, w.before #[Value.ref b] s = true) ∧ va_X b L xs s s.heap ∧ b < s.heap.size ∧ meth.locks = false ∧ (Jvm.Cond.and given_1 narrow_1).before #[Value.ref b] s = true

/-! The law's walk out of the small machine's. -/
def ms_XL (L : Nat) (f : Int → Int) : ms_Z := fun n => if n = 0 then some (L, f) else ms_X1 n
def ms_law (L : Nat) (f : Int → Int) : Prop := ms_WP (ms_Ok ms_P 30) (ms_XL L f) ML_law (fun r _ _ => r = some (mI 1)) (M_bl ML_law 0) [mE 0, mL 0, mL 0, mL 0] [] ([], 0, 0) (fun _ _ => 0)
theorem wd_law : (wd 130 (.arrayClass .int) && wd 289 (.arrayClass .boolean) && wd 88 (.instantiable RX4 11) && wd 96 (.instantiable RX2 9) && wd 132 (.instantiable RX3 11) && wd 190 (.instantiable RX0 7) && wd 223 (.instantiable RX1 7) && wd 655 (.instantiable RX5 37) && wd 78 (.initialized "SleetLine")) = true := by decide +kernel
theorem lt_over : lw_tbl[254]? = some (Cond.arrayOver (.object RX1)) := by decide +kernel
theorem lt_lays : lw_tbl[555]? = some (Cond.laysStatic "SleetLine" "ORDERS" "[I") := by decide +kernel
theorem lt_nest : ∀ q ∈ ms_nest, Cond.methodLinkNest q.1 q.2.1 q.2.2 "SleetLine" ∈ lw_tbl := by
  intro q hq
  simp only [ms_nest, List.mem_cons, List.not_mem_nil, or_false] at hq
  rcases hq with rfl | rfl | rfl | rfl | rfl
  · exact List.mem_of_getElem? (i := 97) (by decide +kernel)
  · exact List.mem_of_getElem? (i := 133) (by decide +kernel)
  · exact List.mem_of_getElem? (i := 191) (by decide +kernel)
  · exact List.mem_of_getElem? (i := 224) (by decide +kernel)
  · exact List.mem_of_getElem? (i := 321) (by decide +kernel)
theorem ms_arrK {args : Array Value} {s : State} {ty : FieldType} (h : (Cond.arrayClass ty).before args s = true) (hty : ∀ C, ty ≠ .object C) : ∃ cA : ClassId, ArrOfT s cA ty ∧ va_RA s cA ty := by
  obtain ⟨c, k, comp, h1, h2, h3⟩ := Cond.arrayClass_spec h
  refine ⟨c, fun n z => ⟨fun k h => (by cases h), k, h2, comp, h3⟩, ?_⟩
  cases ty
  case object C => exact absurd rfl (hty C)
  all_goals exact h1
theorem ms_arrO {s : State} {C : String} (h : va_AO C s) : ∃ cA : ClassId, ArrOfT s cA (.object C) ∧ va_RA s cA (.object C) := by
  obtain ⟨comp, c, k, h1, h2, h3, h4, h5⟩ := Cond.arrayOver_spec h
  exact ⟨c, fun n z => ⟨fun k h => (by cases h), k, h3, comp, h4⟩, k, comp, h3, h4, h1, h5⟩
theorem rg_i32 (x : Int32) : rg x.toInt := by
  have h1 := Int32.le_toInt x
  have h2 := Int32.toInt_lt x
  unfold rg
  omega
set_option maxHeartbeats 4000000 in
theorem law_of_wp {p : Program} {e : Env} {s : State} {m : MethodId} {below : List Frame} {meth : Method} {c : Code} (l : Launch) {b L : Nat} {xs : Nat → Int32} (hL : L ≤ 3072) (C0 : lw_At p s m meth c b L xs) (hwp : ms_law L (fun i => (xs i.toNat).toInt)) : W p l e room_1 s m #[Value.ref b] below meth c s.heap [] 0 0 (lw_Z below #[Value.ref b] s) (entryFrame m ([Value.ref b] : List Value).toArray 4) := by
  obtain ⟨hx, hb, hr, hml, hown, hts, hX, hbl, hlocks, hgv⟩ := id C0
  have hg := flat_of_before _ hgv
  have w12 := wd_law
  simp only [Bool.and_eq_true] at w12
  obtain ⟨⟨⟨⟨⟨⟨⟨⟨v1, v2⟩, v3⟩, v4⟩, v5⟩, v6⟩, v7⟩, v8⟩, v9⟩ := w12
  have htg : ∀ w ∈ gw, w.before #[Value.ref b] s = true := fun w hw => hts w (List.mem_filter.mp hw).1
  have hA : ∀ q : Nat, s.heap.size ≤ q → (fun q : Nat => s.heap.size ≤ q) q := fun _ h => h
  have hnA : ∀ a : Nat, a < s.heap.size → ¬ (fun q : Nat => s.heap.size ≤ q) a := fun a h => Nat.not_le.mpr h
  obtain ⟨c0, i0, k0⟩ := u_known (C := RX0) (T := TX0) (N := 7) (n := 7) htg (ms_cls_ok (ci := 0) rfl).2.2.2.2.1 (htg _ (wd_in v6))
  obtain ⟨c1, i1', k1⟩ := u_known (C := RX1) (T := TX1) (N := 7) (n := 7) htg (ms_cls_ok (ci := 1) rfl).2.2.2.2.1 (htg _ (wd_in v7))
  obtain ⟨c2, i2, k2⟩ := u_known (C := RX2) (T := TX2) (N := 9) (n := 9) htg (ms_cls_ok (ci := 2) rfl).2.2.2.2.1 (htg _ (wd_in v4))
  obtain ⟨c3, i3, k3⟩ := u_known (C := RX3) (T := TX3) (N := 11) (n := 11) htg (ms_cls_ok (ci := 3) rfl).2.2.2.2.1 (htg _ (wd_in v5))
  obtain ⟨c4, i4, k4⟩ := u_known (C := RX4) (T := TX4) (N := 11) (n := 11) htg (ms_cls_ok (ci := 4) rfl).2.2.2.2.1 (htg _ (wd_in v3))
  obtain ⟨c5, i5, k5⟩ := u_known (C := RX5) (T := TX5) (N := 37) (n := 37) htg (ms_cls_ok (ci := 5) rfl).2.2.2.2.1 (htg _ (wd_in v8))
  have hAO : va_AO RX1 s := va_AO.of (hts _ (List.mem_of_getElem? lt_over))
  obtain ⟨a0, ha0⟩ := ms_arrK (htg _ (wd_in v1)) (fun C h => by cases h)
  obtain ⟨a1, ha1⟩ := ms_arrK (htg _ (wd_in v2)) (fun C h => by cases h)
  obtain ⟨a2, ha2⟩ := ms_arrO hAO
  obtain ⟨D, hKc⟩ : ∃ D : va_G, ∀ (k : Nat) (q : vw_C), ms_cls[k]? = some q → u_Kn s q.1 q.2.1 q.2.2 (D.1 k) (D.2 k) := by
    refine ⟨(fun k => match k with | 0 => c0 | 1 => c1 | 2 => c2 | 3 => c3 | 4 => c4 | _ => c5, fun k => match k with | 0 => i0 | 1 => i1' | 2 => i2 | 3 => i3 | 4 => i4 | _ => i5), ?_⟩
    intro k q hq
    match k, hq with
    | 0, hq => cases hq; exact k0
    | 1, hq => cases hq; exact k1
    | 2, hq => cases hq; exact k2
    | 3, hq => cases hq; exact k3
    | 4, hq => cases hq; exact k4
    | 5, hq => cases hq; exact k5
    | n + 6, hq => simp [ms_cls] at hq
  obtain ⟨cA, hcA⟩ : ∃ cA : Nat → ClassId, cA 0 = a0 ∧ cA 1 = a1 ∧ cA 2 = a2 := ⟨fun k => match k with | 0 => a0 | 1 => a1 | _ => a2, rfl, rfl, rfl⟩
  have hK : va_K D ms_cls (ms_tys cA) s := by
    refine ⟨hKc, fun k q hq => ?_⟩
    unfold ms_tys at hq
    match k, hq with
    | 0, hq => cases hq; rw [hcA.1]; exact ha0
    | 1, hq => cases hq; rw [hcA.2.1]; exact ha1
    | 2, hq => cases hq; rw [hcA.2.2]; exact ha2
    | n + 3, hq => simp at hq
  obtain ⟨to, hto, hT⟩ : ∃ t : Nat, (Term.static "SleetLine" "ORDERS" "[I").eval #[Value.ref b] s none [] s = some (.ref t) ∧ va_T .int t 7 (fun j => .int (Int32.ofInt (ms_ord j))) (fun q : Nat => s.heap.size ≤ q) s s.heap := by
    refine va_Tof (by decide) (hg (.arrayOf (.static "SleetLine" "ORDERS" "[I") .int) (by decide +kernel)) (va_eqt (hg (.eq (.length (.static "SleetLine" "ORDERS" "[I")) (.int 7)) (by decide +kernel))) ?_ hnA
    intro j hj
    match j, hj with
    | 0, _ => exact va_eqt (hg (.eq (.elem (.static "SleetLine" "ORDERS" "[I") (.int 0)) (.int 1)) (by decide +kernel))
    | 1, _ => exact va_eqt (hg (.eq (.elem (.static "SleetLine" "ORDERS" "[I") (.int 1)) (.int 1)) (by decide +kernel))
    | 2, _ => exact va_eqt (hg (.eq (.elem (.static "SleetLine" "ORDERS" "[I") (.int 2)) (.int 2)) (by decide +kernel))
    | 3, _ => exact va_eqt (hg (.eq (.elem (.static "SleetLine" "ORDERS" "[I") (.int 3)) (.int 6)) (by decide +kernel))
    | 4, _ => exact va_eqt (hg (.eq (.elem (.static "SleetLine" "ORDERS" "[I") (.int 4)) (.int 24)) (by decide +kernel))
    | 5, _ => exact va_eqt (hg (.eq (.elem (.static "SleetLine" "ORDERS" "[I") (.int 5)) (.int 120)) (by decide +kernel))
    | 6, _ => exact va_eqt (hg (.eq (.elem (.static "SleetLine" "ORDERS" "[I") (.int 6)) (.int 720)) (by decide +kernel))
    | n + 7, h => omega
  have hZ := va_Zref (hts _ (List.mem_of_getElem? lt_lays)) (htg _ (wd_in v9)) hto hnA
  obtain ⟨ex, he0, he1⟩ : ∃ ex : Nat → Nat, ex 0 = b ∧ ex 1 = to := ⟨fun k => if k = 0 then b else to, rfl, rfl⟩
  have hstat : ms_stat ex (fun q : Nat => s.heap.size ≤ q) s := by
    refine ⟨by rw [he1]; exact hZ, by rw [he1]; exact hT, hAO, fun q hq => va_Nw.of rfl (hts _ (lt_nest q hq))⟩
  have hS : va_S (fun q : Nat => s.heap.size ≤ q) s.heap s.heap [] := va_S.rf
  have hfin : ms_fin p l e room_1 s m #[Value.ref b] below meth c (lw_Z below #[Value.ref b] s) D cA ex (fun q : Nat => s.heap.size ≤ q) [] (fun _ => 0) ML_law (fun r _ _ => r = some (mI 1)) := by
    intro pc ls ad' G h' H locs hrh
    obtain ⟨r1, r2, r3, r4, r5, r6, r7⟩ := hrh
    refine ⟨fun z hq hz hd hrt => ?_, fun z hq hz hd hrt => ?_, fun hq hd hrt => ?_⟩
    · cases hq
      have m1 : M_mc ML_law ≤ 600000 := Nat.le_of_ble_eq_true rfl
      have m2 : M_ms ML_law ≤ 7302250 := Nat.le_of_ble_eq_true rfl
      refine va_forget (fun q hq => r3.2.2 q hq) ?_
      refine W.widen (k := 600000) (n := 7302250) (Nat.le_trans r5.1 m1) (Nat.le_trans r5.2 m2) ?_
      exact lw_ret hx hb hr hlocks hd
    · cases hq
    · cases hq
  have hXok : ∀ n q, ms_XL L (fun i => (xs i.toNat).toInt) n = some q → va_T .int (ex n) q.1 (fun j => .int (Int32.ofInt (q.2 j))) (fun q : Nat => s.heap.size ≤ q) s s.heap ∧ q.1 < 2 ^ 31 ∧ ∀ i : Int, 0 ≤ i → i < q.1 → rg (q.2 i) := by
    intro n q hq
    unfold ms_XL at hq
    split at hq
    · rename_i hn
      cases hq
      subst hn
      refine ⟨?_, by show L < 2 ^ 31; omega, fun i _ _ => rg_i32 _⟩
      obtain ⟨scr, g1, g2, g3, g4, g5⟩ := hX
      rw [he0]
      refine ⟨scr, g1, g2, g3, by show L ≤ scr.slots.size; omega, by show scr.slots.size.toInt32 = Int32.ofNat L; rw [g4], fun j hj => ?_, hnA b hbl⟩
      rw [g5 j hj]
      show some (Value.int (xs j)) = some (Value.int (Int32.ofInt (xs ((j : Int).toNat)).toInt))
      rw [Int32.ofInt_toInt, Int.toNat_natCast]
    · unfold ms_X1 at hq
      split at hq
      · rename_i hn1
        cases hq
        subst hn1
        refine ⟨by rw [he1]; exact hT, by decide, fun i _ _ => ms_ord_rg i⟩
      · cases hq
  have C : ms_cx p l e room_1 s m #[Value.ref b] below meth c (lw_Z below #[Value.ref b] s) D cA ex (fun q : Nat => s.heap.size ≤ q) [] (fun _ => 0) ms_P ML_law 30 (ms_Ok ms_P 30) (ms_XL L (fun i => (xs i.toNat).toInt)) (fun r _ _ => r = some (mI 1)) :=
    ⟨hx, hb, hml, hown, htg, hK, hA, fun z => absurd z (by decide), hstat, ⟨Nat.le_of_ble_eq_true rfl, Nat.le_of_ble_eq_true rfl, Nat.le_of_ble_eq_true rfl, Nat.le_of_ble_eq_true rfl⟩, ms_sound l D cA ex ms_P ms_P_ok 30, ms_P_ok, ms_L_ok, hXok, hfin⟩
  have hRW := hwp _ (ms_step C)
  rw [lg_entry_eq]
  have hen := ms_enter (ad := fun _ => 0) (ex := ex) (n := 4) (S := []) (vs := [mE 0]) (fun v hv => by rw [List.mem_singleton.mp hv]; rfl) (fun v hv => by rw [List.mem_singleton.mp hv]; trivial) (by decide)
  have e1 : [mE 0].map (ms_c (fun _ => 0) ex) = [Value.ref b] := by rw [← he0]; rfl
  rw [e1] at hen
  have hgo := hRW (ms_L_ok 0) (fun _ => 0) s.heap [] _ ⟨fun k q h => by simp [ms_ws] at h, ⟨fun i j p q h => by simp [ms_ws] at h, fun k q h => by simp [ms_ws] at h⟩, hS, ⟨fun _ _ => rg_0, fun a b kd n h => by simp [ms_sh] at h⟩, ⟨Nat.zero_le _, Nat.zero_le _⟩, Nat.le_refl _, fun _ _ => rfl⟩ hen (fun v hv => by cases hv)
  exact hgo
end
section
/-! Walks over blocks: rows for simp (by program, wip/whole/rows.py). -/
def ms_at (O : ms_O) (X : ms_Z) (M : ms_M) (Q : ms_Q) (t : Nat) : ms_K := ms_WP O X M Q (M_bl M t)
def sq (O : ms_O) (X : ms_Z) (M : ms_M) (Q : ms_Q) (k : Nat) (B : ms_B) : ms_K := ms_seq O X M Q (ms_run O X M Q (ms_at O X M Q) k) B
def jp (O : ms_O) (X : ms_Z) (M : ms_M) (Q : ms_Q) (k t : Nat) : ms_K := ms_run O X M Q (ms_at O X M Q) k t
theorem sq_c (O : ms_O) (X : ms_Z) (M : ms_M) (Q : ms_Q) (k pc len : Nat) (raw : Instr) (x : ms_X) (rest : ms_B) (L st : List ms_V) (G : ms_G) (h : ms_H) : sq O X M Q k ((pc, raw, len, x) :: rest) L st G h = ms_ex O X (M_mc M) (M_ms M) Q (jp O X M Q k) (sq O X M Q k rest) raw x L st G h := rfl
theorem jp_c (O : ms_O) (X : ms_Z) (M : ms_M) (Q : ms_Q) (k t : Nat) (ht : 100 ≤ t) (L st : List ms_V) (G : ms_G) (h : ms_H) : jp O X M Q (k + 1) t L st G h = ms_at O X M Q t L st G h := by
  show (if 100 ≤ t then _ else _ : ms_K) L st G h = _
  rw [if_pos ht]
theorem jp_s (O : ms_O) (X : ms_Z) (M : ms_M) (Q : ms_Q) (k t : Nat) (ht : t < 100) (L st : List ms_V) (G : ms_G) (h : ms_H) : jp O X M Q (k + 1) t L st G h = sq O X M Q k (M_bl M t) L st G h := by
  show (if 100 ≤ t then _ else _ : ms_K) L st G h = _
  rw [if_neg (by omega)]
  rfl
theorem sq_at {O : ms_O} {X : ms_Z} {M : ms_M} {Q : ms_Q} (hO : ms_mono O) (k t : Nat) {L st : List ms_V} {G : ms_G} {h : ms_H} (q : sq O X M Q k (M_bl M t) L st G h) : ms_at O X M Q t L st G h := ms_go hO k t q
/-- into a method, within d frames -/
theorem ok_in {d y k : Nat} (M : ms_M) {args : List ms_V} {S : ms_S} {h : ms_H} {Q : ms_Q} (hy : ms_P[y]? = some M) (ha : args.length = M_na M) (q : sq (ms_Ok ms_P d) ms_X1 M Q k (M_bl M 0) (ms_pad (M_ml M) args) [] (S, 0, 0) h) : ms_Ok ms_P (d + 1) y args S h Q := ⟨M, hy, ha, ms_go (ms_Ok_m ms_P d) k 0 q⟩
theorem ok_at {d y : Nat} (M : ms_M) {args : List ms_V} {S : ms_S} {h : ms_H} {Q : ms_Q} (hy : ms_P[y]? = some M) (ha : args.length = M_na M) (q : ms_at (ms_Ok ms_P d) ms_X1 M Q 0 (ms_pad (M_ml M) args) [] (S, 0, 0) h) : ms_Ok ms_P (d + 1) y args S h Q := ⟨M, hy, ha, q⟩
theorem ob_s (kc ks : Nat) (K : ms_K) (L r : List ms_V) (G : ms_G) (v : ms_V) (S : ms_S) (h : ms_H) : o_back kc ks K L r G (some v) S h = K L (v :: r) (S, G.2.1 + kc, G.2.2 + ks) h := rfl
theorem ob_n (kc ks : Nat) (K : ms_K) (L r : List ms_V) (G : ms_G) (S : ms_S) (h : ms_H) : o_back kc ks K L r G none S h = K L r (S, G.2.1 + kc, G.2.2 + ks) h := rfl
theorem zero_le_any (n : Nat) : (0 ≤ n) = True := eq_true (Nat.zero_le n)
theorem ms_rt (c : Prop) : (True → c) = c := propext ⟨fun f => f trivial, fun h _ => h⟩
theorem ms_one (c : Prop) : ((1 : Nat) = 1 → c) = c := propext ⟨fun f => f rfl, fun h _ => h⟩
theorem st_g0 {α : Type} (a0 : α) (l : List α) : (a0 :: l)[0]? = some a0 := rfl
theorem st_s0 {α : Type} (a0 v : α) (l : List α) : (a0 :: l).set 0 v = v :: l := rfl
theorem st_g1 {α : Type} (a0 a1 : α) (l : List α) : (a0 :: a1 :: l)[1]? = some a1 := rfl
theorem st_s1 {α : Type} (a0 a1 v : α) (l : List α) : (a0 :: a1 :: l).set 1 v = a0 :: v :: l := rfl
theorem st_g2 {α : Type} (a0 a1 a2 : α) (l : List α) : (a0 :: a1 :: a2 :: l)[2]? = some a2 := rfl
theorem st_s2 {α : Type} (a0 a1 a2 v : α) (l : List α) : (a0 :: a1 :: a2 :: l).set 2 v = a0 :: a1 :: v :: l := rfl
theorem st_g3 {α : Type} (a0 a1 a2 a3 : α) (l : List α) : (a0 :: a1 :: a2 :: a3 :: l)[3]? = some a3 := rfl
theorem st_s3 {α : Type} (a0 a1 a2 a3 v : α) (l : List α) : (a0 :: a1 :: a2 :: a3 :: l).set 3 v = a0 :: a1 :: a2 :: v :: l := rfl
theorem st_g4 {α : Type} (a0 a1 a2 a3 a4 : α) (l : List α) : (a0 :: a1 :: a2 :: a3 :: a4 :: l)[4]? = some a4 := rfl
theorem st_s4 {α : Type} (a0 a1 a2 a3 a4 v : α) (l : List α) : (a0 :: a1 :: a2 :: a3 :: a4 :: l).set 4 v = a0 :: a1 :: a2 :: a3 :: v :: l := rfl
theorem st_g5 {α : Type} (a0 a1 a2 a3 a4 a5 : α) (l : List α) : (a0 :: a1 :: a2 :: a3 :: a4 :: a5 :: l)[5]? = some a5 := rfl
theorem st_s5 {α : Type} (a0 a1 a2 a3 a4 a5 v : α) (l : List α) : (a0 :: a1 :: a2 :: a3 :: a4 :: a5 :: l).set 5 v = a0 :: a1 :: a2 :: a3 :: a4 :: v :: l := rfl
theorem st_g6 {α : Type} (a0 a1 a2 a3 a4 a5 a6 : α) (l : List α) : (a0 :: a1 :: a2 :: a3 :: a4 :: a5 :: a6 :: l)[6]? = some a6 := rfl
theorem st_s6 {α : Type} (a0 a1 a2 a3 a4 a5 a6 v : α) (l : List α) : (a0 :: a1 :: a2 :: a3 :: a4 :: a5 :: a6 :: l).set 6 v = a0 :: a1 :: a2 :: a3 :: a4 :: a5 :: v :: l := rfl
theorem st_g7 {α : Type} (a0 a1 a2 a3 a4 a5 a6 a7 : α) (l : List α) : (a0 :: a1 :: a2 :: a3 :: a4 :: a5 :: a6 :: a7 :: l)[7]? = some a7 := rfl
theorem st_s7 {α : Type} (a0 a1 a2 a3 a4 a5 a6 a7 v : α) (l : List α) : (a0 :: a1 :: a2 :: a3 :: a4 :: a5 :: a6 :: a7 :: l).set 7 v = a0 :: a1 :: a2 :: a3 :: a4 :: a5 :: a6 :: v :: l := rfl
theorem st_g8 {α : Type} (a0 a1 a2 a3 a4 a5 a6 a7 a8 : α) (l : List α) : (a0 :: a1 :: a2 :: a3 :: a4 :: a5 :: a6 :: a7 :: a8 :: l)[8]? = some a8 := rfl
theorem st_s8 {α : Type} (a0 a1 a2 a3 a4 a5 a6 a7 a8 v : α) (l : List α) : (a0 :: a1 :: a2 :: a3 :: a4 :: a5 :: a6 :: a7 :: a8 :: l).set 8 v = a0 :: a1 :: a2 :: a3 :: a4 :: a5 :: a6 :: a7 :: v :: l := rfl
theorem st_g9 {α : Type} (a0 a1 a2 a3 a4 a5 a6 a7 a8 a9 : α) (l : List α) : (a0 :: a1 :: a2 :: a3 :: a4 :: a5 :: a6 :: a7 :: a8 :: a9 :: l)[9]? = some a9 := rfl
theorem st_s9 {α : Type} (a0 a1 a2 a3 a4 a5 a6 a7 a8 a9 v : α) (l : List α) : (a0 :: a1 :: a2 :: a3 :: a4 :: a5 :: a6 :: a7 :: a8 :: a9 :: l).set 9 v = a0 :: a1 :: a2 :: a3 :: a4 :: a5 :: a6 :: a7 :: a8 :: v :: l := rfl
theorem lX0_init_0 : M_bl MX0_init 0 = bX0_init_0 := rfl
theorem qX0_init : M_mc MX0_init = 0 ∧ M_ms MX0_init = 0 := ⟨rfl, rfl⟩
theorem lX0_judge_0 : M_bl MX0_judge 0 = bX0_judge_0 := rfl
theorem lX0_judge_1 : M_bl MX0_judge 1 = bX0_judge_1 := rfl
theorem lX0_judge_2 : M_bl MX0_judge 2 = bX0_judge_2 := rfl
theorem lX0_judge_100 : M_bl MX0_judge 100 = bX0_judge_100 := rfl
theorem qX0_judge : M_mc MX0_judge = 0 ∧ M_ms MX0_judge = 0 := ⟨rfl, rfl⟩
theorem lX0_drawFrom_0 : M_bl MX0_drawFrom 0 = bX0_drawFrom_0 := rfl
theorem lX0_drawFrom_1 : M_bl MX0_drawFrom 1 = bX0_drawFrom_1 := rfl
theorem lX0_drawFrom_2 : M_bl MX0_drawFrom 2 = bX0_drawFrom_2 := rfl
theorem lX0_drawFrom_3 : M_bl MX0_drawFrom 3 = bX0_drawFrom_3 := rfl
theorem lX0_drawFrom_4 : M_bl MX0_drawFrom 4 = bX0_drawFrom_4 := rfl
theorem lX0_drawFrom_5 : M_bl MX0_drawFrom 5 = bX0_drawFrom_5 := rfl
theorem lX0_drawFrom_6 : M_bl MX0_drawFrom 6 = bX0_drawFrom_6 := rfl
theorem lX0_drawFrom_7 : M_bl MX0_drawFrom 7 = bX0_drawFrom_7 := rfl
theorem lX0_drawFrom_100 : M_bl MX0_drawFrom 100 = bX0_drawFrom_100 := rfl
theorem qX0_drawFrom : M_mc MX0_drawFrom = 0 ∧ M_ms MX0_drawFrom = 0 := ⟨rfl, rfl⟩
theorem lX0_judgeOne_0 : M_bl MX0_judgeOne 0 = bX0_judgeOne_0 := rfl
theorem lX0_judgeOne_1 : M_bl MX0_judgeOne 1 = bX0_judgeOne_1 := rfl
theorem lX0_judgeOne_2 : M_bl MX0_judgeOne 2 = bX0_judgeOne_2 := rfl
theorem lX0_judgeOne_3 : M_bl MX0_judgeOne 3 = bX0_judgeOne_3 := rfl
theorem qX0_judgeOne : M_mc MX0_judgeOne = 0 ∧ M_ms MX0_judgeOne = 0 := ⟨rfl, rfl⟩
theorem lX1_init_0 : M_bl MX1_init 0 = bX1_init_0 := rfl
theorem qX1_init : M_mc MX1_init = 4 ∧ M_ms MX1_init = 38 := ⟨rfl, rfl⟩
theorem lX1_begin_0 : M_bl MX1_begin 0 = bX1_begin_0 := rfl
theorem lX1_begin_1 : M_bl MX1_begin 1 = bX1_begin_1 := rfl
theorem lX1_begin_100 : M_bl MX1_begin 100 = bX1_begin_100 := rfl
theorem qX1_begin : M_mc MX1_begin = 0 ∧ M_ms MX1_begin = 0 := ⟨rfl, rfl⟩
theorem lX1_become_0 : M_bl MX1_become 0 = bX1_become_0 := rfl
theorem qX1_become : M_mc MX1_become = 0 ∧ M_ms MX1_become = 0 := ⟨rfl, rfl⟩
theorem lX1_remember_0 : M_bl MX1_remember 0 = bX1_remember_0 := rfl
theorem lX1_remember_1 : M_bl MX1_remember 1 = bX1_remember_1 := rfl
theorem qX1_remember : M_mc MX1_remember = 0 ∧ M_ms MX1_remember = 0 := ⟨rfl, rfl⟩
theorem lX1_loseOldest_0 : M_bl MX1_loseOldest 0 = bX1_loseOldest_0 := rfl
theorem qX1_loseOldest : M_mc MX1_loseOldest = 0 ∧ M_ms MX1_loseOldest = 0 := ⟨rfl, rfl⟩
theorem lX1_takeBack_0 : M_bl MX1_takeBack 0 = bX1_takeBack_0 := rfl
theorem lX1_takeBack_1 : M_bl MX1_takeBack 1 = bX1_takeBack_1 := rfl
theorem lX1_takeBack_2 : M_bl MX1_takeBack 2 = bX1_takeBack_2 := rfl
theorem lX1_takeBack_3 : M_bl MX1_takeBack 3 = bX1_takeBack_3 := rfl
theorem lX1_takeBack_4 : M_bl MX1_takeBack 4 = bX1_takeBack_4 := rfl
theorem lX1_takeBack_5 : M_bl MX1_takeBack 5 = bX1_takeBack_5 := rfl
theorem qX1_takeBack : M_mc MX1_takeBack = 0 ∧ M_ms MX1_takeBack = 0 := ⟨rfl, rfl⟩
theorem lX1_standing_0 : M_bl MX1_standing 0 = bX1_standing_0 := rfl
theorem lX1_standing_1 : M_bl MX1_standing 1 = bX1_standing_1 := rfl
theorem lX1_standing_2 : M_bl MX1_standing 2 = bX1_standing_2 := rfl
theorem lX1_standing_100 : M_bl MX1_standing 100 = bX1_standing_100 := rfl
theorem qX1_standing : M_mc MX1_standing = 0 ∧ M_ms MX1_standing = 0 := ⟨rfl, rfl⟩
theorem lX2_init_0 : M_bl MX2_init 0 = bX2_init_0 := rfl
theorem qX2_init : M_mc MX2_init = 2 ∧ M_ms MX2_init = 143 := ⟨rfl, rfl⟩
theorem lX2_add_0 : M_bl MX2_add 0 = bX2_add_0 := rfl
theorem lX2_add_1 : M_bl MX2_add 1 = bX2_add_1 := rfl
theorem qX2_add : M_mc MX2_add = 0 ∧ M_ms MX2_add = 0 := ⟨rfl, rfl⟩
theorem lX2_tell_0 : M_bl MX2_tell 0 = bX2_tell_0 := rfl
theorem lX2_tell_1 : M_bl MX2_tell 1 = bX2_tell_1 := rfl
theorem lX2_tell_2 : M_bl MX2_tell 2 = bX2_tell_2 := rfl
theorem lX2_tell_3 : M_bl MX2_tell 3 = bX2_tell_3 := rfl
theorem lX2_tell_100 : M_bl MX2_tell 100 = bX2_tell_100 := rfl
theorem qX2_tell : M_mc MX2_tell = 0 ∧ M_ms MX2_tell = 0 := ⟨rfl, rfl⟩
theorem lX2_readItem_0 : M_bl MX2_readItem 0 = bX2_readItem_0 := rfl
theorem lX2_readItem_1 : M_bl MX2_readItem 1 = bX2_readItem_1 := rfl
theorem lX2_readItem_2 : M_bl MX2_readItem 2 = bX2_readItem_2 := rfl
theorem lX2_readItem_3 : M_bl MX2_readItem 3 = bX2_readItem_3 := rfl
theorem lX2_readItem_4 : M_bl MX2_readItem 4 = bX2_readItem_4 := rfl
theorem lX2_readItem_5 : M_bl MX2_readItem 5 = bX2_readItem_5 := rfl
theorem lX2_readItem_6 : M_bl MX2_readItem 6 = bX2_readItem_6 := rfl
theorem lX2_readItem_7 : M_bl MX2_readItem 7 = bX2_readItem_7 := rfl
theorem qX2_readItem : M_mc MX2_readItem = 0 ∧ M_ms MX2_readItem = 0 := ⟨rfl, rfl⟩
theorem lX2_readColumn_0 : M_bl MX2_readColumn 0 = bX2_readColumn_0 := rfl
theorem lX2_readColumn_1 : M_bl MX2_readColumn 1 = bX2_readColumn_1 := rfl
theorem lX2_readColumn_2 : M_bl MX2_readColumn 2 = bX2_readColumn_2 := rfl
theorem lX2_readColumn_3 : M_bl MX2_readColumn 3 = bX2_readColumn_3 := rfl
theorem qX2_readColumn : M_mc MX2_readColumn = 0 ∧ M_ms MX2_readColumn = 0 := ⟨rfl, rfl⟩
theorem lX2_readGap_0 : M_bl MX2_readGap 0 = bX2_readGap_0 := rfl
theorem lX2_readGap_1 : M_bl MX2_readGap 1 = bX2_readGap_1 := rfl
theorem lX2_readGap_2 : M_bl MX2_readGap 2 = bX2_readGap_2 := rfl
theorem qX2_readGap : M_mc MX2_readGap = 0 ∧ M_ms MX2_readGap = 0 := ⟨rfl, rfl⟩
theorem lX2_readHands_0 : M_bl MX2_readHands 0 = bX2_readHands_0 := rfl
theorem lX2_readHands_1 : M_bl MX2_readHands 1 = bX2_readHands_1 := rfl
theorem lX2_readHands_2 : M_bl MX2_readHands 2 = bX2_readHands_2 := rfl
theorem qX2_readHands : M_mc MX2_readHands = 0 ∧ M_ms MX2_readHands = 0 := ⟨rfl, rfl⟩
theorem lX2_readVoter_0 : M_bl MX2_readVoter 0 = bX2_readVoter_0 := rfl
theorem lX2_readVoter_1 : M_bl MX2_readVoter 1 = bX2_readVoter_1 := rfl
theorem lX2_readVoter_2 : M_bl MX2_readVoter 2 = bX2_readVoter_2 := rfl
theorem lX2_readVoter_3 : M_bl MX2_readVoter 3 = bX2_readVoter_3 := rfl
theorem qX2_readVoter : M_mc MX2_readVoter = 0 ∧ M_ms MX2_readVoter = 0 := ⟨rfl, rfl⟩
theorem lX2_readDay_0 : M_bl MX2_readDay 0 = bX2_readDay_0 := rfl
theorem lX2_readDay_1 : M_bl MX2_readDay 1 = bX2_readDay_1 := rfl
theorem lX2_readDay_2 : M_bl MX2_readDay 2 = bX2_readDay_2 := rfl
theorem qX2_readDay : M_mc MX2_readDay = 0 ∧ M_ms MX2_readDay = 0 := ⟨rfl, rfl⟩
theorem lX2_number_0 : M_bl MX2_number 0 = bX2_number_0 := rfl
theorem lX2_number_1 : M_bl MX2_number 1 = bX2_number_1 := rfl
theorem lX2_number_2 : M_bl MX2_number 2 = bX2_number_2 := rfl
theorem qX2_number : M_mc MX2_number = 0 ∧ M_ms MX2_number = 0 := ⟨rfl, rfl⟩
theorem lX2_ended_0 : M_bl MX2_ended 0 = bX2_ended_0 := rfl
theorem lX2_ended_1 : M_bl MX2_ended 1 = bX2_ended_1 := rfl
theorem lX2_ended_2 : M_bl MX2_ended 2 = bX2_ended_2 := rfl
theorem qX2_ended : M_mc MX2_ended = 0 ∧ M_ms MX2_ended = 0 := ⟨rfl, rfl⟩
theorem lX2_take_0 : M_bl MX2_take 0 = bX2_take_0 := rfl
theorem lX2_take_1 : M_bl MX2_take 1 = bX2_take_1 := rfl
theorem lX2_take_2 : M_bl MX2_take 2 = bX2_take_2 := rfl
theorem lX2_take_3 : M_bl MX2_take 3 = bX2_take_3 := rfl
theorem lX2_take_4 : M_bl MX2_take 4 = bX2_take_4 := rfl
theorem lX2_take_5 : M_bl MX2_take 5 = bX2_take_5 := rfl
theorem lX2_take_6 : M_bl MX2_take 6 = bX2_take_6 := rfl
theorem lX2_take_7 : M_bl MX2_take 7 = bX2_take_7 := rfl
theorem lX2_take_100 : M_bl MX2_take 100 = bX2_take_100 := rfl
theorem qX2_take : M_mc MX2_take = 0 ∧ M_ms MX2_take = 0 := ⟨rfl, rfl⟩
theorem lX2_takeLetters_0 : M_bl MX2_takeLetters 0 = bX2_takeLetters_0 := rfl
theorem lX2_takeLetters_1 : M_bl MX2_takeLetters 1 = bX2_takeLetters_1 := rfl
theorem lX2_takeLetters_2 : M_bl MX2_takeLetters 2 = bX2_takeLetters_2 := rfl
theorem lX2_takeLetters_100 : M_bl MX2_takeLetters 100 = bX2_takeLetters_100 := rfl
theorem qX2_takeLetters : M_mc MX2_takeLetters = 0 ∧ M_ms MX2_takeLetters = 0 := ⟨rfl, rfl⟩
theorem lX2_takeNumber_0 : M_bl MX2_takeNumber 0 = bX2_takeNumber_0 := rfl
theorem lX2_takeNumber_1 : M_bl MX2_takeNumber 1 = bX2_takeNumber_1 := rfl
theorem lX2_takeNumber_2 : M_bl MX2_takeNumber 2 = bX2_takeNumber_2 := rfl
theorem lX2_takeNumber_3 : M_bl MX2_takeNumber 3 = bX2_takeNumber_3 := rfl
theorem lX2_takeNumber_4 : M_bl MX2_takeNumber 4 = bX2_takeNumber_4 := rfl
theorem lX2_takeNumber_5 : M_bl MX2_takeNumber 5 = bX2_takeNumber_5 := rfl
theorem lX2_takeNumber_6 : M_bl MX2_takeNumber 6 = bX2_takeNumber_6 := rfl
theorem lX2_takeNumber_7 : M_bl MX2_takeNumber 7 = bX2_takeNumber_7 := rfl
theorem lX2_takeNumber_100 : M_bl MX2_takeNumber 100 = bX2_takeNumber_100 := rfl
theorem qX2_takeNumber : M_mc MX2_takeNumber = 0 ∧ M_ms MX2_takeNumber = 0 := ⟨rfl, rfl⟩
theorem lX3_init_0 : M_bl MX3_init 0 = bX3_init_0 := rfl
theorem qX3_init : M_mc MX3_init = 7 ∧ M_ms MX3_init = 46 := ⟨rfl, rfl⟩
theorem lX3_begin_0 : M_bl MX3_begin 0 = bX3_begin_0 := rfl
theorem qX3_begin : M_mc MX3_begin = 0 ∧ M_ms MX3_begin = 0 := ⟨rfl, rfl⟩
theorem lX3_addColumn_0 : M_bl MX3_addColumn 0 = bX3_addColumn_0 := rfl
theorem lX3_addColumn_1 : M_bl MX3_addColumn 1 = bX3_addColumn_1 := rfl
theorem qX3_addColumn : M_mc MX3_addColumn = 0 ∧ M_ms MX3_addColumn = 0 := ⟨rfl, rfl⟩
theorem lX3_addVoter_0 : M_bl MX3_addVoter 0 = bX3_addVoter_0 := rfl
theorem lX3_addVoter_1 : M_bl MX3_addVoter 1 = bX3_addVoter_1 := rfl
theorem qX3_addVoter : M_mc MX3_addVoter = 0 ∧ M_ms MX3_addVoter = 0 := ⟨rfl, rfl⟩
theorem lX3_addDay_0 : M_bl MX3_addDay 0 = bX3_addDay_0 := rfl
theorem lX3_addDay_1 : M_bl MX3_addDay 1 = bX3_addDay_1 := rfl
theorem qX3_addDay : M_mc MX3_addDay = 0 ∧ M_ms MX3_addDay = 0 := ⟨rfl, rfl⟩
theorem lX3_warmOn_0 : M_bl MX3_warmOn 0 = bX3_warmOn_0 := rfl
theorem lX3_warmOn_1 : M_bl MX3_warmOn 1 = bX3_warmOn_1 := rfl
theorem lX3_warmOn_2 : M_bl MX3_warmOn 2 = bX3_warmOn_2 := rfl
theorem qX3_warmOn : M_mc MX3_warmOn = 0 ∧ M_ms MX3_warmOn = 0 := ⟨rfl, rfl⟩
theorem lX3_snowLimit_0 : M_bl MX3_snowLimit 0 = bX3_snowLimit_0 := rfl
theorem qX3_snowLimit : M_mc MX3_snowLimit = 0 ∧ M_ms MX3_snowLimit = 0 := ⟨rfl, rfl⟩
theorem lX4_init_0 : M_bl MX4_init 0 = bX4_init_0 := rfl
theorem qX4_init : M_mc MX4_init = 37 ∧ M_ms MX4_init = 412 := ⟨rfl, rfl⟩
theorem lX4_type_0 : M_bl MX4_type 0 = bX4_type_0 := rfl
theorem lX4_type_1 : M_bl MX4_type 1 = bX4_type_1 := rfl
theorem lX4_type_2 : M_bl MX4_type 2 = bX4_type_2 := rfl
theorem lX4_type_3 : M_bl MX4_type 3 = bX4_type_3 := rfl
theorem qX4_type : M_mc MX4_type = 0 ∧ M_ms MX4_type = 0 := ⟨rfl, rfl⟩
theorem lX4_clear_0 : M_bl MX4_clear 0 = bX4_clear_0 := rfl
theorem qX4_clear : M_mc MX4_clear = 0 ∧ M_ms MX4_clear = 0 := ⟨rfl, rfl⟩
theorem lX4_wold_0 : M_bl MX4_wold 0 = bX4_wold_0 := rfl
theorem lX4_wold_1 : M_bl MX4_wold 1 = bX4_wold_1 := rfl
theorem lX4_wold_2 : M_bl MX4_wold 2 = bX4_wold_2 := rfl
theorem lX4_wold_100 : M_bl MX4_wold 100 = bX4_wold_100 := rfl
theorem qX4_wold : M_mc MX4_wold = 0 ∧ M_ms MX4_wold = 0 := ⟨rfl, rfl⟩
theorem lX4_column_0 : M_bl MX4_column 0 = bX4_column_0 := rfl
theorem lX4_column_1 : M_bl MX4_column 1 = bX4_column_1 := rfl
theorem lX4_column_2 : M_bl MX4_column 2 = bX4_column_2 := rfl
theorem lX4_column_3 : M_bl MX4_column 3 = bX4_column_3 := rfl
theorem lX4_column_4 : M_bl MX4_column 4 = bX4_column_4 := rfl
theorem lX4_column_5 : M_bl MX4_column 5 = bX4_column_5 := rfl
theorem lX4_column_6 : M_bl MX4_column 6 = bX4_column_6 := rfl
theorem lX4_column_7 : M_bl MX4_column 7 = bX4_column_7 := rfl
theorem lX4_column_8 : M_bl MX4_column 8 = bX4_column_8 := rfl
theorem lX4_column_9 : M_bl MX4_column 9 = bX4_column_9 := rfl
theorem lX4_column_10 : M_bl MX4_column 10 = bX4_column_10 := rfl
theorem lX4_column_11 : M_bl MX4_column 11 = bX4_column_11 := rfl
theorem lX4_column_12 : M_bl MX4_column 12 = bX4_column_12 := rfl
theorem qX4_column : M_mc MX4_column = 0 ∧ M_ms MX4_column = 0 := ⟨rfl, rfl⟩
theorem lX4_field_0 : M_bl MX4_field 0 = bX4_field_0 := rfl
theorem lX4_field_1 : M_bl MX4_field 1 = bX4_field_1 := rfl
theorem lX4_field_2 : M_bl MX4_field 2 = bX4_field_2 := rfl
theorem lX4_field_3 : M_bl MX4_field 3 = bX4_field_3 := rfl
theorem lX4_field_4 : M_bl MX4_field 4 = bX4_field_4 := rfl
theorem lX4_field_5 : M_bl MX4_field 5 = bX4_field_5 := rfl
theorem lX4_field_6 : M_bl MX4_field 6 = bX4_field_6 := rfl
theorem lX4_field_7 : M_bl MX4_field 7 = bX4_field_7 := rfl
theorem lX4_field_8 : M_bl MX4_field 8 = bX4_field_8 := rfl
theorem lX4_field_9 : M_bl MX4_field 9 = bX4_field_9 := rfl
theorem lX4_field_10 : M_bl MX4_field 10 = bX4_field_10 := rfl
theorem qX4_field : M_mc MX4_field = 0 ∧ M_ms MX4_field = 0 := ⟨rfl, rfl⟩
theorem lX4_voter_0 : M_bl MX4_voter 0 = bX4_voter_0 := rfl
theorem lX4_voter_1 : M_bl MX4_voter 1 = bX4_voter_1 := rfl
theorem lX4_voter_2 : M_bl MX4_voter 2 = bX4_voter_2 := rfl
theorem lX4_voter_3 : M_bl MX4_voter 3 = bX4_voter_3 := rfl
theorem lX4_voter_4 : M_bl MX4_voter 4 = bX4_voter_4 := rfl
theorem qX4_voter : M_mc MX4_voter = 0 ∧ M_ms MX4_voter = 0 := ⟨rfl, rfl⟩
theorem lX4_days_0 : M_bl MX4_days 0 = bX4_days_0 := rfl
theorem lX4_days_1 : M_bl MX4_days 1 = bX4_days_1 := rfl
theorem lX4_days_2 : M_bl MX4_days 2 = bX4_days_2 := rfl
theorem qX4_days : M_mc MX4_days = 0 ∧ M_ms MX4_days = 0 := ⟨rfl, rfl⟩
theorem lX4_warms_0 : M_bl MX4_warms 0 = bX4_warms_0 := rfl
theorem lX4_warms_1 : M_bl MX4_warms 1 = bX4_warms_1 := rfl
theorem lX4_warms_2 : M_bl MX4_warms 2 = bX4_warms_2 := rfl
theorem lX4_warms_3 : M_bl MX4_warms 3 = bX4_warms_3 := rfl
theorem qX4_warms : M_mc MX4_warms = 0 ∧ M_ms MX4_warms = 0 := ⟨rfl, rfl⟩
theorem lX4_stakes_0 : M_bl MX4_stakes 0 = bX4_stakes_0 := rfl
theorem lX4_stakes_1 : M_bl MX4_stakes 1 = bX4_stakes_1 := rfl
theorem lX4_stakes_2 : M_bl MX4_stakes 2 = bX4_stakes_2 := rfl
theorem qX4_stakes : M_mc MX4_stakes = 0 ∧ M_ms MX4_stakes = 0 := ⟨rfl, rfl⟩
theorem lX4_pulls_0 : M_bl MX4_pulls 0 = bX4_pulls_0 := rfl
theorem lX4_pulls_1 : M_bl MX4_pulls 1 = bX4_pulls_1 := rfl
theorem lX4_pulls_2 : M_bl MX4_pulls 2 = bX4_pulls_2 := rfl
theorem qX4_pulls : M_mc MX4_pulls = 0 ∧ M_ms MX4_pulls = 0 := ⟨rfl, rfl⟩
theorem lX4_undo_0 : M_bl MX4_undo 0 = bX4_undo_0 := rfl
theorem lX4_undo_1 : M_bl MX4_undo 1 = bX4_undo_1 := rfl
theorem qX4_undo : M_mc MX4_undo = 0 ∧ M_ms MX4_undo = 0 := ⟨rfl, rfl⟩
theorem lX4_now_0 : M_bl MX4_now 0 = bX4_now_0 := rfl
theorem lX4_now_1 : M_bl MX4_now 1 = bX4_now_1 := rfl
theorem lX4_now_2 : M_bl MX4_now 2 = bX4_now_2 := rfl
theorem lX4_now_3 : M_bl MX4_now 3 = bX4_now_3 := rfl
theorem lX4_now_4 : M_bl MX4_now 4 = bX4_now_4 := rfl
theorem lX4_now_5 : M_bl MX4_now 5 = bX4_now_5 := rfl
theorem lX4_now_6 : M_bl MX4_now 6 = bX4_now_6 := rfl
theorem lX4_now_7 : M_bl MX4_now 7 = bX4_now_7 := rfl
theorem lX4_now_8 : M_bl MX4_now 8 = bX4_now_8 := rfl
theorem lX4_now_9 : M_bl MX4_now 9 = bX4_now_9 := rfl
theorem qX4_now : M_mc MX4_now = 0 ∧ M_ms MX4_now = 0 := ⟨rfl, rfl⟩
theorem lX4_first_0 : M_bl MX4_first 0 = bX4_first_0 := rfl
theorem lX4_first_1 : M_bl MX4_first 1 = bX4_first_1 := rfl
theorem lX4_first_2 : M_bl MX4_first 2 = bX4_first_2 := rfl
theorem lX4_first_3 : M_bl MX4_first 3 = bX4_first_3 := rfl
theorem lX4_first_100 : M_bl MX4_first 100 = bX4_first_100 := rfl
theorem qX4_first : M_mc MX4_first = 0 ∧ M_ms MX4_first = 0 := ⟨rfl, rfl⟩
theorem lX4_fair_0 : M_bl MX4_fair 0 = bX4_fair_0 := rfl
theorem lX4_fair_1 : M_bl MX4_fair 1 = bX4_fair_1 := rfl
theorem lX4_fair_2 : M_bl MX4_fair 2 = bX4_fair_2 := rfl
theorem lX4_fair_3 : M_bl MX4_fair 3 = bX4_fair_3 := rfl
theorem qX4_fair : M_mc MX4_fair = 0 ∧ M_ms MX4_fair = 0 := ⟨rfl, rfl⟩
theorem lX4_best_0 : M_bl MX4_best 0 = bX4_best_0 := rfl
theorem lX4_best_1 : M_bl MX4_best 1 = bX4_best_1 := rfl
theorem lX4_best_2 : M_bl MX4_best 2 = bX4_best_2 := rfl
theorem lX4_best_3 : M_bl MX4_best 3 = bX4_best_3 := rfl
theorem qX4_best : M_mc MX4_best = 0 ∧ M_ms MX4_best = 0 := ⟨rfl, rfl⟩
theorem lX4_power_0 : M_bl MX4_power 0 = bX4_power_0 := rfl
theorem lX4_power_1 : M_bl MX4_power 1 = bX4_power_1 := rfl
theorem lX4_power_2 : M_bl MX4_power 2 = bX4_power_2 := rfl
theorem qX4_power : M_mc MX4_power = 0 ∧ M_ms MX4_power = 0 := ⟨rfl, rfl⟩
theorem lX4_duel_0 : M_bl MX4_duel 0 = bX4_duel_0 := rfl
theorem lX4_duel_1 : M_bl MX4_duel 1 = bX4_duel_1 := rfl
theorem lX4_duel_2 : M_bl MX4_duel 2 = bX4_duel_2 := rfl
theorem lX4_duel_3 : M_bl MX4_duel 3 = bX4_duel_3 := rfl
theorem lX4_duel_4 : M_bl MX4_duel 4 = bX4_duel_4 := rfl
theorem lX4_duel_100 : M_bl MX4_duel 100 = bX4_duel_100 := rfl
theorem qX4_duel : M_mc MX4_duel = 0 ∧ M_ms MX4_duel = 0 := ⟨rfl, rfl⟩
theorem lX4_odds_0 : M_bl MX4_odds 0 = bX4_odds_0 := rfl
theorem lX4_odds_1 : M_bl MX4_odds 1 = bX4_odds_1 := rfl
theorem lX4_odds_2 : M_bl MX4_odds 2 = bX4_odds_2 := rfl
theorem lX4_odds_3 : M_bl MX4_odds 3 = bX4_odds_3 := rfl
theorem lX4_odds_100 : M_bl MX4_odds 100 = bX4_odds_100 := rfl
theorem qX4_odds : M_mc MX4_odds = 0 ∧ M_ms MX4_odds = 0 := ⟨rfl, rfl⟩
theorem lX4_hears_0 : M_bl MX4_hears 0 = bX4_hears_0 := rfl
theorem lX4_hears_1 : M_bl MX4_hears 1 = bX4_hears_1 := rfl
theorem lX4_hears_2 : M_bl MX4_hears 2 = bX4_hears_2 := rfl
theorem lX4_hears_3 : M_bl MX4_hears 3 = bX4_hears_3 := rfl
theorem lX4_hears_4 : M_bl MX4_hears 4 = bX4_hears_4 := rfl
theorem lX4_hears_5 : M_bl MX4_hears 5 = bX4_hears_5 := rfl
theorem qX4_hears : M_mc MX4_hears = 0 ∧ M_ms MX4_hears = 0 := ⟨rfl, rfl⟩
theorem lX4_forget_0 : M_bl MX4_forget 0 = bX4_forget_0 := rfl
theorem qX4_forget : M_mc MX4_forget = 0 ∧ M_ms MX4_forget = 0 := ⟨rfl, rfl⟩
theorem lX4_warmth_0 : M_bl MX4_warmth 0 = bX4_warmth_0 := rfl
theorem lX4_warmth_1 : M_bl MX4_warmth 1 = bX4_warmth_1 := rfl
theorem lX4_warmth_2 : M_bl MX4_warmth 2 = bX4_warmth_2 := rfl
theorem lX4_warmth_3 : M_bl MX4_warmth 3 = bX4_warmth_3 := rfl
theorem lX4_warmth_4 : M_bl MX4_warmth 4 = bX4_warmth_4 := rfl
theorem qX4_warmth : M_mc MX4_warmth = 0 ∧ M_ms MX4_warmth = 0 := ⟨rfl, rfl⟩
theorem lX4_ask_0 : M_bl MX4_ask 0 = bX4_ask_0 := rfl
theorem lX4_ask_1 : M_bl MX4_ask 1 = bX4_ask_1 := rfl
theorem lX4_ask_2 : M_bl MX4_ask 2 = bX4_ask_2 := rfl
theorem lX4_ask_3 : M_bl MX4_ask 3 = bX4_ask_3 := rfl
theorem lX4_ask_4 : M_bl MX4_ask 4 = bX4_ask_4 := rfl
theorem lX4_ask_100 : M_bl MX4_ask 100 = bX4_ask_100 := rfl
theorem lX4_ask_101 : M_bl MX4_ask 101 = bX4_ask_101 := rfl
theorem lX4_ask_102 : M_bl MX4_ask 102 = bX4_ask_102 := rfl
theorem qX4_ask : M_mc MX4_ask = 0 ∧ M_ms MX4_ask = 0 := ⟨rfl, rfl⟩
theorem lX4_mark_0 : M_bl MX4_mark 0 = bX4_mark_0 := rfl
theorem lX4_mark_1 : M_bl MX4_mark 1 = bX4_mark_1 := rfl
theorem lX4_mark_2 : M_bl MX4_mark 2 = bX4_mark_2 := rfl
theorem lX4_mark_3 : M_bl MX4_mark 3 = bX4_mark_3 := rfl
theorem lX4_mark_4 : M_bl MX4_mark 4 = bX4_mark_4 := rfl
theorem lX4_mark_5 : M_bl MX4_mark 5 = bX4_mark_5 := rfl
theorem lX4_mark_6 : M_bl MX4_mark 6 = bX4_mark_6 := rfl
theorem lX4_mark_7 : M_bl MX4_mark 7 = bX4_mark_7 := rfl
theorem lX4_mark_8 : M_bl MX4_mark 8 = bX4_mark_8 := rfl
theorem qX4_mark : M_mc MX4_mark = 0 ∧ M_ms MX4_mark = 0 := ⟨rfl, rfl⟩
theorem lX4_keep_0 : M_bl MX4_keep 0 = bX4_keep_0 := rfl
theorem lX4_keep_1 : M_bl MX4_keep 1 = bX4_keep_1 := rfl
theorem qX4_keep : M_mc MX4_keep = 0 ∧ M_ms MX4_keep = 0 := ⟨rfl, rfl⟩
theorem lX4_back_0 : M_bl MX4_back 0 = bX4_back_0 := rfl
theorem lX4_back_1 : M_bl MX4_back 1 = bX4_back_1 := rfl
theorem lX4_back_2 : M_bl MX4_back 2 = bX4_back_2 := rfl
theorem qX4_back : M_mc MX4_back = 0 ∧ M_ms MX4_back = 0 := ⟨rfl, rfl⟩
theorem lX4_count_0 : M_bl MX4_count 0 = bX4_count_0 := rfl
theorem lX4_count_1 : M_bl MX4_count 1 = bX4_count_1 := rfl
theorem lX4_count_2 : M_bl MX4_count 2 = bX4_count_2 := rfl
theorem lX4_count_3 : M_bl MX4_count 3 = bX4_count_3 := rfl
theorem lX4_count_4 : M_bl MX4_count 4 = bX4_count_4 := rfl
theorem lX4_count_5 : M_bl MX4_count 5 = bX4_count_5 := rfl
theorem lX4_count_6 : M_bl MX4_count 6 = bX4_count_6 := rfl
theorem lX4_count_7 : M_bl MX4_count 7 = bX4_count_7 := rfl
theorem lX4_count_8 : M_bl MX4_count 8 = bX4_count_8 := rfl
theorem qX4_count : M_mc MX4_count = 0 ∧ M_ms MX4_count = 0 := ⟨rfl, rfl⟩
theorem lX4_trace_0 : M_bl MX4_trace 0 = bX4_trace_0 := rfl
theorem qX4_trace : M_mc MX4_trace = 0 ∧ M_ms MX4_trace = 0 := ⟨rfl, rfl⟩
theorem lX4_within_0 : M_bl MX4_within 0 = bX4_within_0 := rfl
theorem lX4_within_1 : M_bl MX4_within 1 = bX4_within_1 := rfl
theorem lX4_within_2 : M_bl MX4_within 2 = bX4_within_2 := rfl
theorem qX4_within : M_mc MX4_within = 0 ∧ M_ms MX4_within = 0 := ⟨rfl, rfl⟩
theorem lX4_isColumn_0 : M_bl MX4_isColumn 0 = bX4_isColumn_0 := rfl
theorem lX4_isColumn_1 : M_bl MX4_isColumn 1 = bX4_isColumn_1 := rfl
theorem lX4_isColumn_2 : M_bl MX4_isColumn 2 = bX4_isColumn_2 := rfl
theorem qX4_isColumn : M_mc MX4_isColumn = 0 ∧ M_ms MX4_isColumn = 0 := ⟨rfl, rfl⟩
theorem lX4_isField_0 : M_bl MX4_isField 0 = bX4_isField_0 := rfl
theorem lX4_isField_1 : M_bl MX4_isField 1 = bX4_isField_1 := rfl
theorem lX4_isField_2 : M_bl MX4_isField 2 = bX4_isField_2 := rfl
theorem qX4_isField : M_mc MX4_isField = 0 ∧ M_ms MX4_isField = 0 := ⟨rfl, rfl⟩
theorem lX4_isVoter_0 : M_bl MX4_isVoter 0 = bX4_isVoter_0 := rfl
theorem lX4_isVoter_1 : M_bl MX4_isVoter 1 = bX4_isVoter_1 := rfl
theorem lX4_isVoter_2 : M_bl MX4_isVoter 2 = bX4_isVoter_2 := rfl
theorem qX4_isVoter : M_mc MX4_isVoter = 0 ∧ M_ms MX4_isVoter = 0 := ⟨rfl, rfl⟩
theorem lX4_warmToday_0 : M_bl MX4_warmToday 0 = bX4_warmToday_0 := rfl
theorem qX4_warmToday : M_mc MX4_warmToday = 0 ∧ M_ms MX4_warmToday = 0 := ⟨rfl, rfl⟩
theorem lX4_mild_0 : M_bl MX4_mild 0 = bX4_mild_0 := rfl
theorem qX4_mild : M_mc MX4_mild = 0 ∧ M_ms MX4_mild = 0 := ⟨rfl, rfl⟩
theorem lX4_falls_0 : M_bl MX4_falls 0 = bX4_falls_0 := rfl
theorem lX4_falls_1 : M_bl MX4_falls 1 = bX4_falls_1 := rfl
theorem lX4_falls_2 : M_bl MX4_falls 2 = bX4_falls_2 := rfl
theorem lX4_falls_3 : M_bl MX4_falls 3 = bX4_falls_3 := rfl
theorem qX4_falls : M_mc MX4_falls = 0 ∧ M_ms MX4_falls = 0 := ⟨rfl, rfl⟩
theorem lX4_lowestUpTo_0 : M_bl MX4_lowestUpTo 0 = bX4_lowestUpTo_0 := rfl
theorem lX4_lowestUpTo_1 : M_bl MX4_lowestUpTo 1 = bX4_lowestUpTo_1 := rfl
theorem lX4_lowestUpTo_2 : M_bl MX4_lowestUpTo 2 = bX4_lowestUpTo_2 := rfl
theorem lX4_lowestUpTo_100 : M_bl MX4_lowestUpTo 100 = bX4_lowestUpTo_100 := rfl
theorem qX4_lowestUpTo : M_mc MX4_lowestUpTo = 0 ∧ M_ms MX4_lowestUpTo = 0 := ⟨rfl, rfl⟩
theorem lX4_edge_0 : M_bl MX4_edge 0 = bX4_edge_0 := rfl
theorem qX4_edge : M_mc MX4_edge = 0 ∧ M_ms MX4_edge = 0 := ⟨rfl, rfl⟩
theorem lX4_wet_0 : M_bl MX4_wet 0 = bX4_wet_0 := rfl
theorem qX4_wet : M_mc MX4_wet = 0 ∧ M_ms MX4_wet = 0 := ⟨rfl, rfl⟩
theorem lX4_claim_0 : M_bl MX4_claim 0 = bX4_claim_0 := rfl
theorem qX4_claim : M_mc MX4_claim = 0 ∧ M_ms MX4_claim = 0 := ⟨rfl, rfl⟩
theorem lX4_halves_0 : M_bl MX4_halves 0 = bX4_halves_0 := rfl
theorem lX4_halves_1 : M_bl MX4_halves 1 = bX4_halves_1 := rfl
theorem lX4_halves_2 : M_bl MX4_halves 2 = bX4_halves_2 := rfl
theorem lX4_halves_3 : M_bl MX4_halves 3 = bX4_halves_3 := rfl
theorem lX4_halves_4 : M_bl MX4_halves 4 = bX4_halves_4 := rfl
theorem lX4_halves_5 : M_bl MX4_halves 5 = bX4_halves_5 := rfl
theorem lX4_halves_100 : M_bl MX4_halves 100 = bX4_halves_100 := rfl
theorem qX4_halves : M_mc MX4_halves = 0 ∧ M_ms MX4_halves = 0 := ⟨rfl, rfl⟩
theorem lX4_greaterHalf_0 : M_bl MX4_greaterHalf 0 = bX4_greaterHalf_0 := rfl
theorem lX4_greaterHalf_1 : M_bl MX4_greaterHalf 1 = bX4_greaterHalf_1 := rfl
theorem lX4_greaterHalf_2 : M_bl MX4_greaterHalf 2 = bX4_greaterHalf_2 := rfl
theorem qX4_greaterHalf : M_mc MX4_greaterHalf = 0 ∧ M_ms MX4_greaterHalf = 0 := ⟨rfl, rfl⟩
theorem lX4_snowyFields_0 : M_bl MX4_snowyFields 0 = bX4_snowyFields_0 := rfl
theorem lX4_snowyFields_1 : M_bl MX4_snowyFields 1 = bX4_snowyFields_1 := rfl
theorem lX4_snowyFields_100 : M_bl MX4_snowyFields 100 = bX4_snowyFields_100 := rfl
theorem qX4_snowyFields : M_mc MX4_snowyFields = 0 ∧ M_ms MX4_snowyFields = 0 := ⟨rfl, rfl⟩
theorem lX4_rainyFields_0 : M_bl MX4_rainyFields 0 = bX4_rainyFields_0 := rfl
theorem lX4_rainyFields_1 : M_bl MX4_rainyFields 1 = bX4_rainyFields_1 := rfl
theorem lX4_rainyFields_100 : M_bl MX4_rainyFields 100 = bX4_rainyFields_100 := rfl
theorem qX4_rainyFields : M_mc MX4_rainyFields = 0 ∧ M_ms MX4_rainyFields = 0 := ⟨rfl, rfl⟩
theorem lX4_widest_0 : M_bl MX4_widest 0 = bX4_widest_0 := rfl
theorem lX4_widest_1 : M_bl MX4_widest 1 = bX4_widest_1 := rfl
theorem lX4_widest_100 : M_bl MX4_widest 100 = bX4_widest_100 := rfl
theorem qX4_widest : M_mc MX4_widest = 0 ∧ M_ms MX4_widest = 0 := ⟨rfl, rfl⟩
theorem lX4_vote_0 : M_bl MX4_vote 0 = bX4_vote_0 := rfl
theorem lX4_vote_1 : M_bl MX4_vote 1 = bX4_vote_1 := rfl
theorem lX4_vote_2 : M_bl MX4_vote 2 = bX4_vote_2 := rfl
theorem lX4_vote_3 : M_bl MX4_vote 3 = bX4_vote_3 := rfl
theorem lX4_vote_100 : M_bl MX4_vote 100 = bX4_vote_100 := rfl
theorem qX4_vote : M_mc MX4_vote = 0 ∧ M_ms MX4_vote = 0 := ⟨rfl, rfl⟩
theorem lX4_decidedOrders_0 : M_bl MX4_decidedOrders 0 = bX4_decidedOrders_0 := rfl
theorem lX4_decidedOrders_1 : M_bl MX4_decidedOrders 1 = bX4_decidedOrders_1 := rfl
theorem lX4_decidedOrders_2 : M_bl MX4_decidedOrders 2 = bX4_decidedOrders_2 := rfl
theorem lX4_decidedOrders_3 : M_bl MX4_decidedOrders 3 = bX4_decidedOrders_3 := rfl
theorem lX4_decidedOrders_100 : M_bl MX4_decidedOrders 100 = bX4_decidedOrders_100 := rfl
theorem qX4_decidedOrders : M_mc MX4_decidedOrders = 0 ∧ M_ms MX4_decidedOrders = 0 := ⟨rfl, rfl⟩
theorem lX4_weightOf_0 : M_bl MX4_weightOf 0 = bX4_weightOf_0 := rfl
theorem lX4_weightOf_1 : M_bl MX4_weightOf 1 = bX4_weightOf_1 := rfl
theorem lX4_weightOf_2 : M_bl MX4_weightOf 2 = bX4_weightOf_2 := rfl
theorem lX4_weightOf_100 : M_bl MX4_weightOf 100 = bX4_weightOf_100 := rfl
theorem qX4_weightOf : M_mc MX4_weightOf = 0 ∧ M_ms MX4_weightOf = 0 := ⟨rfl, rfl⟩
theorem lX4_snowyWays_0 : M_bl MX4_snowyWays 0 = bX4_snowyWays_0 := rfl
theorem lX4_snowyWays_1 : M_bl MX4_snowyWays 1 = bX4_snowyWays_1 := rfl
theorem lX4_snowyWays_2 : M_bl MX4_snowyWays 2 = bX4_snowyWays_2 := rfl
theorem lX4_snowyWays_3 : M_bl MX4_snowyWays 3 = bX4_snowyWays_3 := rfl
theorem qX4_snowyWays : M_mc MX4_snowyWays = 0 ∧ M_ms MX4_snowyWays = 0 := ⟨rfl, rfl⟩
theorem lX4_leastTerms_0 : M_bl MX4_leastTerms 0 = bX4_leastTerms_0 := rfl
theorem lX4_leastTerms_1 : M_bl MX4_leastTerms 1 = bX4_leastTerms_1 := rfl
theorem lX4_leastTerms_2 : M_bl MX4_leastTerms 2 = bX4_leastTerms_2 := rfl
theorem lX4_leastTerms_3 : M_bl MX4_leastTerms 3 = bX4_leastTerms_3 := rfl
theorem qX4_leastTerms : M_mc MX4_leastTerms = 0 ∧ M_ms MX4_leastTerms = 0 := ⟨rfl, rfl⟩
theorem lX4_greatestShared_0 : M_bl MX4_greatestShared 0 = bX4_greatestShared_0 := rfl
theorem lX4_greatestShared_1 : M_bl MX4_greatestShared 1 = bX4_greatestShared_1 := rfl
theorem lX4_greatestShared_100 : M_bl MX4_greatestShared 100 = bX4_greatestShared_100 := rfl
theorem qX4_greatestShared : M_mc MX4_greatestShared = 0 ∧ M_ms MX4_greatestShared = 0 := ⟨rfl, rfl⟩
theorem lX4_hearNothing_0 : M_bl MX4_hearNothing 0 = bX4_hearNothing_0 := rfl
theorem qX4_hearNothing : M_mc MX4_hearNothing = 0 ∧ M_ms MX4_hearNothing = 0 := ⟨rfl, rfl⟩
theorem lX4_warmths_0 : M_bl MX4_warmths 0 = bX4_warmths_0 := rfl
theorem qX4_warmths : M_mc MX4_warmths = 0 ∧ M_ms MX4_warmths = 0 := ⟨rfl, rfl⟩
theorem lX4_greaterPart_0 : M_bl MX4_greaterPart 0 = bX4_greaterPart_0 := rfl
theorem qX4_greaterPart : M_mc MX4_greaterPart = 0 ∧ M_ms MX4_greaterPart = 0 := ⟨rfl, rfl⟩
theorem lX4_columnMark_0 : M_bl MX4_columnMark 0 = bX4_columnMark_0 := rfl
theorem qX4_columnMark : M_mc MX4_columnMark = 0 ∧ M_ms MX4_columnMark = 0 := ⟨rfl, rfl⟩
theorem lX4_moorMark_0 : M_bl MX4_moorMark 0 = bX4_moorMark_0 := rfl
theorem qX4_moorMark : M_mc MX4_moorMark = 0 ∧ M_ms MX4_moorMark = 0 := ⟨rfl, rfl⟩
theorem lX4_fenMark_0 : M_bl MX4_fenMark 0 = bX4_fenMark_0 := rfl
theorem qX4_fenMark : M_mc MX4_fenMark = 0 ∧ M_ms MX4_fenMark = 0 := ⟨rfl, rfl⟩
theorem lX4_fellMark_0 : M_bl MX4_fellMark 0 = bX4_fellMark_0 := rfl
theorem qX4_fellMark : M_mc MX4_fellMark = 0 ∧ M_ms MX4_fellMark = 0 := ⟨rfl, rfl⟩
theorem lX4_saltingMark_0 : M_bl MX4_saltingMark 0 = bX4_saltingMark_0 := rfl
theorem qX4_saltingMark : M_mc MX4_saltingMark = 0 ∧ M_ms MX4_saltingMark = 0 := ⟨rfl, rfl⟩
theorem lX4_woodMark_0 : M_bl MX4_woodMark 0 = bX4_woodMark_0 := rfl
theorem qX4_woodMark : M_mc MX4_woodMark = 0 ∧ M_ms MX4_woodMark = 0 := ⟨rfl, rfl⟩
theorem lX5_in_0 : M_bl MX5_in 0 = bX5_in_0 := rfl
theorem lX5_in_1 : M_bl MX5_in 1 = bX5_in_1 := rfl
theorem lX5_in_2 : M_bl MX5_in 2 = bX5_in_2 := rfl
theorem qX5_in : M_mc MX5_in = 0 ∧ M_ms MX5_in = 0 := ⟨rfl, rfl⟩
theorem lX5_common_0 : M_bl MX5_common 0 = bX5_common_0 := rfl
theorem lX5_common_1 : M_bl MX5_common 1 = bX5_common_1 := rfl
theorem lX5_common_100 : M_bl MX5_common 100 = bX5_common_100 := rfl
theorem qX5_common : M_mc MX5_common = 0 ∧ M_ms MX5_common = 0 := ⟨rfl, rfl⟩
theorem lX5_init_0 : M_bl MX5_init 0 = bX5_init_0 := rfl
theorem qX5_init : M_mc MX5_init = 19 ∧ M_ms MX5_init = 634 := ⟨rfl, rfl⟩
theorem lX5_isColumn_0 : M_bl MX5_isColumn 0 = bX5_isColumn_0 := rfl
theorem qX5_isColumn : M_mc MX5_isColumn = 0 ∧ M_ms MX5_isColumn = 0 := ⟨rfl, rfl⟩
theorem lX5_isField_0 : M_bl MX5_isField 0 = bX5_isField_0 := rfl
theorem qX5_isField : M_mc MX5_isField = 0 ∧ M_ms MX5_isField = 0 := ⟨rfl, rfl⟩
theorem lX5_type_0 : M_bl MX5_type 0 = bX5_type_0 := rfl
theorem lX5_type_1 : M_bl MX5_type 1 = bX5_type_1 := rfl
theorem lX5_type_2 : M_bl MX5_type 2 = bX5_type_2 := rfl
theorem qX5_type : M_mc MX5_type = 0 ∧ M_ms MX5_type = 0 := ⟨rfl, rfl⟩
theorem lX5_clear_0 : M_bl MX5_clear 0 = bX5_clear_0 := rfl
theorem qX5_clear : M_mc MX5_clear = 0 ∧ M_ms MX5_clear = 0 := ⟨rfl, rfl⟩
theorem lX5_here_0 : M_bl MX5_here 0 = bX5_here_0 := rfl
theorem lX5_here_1 : M_bl MX5_here 1 = bX5_here_1 := rfl
theorem lX5_here_2 : M_bl MX5_here 2 = bX5_here_2 := rfl
theorem qX5_here : M_mc MX5_here = 0 ∧ M_ms MX5_here = 0 := ⟨rfl, rfl⟩
theorem lX5_skip_0 : M_bl MX5_skip 0 = bX5_skip_0 := rfl
theorem lX5_skip_1 : M_bl MX5_skip 1 = bX5_skip_1 := rfl
theorem lX5_skip_100 : M_bl MX5_skip 100 = bX5_skip_100 := rfl
theorem qX5_skip : M_mc MX5_skip = 0 ∧ M_ms MX5_skip = 0 := ⟨rfl, rfl⟩
theorem lX5_number_0 : M_bl MX5_number 0 = bX5_number_0 := rfl
theorem lX5_number_1 : M_bl MX5_number 1 = bX5_number_1 := rfl
theorem lX5_number_2 : M_bl MX5_number 2 = bX5_number_2 := rfl
theorem lX5_number_3 : M_bl MX5_number 3 = bX5_number_3 := rfl
theorem lX5_number_4 : M_bl MX5_number 4 = bX5_number_4 := rfl
theorem lX5_number_5 : M_bl MX5_number 5 = bX5_number_5 := rfl
theorem lX5_number_6 : M_bl MX5_number 6 = bX5_number_6 := rfl
theorem lX5_number_100 : M_bl MX5_number 100 = bX5_number_100 := rfl
theorem qX5_number : M_mc MX5_number = 0 ∧ M_ms MX5_number = 0 := ⟨rfl, rfl⟩
theorem lX5_ends_0 : M_bl MX5_ends 0 = bX5_ends_0 := rfl
theorem lX5_ends_1 : M_bl MX5_ends 1 = bX5_ends_1 := rfl
theorem qX5_ends : M_mc MX5_ends = 0 ∧ M_ms MX5_ends = 0 := ⟨rfl, rfl⟩
theorem lX5_readsColumn_0 : M_bl MX5_readsColumn 0 = bX5_readsColumn_0 := rfl
theorem lX5_readsColumn_1 : M_bl MX5_readsColumn 1 = bX5_readsColumn_1 := rfl
theorem lX5_readsColumn_2 : M_bl MX5_readsColumn 2 = bX5_readsColumn_2 := rfl
theorem lX5_readsColumn_100 : M_bl MX5_readsColumn 100 = bX5_readsColumn_100 := rfl
theorem qX5_readsColumn : M_mc MX5_readsColumn = 0 ∧ M_ms MX5_readsColumn = 0 := ⟨rfl, rfl⟩
theorem lX5_readsVoter_0 : M_bl MX5_readsVoter 0 = bX5_readsVoter_0 := rfl
theorem lX5_readsVoter_1 : M_bl MX5_readsVoter 1 = bX5_readsVoter_1 := rfl
theorem lX5_readsVoter_2 : M_bl MX5_readsVoter 2 = bX5_readsVoter_2 := rfl
theorem qX5_readsVoter : M_mc MX5_readsVoter = 0 ∧ M_ms MX5_readsVoter = 0 := ⟨rfl, rfl⟩
theorem lX5_readsDay_0 : M_bl MX5_readsDay 0 = bX5_readsDay_0 := rfl
theorem lX5_readsDay_1 : M_bl MX5_readsDay 1 = bX5_readsDay_1 := rfl
theorem qX5_readsDay : M_mc MX5_readsDay = 0 ∧ M_ms MX5_readsDay = 0 := ⟨rfl, rfl⟩
theorem lX5_readsGap_0 : M_bl MX5_readsGap 0 = bX5_readsGap_0 := rfl
theorem lX5_readsGap_1 : M_bl MX5_readsGap 1 = bX5_readsGap_1 := rfl
theorem qX5_readsGap : M_mc MX5_readsGap = 0 ∧ M_ms MX5_readsGap = 0 := ⟨rfl, rfl⟩
theorem lX5_readsHands_0 : M_bl MX5_readsHands 0 = bX5_readsHands_0 := rfl
theorem lX5_readsHands_1 : M_bl MX5_readsHands 1 = bX5_readsHands_1 := rfl
theorem lX5_readsHands_2 : M_bl MX5_readsHands 2 = bX5_readsHands_2 := rfl
theorem lX5_readsHands_100 : M_bl MX5_readsHands 100 = bX5_readsHands_100 := rfl
theorem qX5_readsHands : M_mc MX5_readsHands = 0 ∧ M_ms MX5_readsHands = 0 := ⟨rfl, rfl⟩
theorem lX5_readsItem_0 : M_bl MX5_readsItem 0 = bX5_readsItem_0 := rfl
theorem lX5_readsItem_1 : M_bl MX5_readsItem 1 = bX5_readsItem_1 := rfl
theorem lX5_readsItem_2 : M_bl MX5_readsItem 2 = bX5_readsItem_2 := rfl
theorem lX5_readsItem_3 : M_bl MX5_readsItem 3 = bX5_readsItem_3 := rfl
theorem lX5_readsItem_4 : M_bl MX5_readsItem 4 = bX5_readsItem_4 := rfl
theorem lX5_readsItem_5 : M_bl MX5_readsItem 5 = bX5_readsItem_5 := rfl
theorem lX5_readsItem_6 : M_bl MX5_readsItem 6 = bX5_readsItem_6 := rfl
theorem lX5_readsItem_7 : M_bl MX5_readsItem 7 = bX5_readsItem_7 := rfl
theorem lX5_readsItem_8 : M_bl MX5_readsItem 8 = bX5_readsItem_8 := rfl
theorem lX5_readsItem_9 : M_bl MX5_readsItem 9 = bX5_readsItem_9 := rfl
theorem lX5_readsItem_10 : M_bl MX5_readsItem 10 = bX5_readsItem_10 := rfl
theorem lX5_readsItem_11 : M_bl MX5_readsItem 11 = bX5_readsItem_11 := rfl
theorem lX5_readsItem_12 : M_bl MX5_readsItem 12 = bX5_readsItem_12 := rfl
theorem lX5_readsItem_13 : M_bl MX5_readsItem 13 = bX5_readsItem_13 := rfl
theorem lX5_readsItem_14 : M_bl MX5_readsItem 14 = bX5_readsItem_14 := rfl
theorem lX5_readsItem_15 : M_bl MX5_readsItem 15 = bX5_readsItem_15 := rfl
theorem lX5_readsItem_16 : M_bl MX5_readsItem 16 = bX5_readsItem_16 := rfl
theorem lX5_readsItem_17 : M_bl MX5_readsItem 17 = bX5_readsItem_17 := rfl
theorem lX5_readsItem_18 : M_bl MX5_readsItem 18 = bX5_readsItem_18 := rfl
theorem lX5_readsItem_19 : M_bl MX5_readsItem 19 = bX5_readsItem_19 := rfl
theorem lX5_readsItem_20 : M_bl MX5_readsItem 20 = bX5_readsItem_20 := rfl
theorem qX5_readsItem : M_mc MX5_readsItem = 0 ∧ M_ms MX5_readsItem = 0 := ⟨rfl, rfl⟩
theorem lX5_wold_0 : M_bl MX5_wold 0 = bX5_wold_0 := rfl
theorem lX5_wold_1 : M_bl MX5_wold 1 = bX5_wold_1 := rfl
theorem lX5_wold_2 : M_bl MX5_wold 2 = bX5_wold_2 := rfl
theorem lX5_wold_100 : M_bl MX5_wold 100 = bX5_wold_100 := rfl
theorem qX5_wold : M_mc MX5_wold = 0 ∧ M_ms MX5_wold = 0 := ⟨rfl, rfl⟩
theorem lX5_comesRead_0 : M_bl MX5_comesRead 0 = bX5_comesRead_0 := rfl
theorem lX5_comesRead_1 : M_bl MX5_comesRead 1 = bX5_comesRead_1 := rfl
theorem lX5_comesRead_2 : M_bl MX5_comesRead 2 = bX5_comesRead_2 := rfl
theorem lX5_comesRead_3 : M_bl MX5_comesRead 3 = bX5_comesRead_3 := rfl
theorem lX5_comesRead_4 : M_bl MX5_comesRead 4 = bX5_comesRead_4 := rfl
theorem lX5_comesRead_5 : M_bl MX5_comesRead 5 = bX5_comesRead_5 := rfl
theorem lX5_comesRead_6 : M_bl MX5_comesRead 6 = bX5_comesRead_6 := rfl
theorem lX5_comesRead_7 : M_bl MX5_comesRead 7 = bX5_comesRead_7 := rfl
theorem lX5_comesRead_8 : M_bl MX5_comesRead 8 = bX5_comesRead_8 := rfl
theorem lX5_comesRead_9 : M_bl MX5_comesRead 9 = bX5_comesRead_9 := rfl
theorem lX5_comesRead_10 : M_bl MX5_comesRead 10 = bX5_comesRead_10 := rfl
theorem lX5_comesRead_100 : M_bl MX5_comesRead 100 = bX5_comesRead_100 := rfl
theorem lX5_comesRead_101 : M_bl MX5_comesRead 101 = bX5_comesRead_101 := rfl
theorem lX5_comesRead_102 : M_bl MX5_comesRead 102 = bX5_comesRead_102 := rfl
theorem lX5_comesRead_103 : M_bl MX5_comesRead 103 = bX5_comesRead_103 := rfl
theorem qX5_comesRead : M_mc MX5_comesRead = 0 ∧ M_ms MX5_comesRead = 0 := ⟨rfl, rfl⟩
theorem lX5_warmAt_0 : M_bl MX5_warmAt 0 = bX5_warmAt_0 := rfl
theorem lX5_warmAt_1 : M_bl MX5_warmAt 1 = bX5_warmAt_1 := rfl
theorem lX5_warmAt_2 : M_bl MX5_warmAt 2 = bX5_warmAt_2 := rfl
theorem qX5_warmAt : M_mc MX5_warmAt = 0 ∧ M_ms MX5_warmAt = 0 := ⟨rfl, rfl⟩
theorem lX5_mildBy_0 : M_bl MX5_mildBy 0 = bX5_mildBy_0 := rfl
theorem qX5_mildBy : M_mc MX5_mildBy = 0 ∧ M_ms MX5_mildBy = 0 := ⟨rfl, rfl⟩
theorem lX5_warmthNow_0 : M_bl MX5_warmthNow 0 = bX5_warmthNow_0 := rfl
theorem qX5_warmthNow : M_mc MX5_warmthNow = 0 ∧ M_ms MX5_warmthNow = 0 := ⟨rfl, rfl⟩
theorem lX5_mild_0 : M_bl MX5_mild 0 = bX5_mild_0 := rfl
theorem qX5_mild : M_mc MX5_mild = 0 ∧ M_ms MX5_mild = 0 := ⟨rfl, rfl⟩
theorem lX5_lowestBy_0 : M_bl MX5_lowestBy 0 = bX5_lowestBy_0 := rfl
theorem lX5_lowestBy_1 : M_bl MX5_lowestBy 1 = bX5_lowestBy_1 := rfl
theorem lX5_lowestBy_100 : M_bl MX5_lowestBy 100 = bX5_lowestBy_100 := rfl
theorem qX5_lowestBy : M_mc MX5_lowestBy = 0 ∧ M_ms MX5_lowestBy = 0 := ⟨rfl, rfl⟩
theorem lX5_edge_0 : M_bl MX5_edge 0 = bX5_edge_0 := rfl
theorem qX5_edge : M_mc MX5_edge = 0 ∧ M_ms MX5_edge = 0 := ⟨rfl, rfl⟩
theorem lX5_wet_0 : M_bl MX5_wet 0 = bX5_wet_0 := rfl
theorem qX5_wet : M_mc MX5_wet = 0 ∧ M_ms MX5_wet = 0 := ⟨rfl, rfl⟩
theorem lX5_halves_0 : M_bl MX5_halves 0 = bX5_halves_0 := rfl
theorem lX5_halves_1 : M_bl MX5_halves 1 = bX5_halves_1 := rfl
theorem lX5_halves_2 : M_bl MX5_halves 2 = bX5_halves_2 := rfl
theorem lX5_halves_3 : M_bl MX5_halves 3 = bX5_halves_3 := rfl
theorem lX5_halves_4 : M_bl MX5_halves 4 = bX5_halves_4 := rfl
theorem lX5_halves_5 : M_bl MX5_halves 5 = bX5_halves_5 := rfl
theorem lX5_halves_6 : M_bl MX5_halves 6 = bX5_halves_6 := rfl
theorem lX5_halves_7 : M_bl MX5_halves 7 = bX5_halves_7 := rfl
theorem lX5_halves_8 : M_bl MX5_halves 8 = bX5_halves_8 := rfl
theorem lX5_halves_9 : M_bl MX5_halves 9 = bX5_halves_9 := rfl
theorem lX5_halves_100 : M_bl MX5_halves 100 = bX5_halves_100 := rfl
theorem qX5_halves : M_mc MX5_halves = 0 ∧ M_ms MX5_halves = 0 := ⟨rfl, rfl⟩
theorem lX5_column_0 : M_bl MX5_column 0 = bX5_column_0 := rfl
theorem lX5_column_1 : M_bl MX5_column 1 = bX5_column_1 := rfl
theorem lX5_column_2 : M_bl MX5_column 2 = bX5_column_2 := rfl
theorem lX5_column_3 : M_bl MX5_column 3 = bX5_column_3 := rfl
theorem lX5_column_4 : M_bl MX5_column 4 = bX5_column_4 := rfl
theorem lX5_column_5 : M_bl MX5_column 5 = bX5_column_5 := rfl
theorem lX5_column_6 : M_bl MX5_column 6 = bX5_column_6 := rfl
theorem lX5_column_7 : M_bl MX5_column 7 = bX5_column_7 := rfl
theorem lX5_column_8 : M_bl MX5_column 8 = bX5_column_8 := rfl
theorem lX5_column_9 : M_bl MX5_column 9 = bX5_column_9 := rfl
theorem lX5_column_10 : M_bl MX5_column 10 = bX5_column_10 := rfl
theorem lX5_column_11 : M_bl MX5_column 11 = bX5_column_11 := rfl
theorem lX5_column_12 : M_bl MX5_column 12 = bX5_column_12 := rfl
theorem lX5_column_13 : M_bl MX5_column 13 = bX5_column_13 := rfl
theorem qX5_column : M_mc MX5_column = 0 ∧ M_ms MX5_column = 0 := ⟨rfl, rfl⟩
theorem lX5_falls_0 : M_bl MX5_falls 0 = bX5_falls_0 := rfl
theorem lX5_falls_1 : M_bl MX5_falls 1 = bX5_falls_1 := rfl
theorem lX5_falls_2 : M_bl MX5_falls 2 = bX5_falls_2 := rfl
theorem lX5_falls_3 : M_bl MX5_falls 3 = bX5_falls_3 := rfl
theorem qX5_falls : M_mc MX5_falls = 0 ∧ M_ms MX5_falls = 0 := ⟨rfl, rfl⟩
theorem lX5_field_0 : M_bl MX5_field 0 = bX5_field_0 := rfl
theorem lX5_field_1 : M_bl MX5_field 1 = bX5_field_1 := rfl
theorem lX5_field_2 : M_bl MX5_field 2 = bX5_field_2 := rfl
theorem lX5_field_3 : M_bl MX5_field 3 = bX5_field_3 := rfl
theorem lX5_field_4 : M_bl MX5_field 4 = bX5_field_4 := rfl
theorem lX5_field_5 : M_bl MX5_field 5 = bX5_field_5 := rfl
theorem lX5_field_6 : M_bl MX5_field 6 = bX5_field_6 := rfl
theorem qX5_field : M_mc MX5_field = 0 ∧ M_ms MX5_field = 0 := ⟨rfl, rfl⟩
theorem lX5_voter_0 : M_bl MX5_voter 0 = bX5_voter_0 := rfl
theorem lX5_voter_1 : M_bl MX5_voter 1 = bX5_voter_1 := rfl
theorem lX5_voter_2 : M_bl MX5_voter 2 = bX5_voter_2 := rfl
theorem lX5_voter_3 : M_bl MX5_voter 3 = bX5_voter_3 := rfl
theorem lX5_voter_4 : M_bl MX5_voter 4 = bX5_voter_4 := rfl
theorem qX5_voter : M_mc MX5_voter = 0 ∧ M_ms MX5_voter = 0 := ⟨rfl, rfl⟩
theorem lX5_fallMany_0 : M_bl MX5_fallMany 0 = bX5_fallMany_0 := rfl
theorem lX5_fallMany_1 : M_bl MX5_fallMany 1 = bX5_fallMany_1 := rfl
theorem lX5_fallMany_2 : M_bl MX5_fallMany 2 = bX5_fallMany_2 := rfl
theorem lX5_fallMany_3 : M_bl MX5_fallMany 3 = bX5_fallMany_3 := rfl
theorem lX5_fallMany_4 : M_bl MX5_fallMany 4 = bX5_fallMany_4 := rfl
theorem lX5_fallMany_100 : M_bl MX5_fallMany 100 = bX5_fallMany_100 := rfl
theorem lX5_fallMany_101 : M_bl MX5_fallMany 101 = bX5_fallMany_101 := rfl
theorem qX5_fallMany : M_mc MX5_fallMany = 0 ∧ M_ms MX5_fallMany = 0 := ⟨rfl, rfl⟩
theorem lX5_writes_0 : M_bl MX5_writes 0 = bX5_writes_0 := rfl
theorem lX5_writes_1 : M_bl MX5_writes 1 = bX5_writes_1 := rfl
theorem lX5_writes_100 : M_bl MX5_writes 100 = bX5_writes_100 := rfl
theorem qX5_writes : M_mc MX5_writes = 0 ∧ M_ms MX5_writes = 0 := ⟨rfl, rfl⟩
theorem lX5_readsBack_0 : M_bl MX5_readsBack 0 = bX5_readsBack_0 := rfl
theorem lX5_readsBack_1 : M_bl MX5_readsBack 1 = bX5_readsBack_1 := rfl
theorem lX5_readsBack_100 : M_bl MX5_readsBack 100 = bX5_readsBack_100 := rfl
theorem qX5_readsBack : M_mc MX5_readsBack = 0 ∧ M_ms MX5_readsBack = 0 := ⟨rfl, rfl⟩
theorem lX5_notes_0 : M_bl MX5_notes 0 = bX5_notes_0 := rfl
theorem lX5_notes_1 : M_bl MX5_notes 1 = bX5_notes_1 := rfl
theorem lX5_notes_2 : M_bl MX5_notes 2 = bX5_notes_2 := rfl
theorem lX5_notes_100 : M_bl MX5_notes 100 = bX5_notes_100 := rfl
theorem qX5_notes : M_mc MX5_notes = 0 ∧ M_ms MX5_notes = 0 := ⟨rfl, rfl⟩
theorem lX5_days_0 : M_bl MX5_days 0 = bX5_days_0 := rfl
theorem lX5_days_1 : M_bl MX5_days 1 = bX5_days_1 := rfl
theorem lX5_days_2 : M_bl MX5_days 2 = bX5_days_2 := rfl
theorem qX5_days : M_mc MX5_days = 0 ∧ M_ms MX5_days = 0 := ⟨rfl, rfl⟩
theorem lX5_warms_0 : M_bl MX5_warms 0 = bX5_warms_0 := rfl
theorem lX5_warms_1 : M_bl MX5_warms 1 = bX5_warms_1 := rfl
theorem lX5_warms_2 : M_bl MX5_warms 2 = bX5_warms_2 := rfl
theorem lX5_warms_3 : M_bl MX5_warms 3 = bX5_warms_3 := rfl
theorem qX5_warms : M_mc MX5_warms = 0 ∧ M_ms MX5_warms = 0 := ⟨rfl, rfl⟩
theorem lX5_stakes_0 : M_bl MX5_stakes 0 = bX5_stakes_0 := rfl
theorem lX5_stakes_1 : M_bl MX5_stakes 1 = bX5_stakes_1 := rfl
theorem lX5_stakes_2 : M_bl MX5_stakes 2 = bX5_stakes_2 := rfl
theorem qX5_stakes : M_mc MX5_stakes = 0 ∧ M_ms MX5_stakes = 0 := ⟨rfl, rfl⟩
theorem lX5_pulls_0 : M_bl MX5_pulls 0 = bX5_pulls_0 := rfl
theorem lX5_pulls_1 : M_bl MX5_pulls 1 = bX5_pulls_1 := rfl
theorem lX5_pulls_2 : M_bl MX5_pulls 2 = bX5_pulls_2 := rfl
theorem qX5_pulls : M_mc MX5_pulls = 0 ∧ M_ms MX5_pulls = 0 := ⟨rfl, rfl⟩
theorem lX5_undo_0 : M_bl MX5_undo 0 = bX5_undo_0 := rfl
theorem lX5_undo_1 : M_bl MX5_undo 1 = bX5_undo_1 := rfl
theorem qX5_undo : M_mc MX5_undo = 0 ∧ M_ms MX5_undo = 0 := ⟨rfl, rfl⟩
theorem lX5_widest_0 : M_bl MX5_widest 0 = bX5_widest_0 := rfl
theorem lX5_widest_1 : M_bl MX5_widest 1 = bX5_widest_1 := rfl
theorem lX5_widest_2 : M_bl MX5_widest 2 = bX5_widest_2 := rfl
theorem lX5_widest_3 : M_bl MX5_widest 3 = bX5_widest_3 := rfl
theorem lX5_widest_100 : M_bl MX5_widest 100 = bX5_widest_100 := rfl
theorem qX5_widest : M_mc MX5_widest = 0 ∧ M_ms MX5_widest = 0 := ⟨rfl, rfl⟩
theorem lX5_stakeMany_0 : M_bl MX5_stakeMany 0 = bX5_stakeMany_0 := rfl
theorem lX5_stakeMany_1 : M_bl MX5_stakeMany 1 = bX5_stakeMany_1 := rfl
theorem lX5_stakeMany_2 : M_bl MX5_stakeMany 2 = bX5_stakeMany_2 := rfl
theorem lX5_stakeMany_3 : M_bl MX5_stakeMany 3 = bX5_stakeMany_3 := rfl
theorem lX5_stakeMany_100 : M_bl MX5_stakeMany 100 = bX5_stakeMany_100 := rfl
theorem qX5_stakeMany : M_mc MX5_stakeMany = 0 ∧ M_ms MX5_stakeMany = 0 := ⟨rfl, rfl⟩
theorem lX5_vote_0 : M_bl MX5_vote 0 = bX5_vote_0 := rfl
theorem lX5_vote_1 : M_bl MX5_vote 1 = bX5_vote_1 := rfl
theorem lX5_vote_2 : M_bl MX5_vote 2 = bX5_vote_2 := rfl
theorem lX5_vote_3 : M_bl MX5_vote 3 = bX5_vote_3 := rfl
theorem lX5_vote_100 : M_bl MX5_vote 100 = bX5_vote_100 := rfl
theorem qX5_vote : M_mc MX5_vote = 0 ∧ M_ms MX5_vote = 0 := ⟨rfl, rfl⟩
theorem lX5_now_0 : M_bl MX5_now 0 = bX5_now_0 := rfl
theorem lX5_now_1 : M_bl MX5_now 1 = bX5_now_1 := rfl
theorem lX5_now_2 : M_bl MX5_now 2 = bX5_now_2 := rfl
theorem lX5_now_3 : M_bl MX5_now 3 = bX5_now_3 := rfl
theorem lX5_now_4 : M_bl MX5_now 4 = bX5_now_4 := rfl
theorem lX5_now_5 : M_bl MX5_now 5 = bX5_now_5 := rfl
theorem lX5_now_6 : M_bl MX5_now 6 = bX5_now_6 := rfl
theorem lX5_now_7 : M_bl MX5_now 7 = bX5_now_7 := rfl
theorem lX5_now_8 : M_bl MX5_now 8 = bX5_now_8 := rfl
theorem lX5_now_9 : M_bl MX5_now 9 = bX5_now_9 := rfl
theorem qX5_now : M_mc MX5_now = 0 ∧ M_ms MX5_now = 0 := ⟨rfl, rfl⟩
theorem lX5_first_0 : M_bl MX5_first 0 = bX5_first_0 := rfl
theorem lX5_first_1 : M_bl MX5_first 1 = bX5_first_1 := rfl
theorem lX5_first_2 : M_bl MX5_first 2 = bX5_first_2 := rfl
theorem lX5_first_3 : M_bl MX5_first 3 = bX5_first_3 := rfl
theorem lX5_first_4 : M_bl MX5_first 4 = bX5_first_4 := rfl
theorem lX5_first_100 : M_bl MX5_first 100 = bX5_first_100 := rfl
theorem qX5_first : M_mc MX5_first = 0 ∧ M_ms MX5_first = 0 := ⟨rfl, rfl⟩
theorem lX5_firstLine_0 : M_bl MX5_firstLine 0 = bX5_firstLine_0 := rfl
theorem lX5_firstLine_1 : M_bl MX5_firstLine 1 = bX5_firstLine_1 := rfl
theorem lX5_firstLine_100 : M_bl MX5_firstLine 100 = bX5_firstLine_100 := rfl
theorem qX5_firstLine : M_mc MX5_firstLine = 0 ∧ M_ms MX5_firstLine = 0 := ⟨rfl, rfl⟩
theorem lX5_nextLine_0 : M_bl MX5_nextLine 0 = bX5_nextLine_0 := rfl
theorem lX5_nextLine_1 : M_bl MX5_nextLine 1 = bX5_nextLine_1 := rfl
theorem lX5_nextLine_2 : M_bl MX5_nextLine 2 = bX5_nextLine_2 := rfl
theorem lX5_nextLine_3 : M_bl MX5_nextLine 3 = bX5_nextLine_3 := rfl
theorem lX5_nextLine_4 : M_bl MX5_nextLine 4 = bX5_nextLine_4 := rfl
theorem lX5_nextLine_5 : M_bl MX5_nextLine 5 = bX5_nextLine_5 := rfl
theorem lX5_nextLine_6 : M_bl MX5_nextLine 6 = bX5_nextLine_6 := rfl
theorem lX5_nextLine_7 : M_bl MX5_nextLine 7 = bX5_nextLine_7 := rfl
theorem lX5_nextLine_8 : M_bl MX5_nextLine 8 = bX5_nextLine_8 := rfl
theorem lX5_nextLine_100 : M_bl MX5_nextLine 100 = bX5_nextLine_100 := rfl
theorem lX5_nextLine_101 : M_bl MX5_nextLine 101 = bX5_nextLine_101 := rfl
theorem qX5_nextLine : M_mc MX5_nextLine = 0 ∧ M_ms MX5_nextLine = 0 := ⟨rfl, rfl⟩
theorem lX5_lineNumber_0 : M_bl MX5_lineNumber 0 = bX5_lineNumber_0 := rfl
theorem lX5_lineNumber_1 : M_bl MX5_lineNumber 1 = bX5_lineNumber_1 := rfl
theorem lX5_lineNumber_100 : M_bl MX5_lineNumber 100 = bX5_lineNumber_100 := rfl
theorem qX5_lineNumber : M_mc MX5_lineNumber = 0 ∧ M_ms MX5_lineNumber = 0 := ⟨rfl, rfl⟩
theorem lX5_hasHill_0 : M_bl MX5_hasHill 0 = bX5_hasHill_0 := rfl
theorem lX5_hasHill_1 : M_bl MX5_hasHill 1 = bX5_hasHill_1 := rfl
theorem lX5_hasHill_100 : M_bl MX5_hasHill 100 = bX5_hasHill_100 := rfl
theorem qX5_hasHill : M_mc MX5_hasHill = 0 ∧ M_ms MX5_hasHill = 0 := ⟨rfl, rfl⟩
theorem lX5_hasSea_0 : M_bl MX5_hasSea 0 = bX5_hasSea_0 := rfl
theorem lX5_hasSea_1 : M_bl MX5_hasSea 1 = bX5_hasSea_1 := rfl
theorem lX5_hasSea_100 : M_bl MX5_hasSea 100 = bX5_hasSea_100 := rfl
theorem qX5_hasSea : M_mc MX5_hasSea = 0 ∧ M_ms MX5_hasSea = 0 := ⟨rfl, rfl⟩
theorem lX5_allOf_0 : M_bl MX5_allOf 0 = bX5_allOf_0 := rfl
theorem lX5_allOf_1 : M_bl MX5_allOf 1 = bX5_allOf_1 := rfl
theorem lX5_allOf_100 : M_bl MX5_allOf 100 = bX5_allOf_100 := rfl
theorem qX5_allOf : M_mc MX5_allOf = 0 ∧ M_ms MX5_allOf = 0 := ⟨rfl, rfl⟩
theorem lX5_fair_0 : M_bl MX5_fair 0 = bX5_fair_0 := rfl
theorem lX5_fair_1 : M_bl MX5_fair 1 = bX5_fair_1 := rfl
theorem lX5_fair_2 : M_bl MX5_fair 2 = bX5_fair_2 := rfl
theorem lX5_fair_3 : M_bl MX5_fair 3 = bX5_fair_3 := rfl
theorem lX5_fair_4 : M_bl MX5_fair 4 = bX5_fair_4 := rfl
theorem lX5_fair_5 : M_bl MX5_fair 5 = bX5_fair_5 := rfl
theorem lX5_fair_6 : M_bl MX5_fair 6 = bX5_fair_6 := rfl
theorem lX5_fair_7 : M_bl MX5_fair 7 = bX5_fair_7 := rfl
theorem lX5_fair_8 : M_bl MX5_fair 8 = bX5_fair_8 := rfl
theorem lX5_fair_9 : M_bl MX5_fair 9 = bX5_fair_9 := rfl
theorem lX5_fair_10 : M_bl MX5_fair 10 = bX5_fair_10 := rfl
theorem lX5_fair_100 : M_bl MX5_fair 100 = bX5_fair_100 := rfl
theorem qX5_fair : M_mc MX5_fair = 0 ∧ M_ms MX5_fair = 0 := ⟨rfl, rfl⟩
theorem lX5_best_0 : M_bl MX5_best 0 = bX5_best_0 := rfl
theorem lX5_best_1 : M_bl MX5_best 1 = bX5_best_1 := rfl
theorem lX5_best_2 : M_bl MX5_best 2 = bX5_best_2 := rfl
theorem lX5_best_3 : M_bl MX5_best 3 = bX5_best_3 := rfl
theorem lX5_best_4 : M_bl MX5_best 4 = bX5_best_4 := rfl
theorem lX5_best_5 : M_bl MX5_best 5 = bX5_best_5 := rfl
theorem lX5_best_6 : M_bl MX5_best 6 = bX5_best_6 := rfl
theorem lX5_best_7 : M_bl MX5_best 7 = bX5_best_7 := rfl
theorem lX5_best_8 : M_bl MX5_best 8 = bX5_best_8 := rfl
theorem lX5_best_9 : M_bl MX5_best 9 = bX5_best_9 := rfl
theorem lX5_best_10 : M_bl MX5_best 10 = bX5_best_10 := rfl
theorem lX5_best_100 : M_bl MX5_best 100 = bX5_best_100 := rfl
theorem qX5_best : M_mc MX5_best = 0 ∧ M_ms MX5_best = 0 := ⟨rfl, rfl⟩
theorem lX5_orders_0 : M_bl MX5_orders 0 = bX5_orders_0 := rfl
theorem lX5_orders_1 : M_bl MX5_orders 1 = bX5_orders_1 := rfl
theorem lX5_orders_100 : M_bl MX5_orders 100 = bX5_orders_100 := rfl
theorem qX5_orders : M_mc MX5_orders = 0 ∧ M_ms MX5_orders = 0 := ⟨rfl, rfl⟩
theorem lX5_weightOf_0 : M_bl MX5_weightOf 0 = bX5_weightOf_0 := rfl
theorem lX5_weightOf_1 : M_bl MX5_weightOf 1 = bX5_weightOf_1 := rfl
theorem lX5_weightOf_2 : M_bl MX5_weightOf 2 = bX5_weightOf_2 := rfl
theorem lX5_weightOf_3 : M_bl MX5_weightOf 3 = bX5_weightOf_3 := rfl
theorem lX5_weightOf_100 : M_bl MX5_weightOf 100 = bX5_weightOf_100 := rfl
theorem qX5_weightOf : M_mc MX5_weightOf = 0 ∧ M_ms MX5_weightOf = 0 := ⟨rfl, rfl⟩
theorem lX5_power_0 : M_bl MX5_power 0 = bX5_power_0 := rfl
theorem lX5_power_1 : M_bl MX5_power 1 = bX5_power_1 := rfl
theorem lX5_power_2 : M_bl MX5_power 2 = bX5_power_2 := rfl
theorem lX5_power_3 : M_bl MX5_power 3 = bX5_power_3 := rfl
theorem lX5_power_4 : M_bl MX5_power 4 = bX5_power_4 := rfl
theorem lX5_power_5 : M_bl MX5_power 5 = bX5_power_5 := rfl
theorem lX5_power_6 : M_bl MX5_power 6 = bX5_power_6 := rfl
theorem lX5_power_7 : M_bl MX5_power 7 = bX5_power_7 := rfl
theorem lX5_power_100 : M_bl MX5_power 100 = bX5_power_100 := rfl
theorem lX5_power_101 : M_bl MX5_power 101 = bX5_power_101 := rfl
theorem qX5_power : M_mc MX5_power = 0 ∧ M_ms MX5_power = 0 := ⟨rfl, rfl⟩
theorem lX5_duel_0 : M_bl MX5_duel 0 = bX5_duel_0 := rfl
theorem lX5_duel_1 : M_bl MX5_duel 1 = bX5_duel_1 := rfl
theorem lX5_duel_2 : M_bl MX5_duel 2 = bX5_duel_2 := rfl
theorem lX5_duel_3 : M_bl MX5_duel 3 = bX5_duel_3 := rfl
theorem lX5_duel_4 : M_bl MX5_duel 4 = bX5_duel_4 := rfl
theorem lX5_duel_5 : M_bl MX5_duel 5 = bX5_duel_5 := rfl
theorem lX5_duel_6 : M_bl MX5_duel 6 = bX5_duel_6 := rfl
theorem lX5_duel_7 : M_bl MX5_duel 7 = bX5_duel_7 := rfl
theorem lX5_duel_8 : M_bl MX5_duel 8 = bX5_duel_8 := rfl
theorem lX5_duel_9 : M_bl MX5_duel 9 = bX5_duel_9 := rfl
theorem lX5_duel_10 : M_bl MX5_duel 10 = bX5_duel_10 := rfl
theorem lX5_duel_11 : M_bl MX5_duel 11 = bX5_duel_11 := rfl
theorem lX5_duel_12 : M_bl MX5_duel 12 = bX5_duel_12 := rfl
theorem lX5_duel_13 : M_bl MX5_duel 13 = bX5_duel_13 := rfl
theorem lX5_duel_14 : M_bl MX5_duel 14 = bX5_duel_14 := rfl
theorem lX5_duel_15 : M_bl MX5_duel 15 = bX5_duel_15 := rfl
theorem lX5_duel_16 : M_bl MX5_duel 16 = bX5_duel_16 := rfl
theorem lX5_duel_17 : M_bl MX5_duel 17 = bX5_duel_17 := rfl
theorem lX5_duel_18 : M_bl MX5_duel 18 = bX5_duel_18 := rfl
theorem lX5_duel_19 : M_bl MX5_duel 19 = bX5_duel_19 := rfl
theorem lX5_duel_100 : M_bl MX5_duel 100 = bX5_duel_100 := rfl
theorem lX5_duel_101 : M_bl MX5_duel 101 = bX5_duel_101 := rfl
theorem lX5_duel_102 : M_bl MX5_duel 102 = bX5_duel_102 := rfl
theorem lX5_duel_103 : M_bl MX5_duel 103 = bX5_duel_103 := rfl
theorem qX5_duel : M_mc MX5_duel = 0 ∧ M_ms MX5_duel = 0 := ⟨rfl, rfl⟩
theorem lX5_odds_0 : M_bl MX5_odds 0 = bX5_odds_0 := rfl
theorem lX5_odds_1 : M_bl MX5_odds 1 = bX5_odds_1 := rfl
theorem lX5_odds_2 : M_bl MX5_odds 2 = bX5_odds_2 := rfl
theorem lX5_odds_3 : M_bl MX5_odds 3 = bX5_odds_3 := rfl
theorem lX5_odds_4 : M_bl MX5_odds 4 = bX5_odds_4 := rfl
theorem lX5_odds_5 : M_bl MX5_odds 5 = bX5_odds_5 := rfl
theorem lX5_odds_6 : M_bl MX5_odds 6 = bX5_odds_6 := rfl
theorem lX5_odds_7 : M_bl MX5_odds 7 = bX5_odds_7 := rfl
theorem lX5_odds_8 : M_bl MX5_odds 8 = bX5_odds_8 := rfl
theorem lX5_odds_9 : M_bl MX5_odds 9 = bX5_odds_9 := rfl
theorem lX5_odds_10 : M_bl MX5_odds 10 = bX5_odds_10 := rfl
theorem lX5_odds_11 : M_bl MX5_odds 11 = bX5_odds_11 := rfl
theorem lX5_odds_100 : M_bl MX5_odds 100 = bX5_odds_100 := rfl
theorem lX5_odds_101 : M_bl MX5_odds 101 = bX5_odds_101 := rfl
theorem lX5_odds_102 : M_bl MX5_odds 102 = bX5_odds_102 := rfl
theorem qX5_odds : M_mc MX5_odds = 0 ∧ M_ms MX5_odds = 0 := ⟨rfl, rfl⟩
theorem lX5_hears_0 : M_bl MX5_hears 0 = bX5_hears_0 := rfl
theorem lX5_hears_1 : M_bl MX5_hears 1 = bX5_hears_1 := rfl
theorem lX5_hears_2 : M_bl MX5_hears 2 = bX5_hears_2 := rfl
theorem lX5_hears_3 : M_bl MX5_hears 3 = bX5_hears_3 := rfl
theorem qX5_hears : M_mc MX5_hears = 0 ∧ M_ms MX5_hears = 0 := ⟨rfl, rfl⟩
theorem lX5_forget_0 : M_bl MX5_forget 0 = bX5_forget_0 := rfl
theorem qX5_forget : M_mc MX5_forget = 0 ∧ M_ms MX5_forget = 0 := ⟨rfl, rfl⟩
theorem lX5_says_0 : M_bl MX5_says 0 = bX5_says_0 := rfl
theorem lX5_says_1 : M_bl MX5_says 1 = bX5_says_1 := rfl
theorem lX5_says_2 : M_bl MX5_says 2 = bX5_says_2 := rfl
theorem qX5_says : M_mc MX5_says = 0 ∧ M_ms MX5_says = 0 := ⟨rfl, rfl⟩
theorem lX5_isSo_0 : M_bl MX5_isSo 0 = bX5_isSo_0 := rfl
theorem lX5_isSo_1 : M_bl MX5_isSo 1 = bX5_isSo_1 := rfl
theorem lX5_isSo_2 : M_bl MX5_isSo 2 = bX5_isSo_2 := rfl
theorem lX5_isSo_3 : M_bl MX5_isSo 3 = bX5_isSo_3 := rfl
theorem lX5_isSo_4 : M_bl MX5_isSo 4 = bX5_isSo_4 := rfl
theorem lX5_isSo_5 : M_bl MX5_isSo 5 = bX5_isSo_5 := rfl
theorem lX5_isSo_100 : M_bl MX5_isSo 100 = bX5_isSo_100 := rfl
theorem qX5_isSo : M_mc MX5_isSo = 0 ∧ M_ms MX5_isSo = 0 := ⟨rfl, rfl⟩
theorem lX5_warmth_0 : M_bl MX5_warmth 0 = bX5_warmth_0 := rfl
theorem lX5_warmth_1 : M_bl MX5_warmth 1 = bX5_warmth_1 := rfl
theorem lX5_warmth_2 : M_bl MX5_warmth 2 = bX5_warmth_2 := rfl
theorem lX5_warmth_3 : M_bl MX5_warmth 3 = bX5_warmth_3 := rfl
theorem lX5_warmth_4 : M_bl MX5_warmth 4 = bX5_warmth_4 := rfl
theorem lX5_warmth_5 : M_bl MX5_warmth 5 = bX5_warmth_5 := rfl
theorem lX5_warmth_6 : M_bl MX5_warmth 6 = bX5_warmth_6 := rfl
theorem lX5_warmth_7 : M_bl MX5_warmth 7 = bX5_warmth_7 := rfl
theorem lX5_warmth_8 : M_bl MX5_warmth 8 = bX5_warmth_8 := rfl
theorem lX5_warmth_100 : M_bl MX5_warmth 100 = bX5_warmth_100 := rfl
theorem qX5_warmth : M_mc MX5_warmth = 0 ∧ M_ms MX5_warmth = 0 := ⟨rfl, rfl⟩
theorem lX5_ask_0 : M_bl MX5_ask 0 = bX5_ask_0 := rfl
theorem lX5_ask_1 : M_bl MX5_ask 1 = bX5_ask_1 := rfl
theorem lX5_ask_2 : M_bl MX5_ask 2 = bX5_ask_2 := rfl
theorem lX5_ask_3 : M_bl MX5_ask 3 = bX5_ask_3 := rfl
theorem lX5_ask_4 : M_bl MX5_ask 4 = bX5_ask_4 := rfl
theorem lX5_ask_5 : M_bl MX5_ask 5 = bX5_ask_5 := rfl
theorem lX5_ask_6 : M_bl MX5_ask 6 = bX5_ask_6 := rfl
theorem lX5_ask_7 : M_bl MX5_ask 7 = bX5_ask_7 := rfl
theorem lX5_ask_8 : M_bl MX5_ask 8 = bX5_ask_8 := rfl
theorem lX5_ask_9 : M_bl MX5_ask 9 = bX5_ask_9 := rfl
theorem lX5_ask_10 : M_bl MX5_ask 10 = bX5_ask_10 := rfl
theorem lX5_ask_11 : M_bl MX5_ask 11 = bX5_ask_11 := rfl
theorem lX5_ask_12 : M_bl MX5_ask 12 = bX5_ask_12 := rfl
theorem lX5_ask_100 : M_bl MX5_ask 100 = bX5_ask_100 := rfl
theorem lX5_ask_101 : M_bl MX5_ask 101 = bX5_ask_101 := rfl
theorem lX5_ask_102 : M_bl MX5_ask 102 = bX5_ask_102 := rfl
theorem lX5_ask_103 : M_bl MX5_ask 103 = bX5_ask_103 := rfl
theorem qX5_ask : M_mc MX5_ask = 0 ∧ M_ms MX5_ask = 0 := ⟨rfl, rfl⟩
theorem lX5_marked_0 : M_bl MX5_marked 0 = bX5_marked_0 := rfl
theorem lX5_marked_1 : M_bl MX5_marked 1 = bX5_marked_1 := rfl
theorem lX5_marked_2 : M_bl MX5_marked 2 = bX5_marked_2 := rfl
theorem lX5_marked_3 : M_bl MX5_marked 3 = bX5_marked_3 := rfl
theorem lX5_marked_4 : M_bl MX5_marked 4 = bX5_marked_4 := rfl
theorem lX5_marked_5 : M_bl MX5_marked 5 = bX5_marked_5 := rfl
theorem lX5_marked_6 : M_bl MX5_marked 6 = bX5_marked_6 := rfl
theorem lX5_marked_7 : M_bl MX5_marked 7 = bX5_marked_7 := rfl
theorem qX5_marked : M_mc MX5_marked = 0 ∧ M_ms MX5_marked = 0 := ⟨rfl, rfl⟩
theorem lX5_mark_0 : M_bl MX5_mark 0 = bX5_mark_0 := rfl
theorem lX5_mark_1 : M_bl MX5_mark 1 = bX5_mark_1 := rfl
theorem lX5_mark_2 : M_bl MX5_mark 2 = bX5_mark_2 := rfl
theorem qX5_mark : M_mc MX5_mark = 0 ∧ M_ms MX5_mark = 0 := ⟨rfl, rfl⟩
theorem lX5_keep_0 : M_bl MX5_keep 0 = bX5_keep_0 := rfl
theorem lX5_keep_1 : M_bl MX5_keep 1 = bX5_keep_1 := rfl
theorem lX5_keep_2 : M_bl MX5_keep 2 = bX5_keep_2 := rfl
theorem lX5_keep_100 : M_bl MX5_keep 100 = bX5_keep_100 := rfl
theorem qX5_keep : M_mc MX5_keep = 0 ∧ M_ms MX5_keep = 0 := ⟨rfl, rfl⟩
theorem lX5_back_0 : M_bl MX5_back 0 = bX5_back_0 := rfl
theorem lX5_back_1 : M_bl MX5_back 1 = bX5_back_1 := rfl
theorem lX5_back_2 : M_bl MX5_back 2 = bX5_back_2 := rfl
theorem lX5_back_3 : M_bl MX5_back 3 = bX5_back_3 := rfl
theorem lX5_back_100 : M_bl MX5_back 100 = bX5_back_100 := rfl
theorem qX5_back : M_mc MX5_back = 0 ∧ M_ms MX5_back = 0 := ⟨rfl, rfl⟩
theorem lX5_count_0 : M_bl MX5_count 0 = bX5_count_0 := rfl
theorem lX5_count_1 : M_bl MX5_count 1 = bX5_count_1 := rfl
theorem lX5_count_2 : M_bl MX5_count 2 = bX5_count_2 := rfl
theorem lX5_count_3 : M_bl MX5_count 3 = bX5_count_3 := rfl
theorem lX5_count_4 : M_bl MX5_count 4 = bX5_count_4 := rfl
theorem lX5_count_5 : M_bl MX5_count 5 = bX5_count_5 := rfl
theorem lX5_count_6 : M_bl MX5_count 6 = bX5_count_6 := rfl
theorem lX5_count_7 : M_bl MX5_count 7 = bX5_count_7 := rfl
theorem lX5_count_8 : M_bl MX5_count 8 = bX5_count_8 := rfl
theorem qX5_count : M_mc MX5_count = 0 ∧ M_ms MX5_count = 0 := ⟨rfl, rfl⟩
theorem lX5_trace_0 : M_bl MX5_trace 0 = bX5_trace_0 := rfl
theorem qX5_trace : M_mc MX5_trace = 0 ∧ M_ms MX5_trace = 0 := ⟨rfl, rfl⟩
theorem lJ6_bitCount_0f7a4_0 : M_bl MJ6_bitCount_0f7a4 0 = bJ6_bitCount_0f7a4_0 := rfl
theorem qJ6_bitCount_0f7a4 : M_mc MJ6_bitCount_0f7a4 = 0 ∧ M_ms MJ6_bitCount_0f7a4 = 0 := ⟨rfl, rfl⟩
theorem lL_law_0 : M_bl ML_law 0 = bL_law_0 := rfl
theorem lL_law_1 : M_bl ML_law 1 = bL_law_1 := rfl
theorem lL_law_2 : M_bl ML_law 2 = bL_law_2 := rfl
theorem lL_law_3 : M_bl ML_law 3 = bL_law_3 := rfl
theorem lL_law_4 : M_bl ML_law 4 = bL_law_4 := rfl
theorem lL_law_5 : M_bl ML_law 5 = bL_law_5 := rfl
theorem lL_law_6 : M_bl ML_law 6 = bL_law_6 := rfl
theorem lL_law_7 : M_bl ML_law 7 = bL_law_7 := rfl
theorem lL_law_8 : M_bl ML_law 8 = bL_law_8 := rfl
theorem lL_law_9 : M_bl ML_law 9 = bL_law_9 := rfl
theorem lL_law_10 : M_bl ML_law 10 = bL_law_10 := rfl
theorem lL_law_11 : M_bl ML_law 11 = bL_law_11 := rfl
theorem lL_law_12 : M_bl ML_law 12 = bL_law_12 := rfl
theorem lL_law_13 : M_bl ML_law 13 = bL_law_13 := rfl
theorem lL_law_14 : M_bl ML_law 14 = bL_law_14 := rfl
theorem lL_law_15 : M_bl ML_law 15 = bL_law_15 := rfl
theorem lL_law_16 : M_bl ML_law 16 = bL_law_16 := rfl
theorem lL_law_17 : M_bl ML_law 17 = bL_law_17 := rfl
theorem lL_law_18 : M_bl ML_law 18 = bL_law_18 := rfl
theorem lL_law_19 : M_bl ML_law 19 = bL_law_19 := rfl
theorem lL_law_20 : M_bl ML_law 20 = bL_law_20 := rfl
theorem lL_law_21 : M_bl ML_law 21 = bL_law_21 := rfl
theorem lL_law_22 : M_bl ML_law 22 = bL_law_22 := rfl
theorem lL_law_23 : M_bl ML_law 23 = bL_law_23 := rfl
theorem lL_law_24 : M_bl ML_law 24 = bL_law_24 := rfl
theorem lL_law_25 : M_bl ML_law 25 = bL_law_25 := rfl
theorem lL_law_26 : M_bl ML_law 26 = bL_law_26 := rfl
theorem lL_law_27 : M_bl ML_law 27 = bL_law_27 := rfl
theorem lL_law_28 : M_bl ML_law 28 = bL_law_28 := rfl
theorem lL_law_29 : M_bl ML_law 29 = bL_law_29 := rfl
theorem lL_law_100 : M_bl ML_law 100 = bL_law_100 := rfl
theorem qL_law : M_mc ML_law = 58 ∧ M_ms ML_law = 1094 := ⟨rfl, rfl⟩
end
section
/-! The shapes of all cells once both objects are made (wip/whole/shape.py). -/
def SH : ms_S := [(4, 11), (2, 9), (10, 140), (10, 3), (3, 11), (10, 8), (10, 8), (10, 8), (10, 2), (10, 6), (10, 6), (10, 8), (3, 11), (10, 8), (10, 8), (10, 8), (10, 2), (10, 6), (10, 6), (10, 8), (0, 7), (1, 7), (10, 8), (10, 10), (10, 10), (10, 10), (12, 2), (1, 7), (10, 8), (10, 10), (10, 10), (10, 10), (1, 7), (10, 8), (10, 10), (10, 10), (10, 10), (11, 2), (5, 37), (10, 2), (10, 8), (10, 8), (10, 8), (10, 6), (10, 6), (10, 8), (10, 8), (10, 24), (10, 140), (10, 24), (10, 12), (10, 8), (10, 2), (10, 100), (10, 8), (10, 19), (10, 19), (10, 224)]
theorem sh_b : ms_ob SH 0 4 ∧ ms_ob SH 1 2 ∧ ms_ob SH 4 3 ∧ ms_ob SH 12 3 ∧ ms_ob SH 20 0 ∧ ms_ob SH 21 1 ∧ ms_ob SH 27 1 ∧ ms_ob SH 32 1 ∧ ms_ob SH 38 5 := ⟨rfl, rfl, rfl, rfl, rfl, rfl, rfl, rfl, rfl⟩
theorem sh_n : ms_sh SH 2 = some (10, 140) ∧ ms_sh SH 3 = some (10, 3) ∧ ms_sh SH 5 = some (10, 8) ∧ ms_sh SH 6 = some (10, 8) ∧ ms_sh SH 7 = some (10, 8) ∧ ms_sh SH 8 = some (10, 2) ∧ ms_sh SH 9 = some (10, 6) ∧ ms_sh SH 10 = some (10, 6) ∧ ms_sh SH 11 = some (10, 8) ∧ ms_sh SH 13 = some (10, 8) ∧ ms_sh SH 14 = some (10, 8) ∧ ms_sh SH 15 = some (10, 8) ∧ ms_sh SH 16 = some (10, 2) ∧ ms_sh SH 17 = some (10, 6) ∧ ms_sh SH 18 = some (10, 6) ∧ ms_sh SH 19 = some (10, 8) ∧ ms_sh SH 22 = some (10, 8) ∧ ms_sh SH 23 = some (10, 10) ∧ ms_sh SH 24 = some (10, 10) ∧ ms_sh SH 25 = some (10, 10) ∧ ms_sh SH 26 = some (12, 2) ∧ ms_sh SH 28 = some (10, 8) ∧ ms_sh SH 29 = some (10, 10) ∧ ms_sh SH 30 = some (10, 10) ∧ ms_sh SH 31 = some (10, 10) ∧ ms_sh SH 33 = some (10, 8) ∧ ms_sh SH 34 = some (10, 10) ∧ ms_sh SH 35 = some (10, 10) ∧ ms_sh SH 36 = some (10, 10) ∧ ms_sh SH 37 = some (11, 2) ∧ ms_sh SH 39 = some (10, 2) ∧ ms_sh SH 40 = some (10, 8) ∧ ms_sh SH 41 = some (10, 8) ∧ ms_sh SH 42 = some (10, 8) ∧ ms_sh SH 43 = some (10, 6) ∧ ms_sh SH 44 = some (10, 6) ∧ ms_sh SH 45 = some (10, 8) ∧ ms_sh SH 46 = some (10, 8) ∧ ms_sh SH 47 = some (10, 24) ∧ ms_sh SH 48 = some (10, 140) ∧ ms_sh SH 49 = some (10, 24) ∧ ms_sh SH 50 = some (10, 12) ∧ ms_sh SH 51 = some (10, 8) ∧ ms_sh SH 52 = some (10, 2) ∧ ms_sh SH 53 = some (10, 100) ∧ ms_sh SH 54 = some (10, 8) ∧ ms_sh SH 55 = some (10, 19) ∧ ms_sh SH 56 = some (10, 19) ∧ ms_sh SH 57 = some (10, 224) := ⟨rfl, rfl, rfl, rfl, rfl, rfl, rfl, rfl, rfl, rfl, rfl, rfl, rfl, rfl, rfl, rfl, rfl, rfl, rfl, rfl, rfl, rfl, rfl, rfl, rfl, rfl, rfl, rfl, rfl, rfl, rfl, rfl, rfl, rfl, rfl, rfl, rfl, rfl, rfl, rfl, rfl, rfl, rfl, rfl, rfl, rfl, rfl, rfl, rfl⟩
theorem ms_ar_of {S : ms_S} {z : Int} {kd n : Nat} {N : Int} (h : ms_sh S z = some (kd, n)) (hn : (n : Int) = N) (i : Int) (k : Prop) : ms_ar S z kd i k = (0 ≤ i ∧ i < N ∧ k) := by
  subst hn
  unfold ms_ar
  rw [h]
  apply propext
  constructor
  · rintro ⟨n, h1, h2⟩
    cases h1
    exact h2
  · exact fun q => ⟨_, rfl, q⟩
theorem ar_2 (i : Int) (k : Prop) : ms_ar SH 2 10 i k = (0 ≤ i ∧ i < 140 ∧ k) := ms_ar_of (n := 140) rfl rfl i k
theorem ar_3 (i : Int) (k : Prop) : ms_ar SH 3 10 i k = (0 ≤ i ∧ i < 3 ∧ k) := ms_ar_of (n := 3) rfl rfl i k
theorem ar_5 (i : Int) (k : Prop) : ms_ar SH 5 10 i k = (0 ≤ i ∧ i < 8 ∧ k) := ms_ar_of (n := 8) rfl rfl i k
theorem ar_6 (i : Int) (k : Prop) : ms_ar SH 6 10 i k = (0 ≤ i ∧ i < 8 ∧ k) := ms_ar_of (n := 8) rfl rfl i k
theorem ar_7 (i : Int) (k : Prop) : ms_ar SH 7 10 i k = (0 ≤ i ∧ i < 8 ∧ k) := ms_ar_of (n := 8) rfl rfl i k
theorem ar_8 (i : Int) (k : Prop) : ms_ar SH 8 10 i k = (0 ≤ i ∧ i < 2 ∧ k) := ms_ar_of (n := 2) rfl rfl i k
theorem ar_9 (i : Int) (k : Prop) : ms_ar SH 9 10 i k = (0 ≤ i ∧ i < 6 ∧ k) := ms_ar_of (n := 6) rfl rfl i k
theorem ar_10 (i : Int) (k : Prop) : ms_ar SH 10 10 i k = (0 ≤ i ∧ i < 6 ∧ k) := ms_ar_of (n := 6) rfl rfl i k
theorem ar_11 (i : Int) (k : Prop) : ms_ar SH 11 10 i k = (0 ≤ i ∧ i < 8 ∧ k) := ms_ar_of (n := 8) rfl rfl i k
theorem ar_13 (i : Int) (k : Prop) : ms_ar SH 13 10 i k = (0 ≤ i ∧ i < 8 ∧ k) := ms_ar_of (n := 8) rfl rfl i k
theorem ar_14 (i : Int) (k : Prop) : ms_ar SH 14 10 i k = (0 ≤ i ∧ i < 8 ∧ k) := ms_ar_of (n := 8) rfl rfl i k
theorem ar_15 (i : Int) (k : Prop) : ms_ar SH 15 10 i k = (0 ≤ i ∧ i < 8 ∧ k) := ms_ar_of (n := 8) rfl rfl i k
theorem ar_16 (i : Int) (k : Prop) : ms_ar SH 16 10 i k = (0 ≤ i ∧ i < 2 ∧ k) := ms_ar_of (n := 2) rfl rfl i k
theorem ar_17 (i : Int) (k : Prop) : ms_ar SH 17 10 i k = (0 ≤ i ∧ i < 6 ∧ k) := ms_ar_of (n := 6) rfl rfl i k
theorem ar_18 (i : Int) (k : Prop) : ms_ar SH 18 10 i k = (0 ≤ i ∧ i < 6 ∧ k) := ms_ar_of (n := 6) rfl rfl i k
theorem ar_19 (i : Int) (k : Prop) : ms_ar SH 19 10 i k = (0 ≤ i ∧ i < 8 ∧ k) := ms_ar_of (n := 8) rfl rfl i k
theorem ar_22 (i : Int) (k : Prop) : ms_ar SH 22 10 i k = (0 ≤ i ∧ i < 8 ∧ k) := ms_ar_of (n := 8) rfl rfl i k
theorem ar_23 (i : Int) (k : Prop) : ms_ar SH 23 10 i k = (0 ≤ i ∧ i < 10 ∧ k) := ms_ar_of (n := 10) rfl rfl i k
theorem ar_24 (i : Int) (k : Prop) : ms_ar SH 24 10 i k = (0 ≤ i ∧ i < 10 ∧ k) := ms_ar_of (n := 10) rfl rfl i k
theorem ar_25 (i : Int) (k : Prop) : ms_ar SH 25 10 i k = (0 ≤ i ∧ i < 10 ∧ k) := ms_ar_of (n := 10) rfl rfl i k
theorem ar_26 (i : Int) (k : Prop) : ms_ar SH 26 12 i k = (0 ≤ i ∧ i < 2 ∧ k) := ms_ar_of (n := 2) rfl rfl i k
theorem ar_28 (i : Int) (k : Prop) : ms_ar SH 28 10 i k = (0 ≤ i ∧ i < 8 ∧ k) := ms_ar_of (n := 8) rfl rfl i k
theorem ar_29 (i : Int) (k : Prop) : ms_ar SH 29 10 i k = (0 ≤ i ∧ i < 10 ∧ k) := ms_ar_of (n := 10) rfl rfl i k
theorem ar_30 (i : Int) (k : Prop) : ms_ar SH 30 10 i k = (0 ≤ i ∧ i < 10 ∧ k) := ms_ar_of (n := 10) rfl rfl i k
theorem ar_31 (i : Int) (k : Prop) : ms_ar SH 31 10 i k = (0 ≤ i ∧ i < 10 ∧ k) := ms_ar_of (n := 10) rfl rfl i k
theorem ar_33 (i : Int) (k : Prop) : ms_ar SH 33 10 i k = (0 ≤ i ∧ i < 8 ∧ k) := ms_ar_of (n := 8) rfl rfl i k
theorem ar_34 (i : Int) (k : Prop) : ms_ar SH 34 10 i k = (0 ≤ i ∧ i < 10 ∧ k) := ms_ar_of (n := 10) rfl rfl i k
theorem ar_35 (i : Int) (k : Prop) : ms_ar SH 35 10 i k = (0 ≤ i ∧ i < 10 ∧ k) := ms_ar_of (n := 10) rfl rfl i k
theorem ar_36 (i : Int) (k : Prop) : ms_ar SH 36 10 i k = (0 ≤ i ∧ i < 10 ∧ k) := ms_ar_of (n := 10) rfl rfl i k
theorem ar_37 (i : Int) (k : Prop) : ms_ar SH 37 11 i k = (0 ≤ i ∧ i < 2 ∧ k) := ms_ar_of (n := 2) rfl rfl i k
theorem ar_39 (i : Int) (k : Prop) : ms_ar SH 39 10 i k = (0 ≤ i ∧ i < 2 ∧ k) := ms_ar_of (n := 2) rfl rfl i k
theorem ar_40 (i : Int) (k : Prop) : ms_ar SH 40 10 i k = (0 ≤ i ∧ i < 8 ∧ k) := ms_ar_of (n := 8) rfl rfl i k
theorem ar_41 (i : Int) (k : Prop) : ms_ar SH 41 10 i k = (0 ≤ i ∧ i < 8 ∧ k) := ms_ar_of (n := 8) rfl rfl i k
theorem ar_42 (i : Int) (k : Prop) : ms_ar SH 42 10 i k = (0 ≤ i ∧ i < 8 ∧ k) := ms_ar_of (n := 8) rfl rfl i k
theorem ar_43 (i : Int) (k : Prop) : ms_ar SH 43 10 i k = (0 ≤ i ∧ i < 6 ∧ k) := ms_ar_of (n := 6) rfl rfl i k
theorem ar_44 (i : Int) (k : Prop) : ms_ar SH 44 10 i k = (0 ≤ i ∧ i < 6 ∧ k) := ms_ar_of (n := 6) rfl rfl i k
theorem ar_45 (i : Int) (k : Prop) : ms_ar SH 45 10 i k = (0 ≤ i ∧ i < 8 ∧ k) := ms_ar_of (n := 8) rfl rfl i k
theorem ar_46 (i : Int) (k : Prop) : ms_ar SH 46 10 i k = (0 ≤ i ∧ i < 8 ∧ k) := ms_ar_of (n := 8) rfl rfl i k
theorem ar_47 (i : Int) (k : Prop) : ms_ar SH 47 10 i k = (0 ≤ i ∧ i < 24 ∧ k) := ms_ar_of (n := 24) rfl rfl i k
theorem ar_48 (i : Int) (k : Prop) : ms_ar SH 48 10 i k = (0 ≤ i ∧ i < 140 ∧ k) := ms_ar_of (n := 140) rfl rfl i k
theorem ar_49 (i : Int) (k : Prop) : ms_ar SH 49 10 i k = (0 ≤ i ∧ i < 24 ∧ k) := ms_ar_of (n := 24) rfl rfl i k
theorem ar_50 (i : Int) (k : Prop) : ms_ar SH 50 10 i k = (0 ≤ i ∧ i < 12 ∧ k) := ms_ar_of (n := 12) rfl rfl i k
theorem ar_51 (i : Int) (k : Prop) : ms_ar SH 51 10 i k = (0 ≤ i ∧ i < 8 ∧ k) := ms_ar_of (n := 8) rfl rfl i k
theorem ar_52 (i : Int) (k : Prop) : ms_ar SH 52 10 i k = (0 ≤ i ∧ i < 2 ∧ k) := ms_ar_of (n := 2) rfl rfl i k
theorem ar_53 (i : Int) (k : Prop) : ms_ar SH 53 10 i k = (0 ≤ i ∧ i < 100 ∧ k) := ms_ar_of (n := 100) rfl rfl i k
theorem ar_54 (i : Int) (k : Prop) : ms_ar SH 54 10 i k = (0 ≤ i ∧ i < 8 ∧ k) := ms_ar_of (n := 8) rfl rfl i k
theorem ar_55 (i : Int) (k : Prop) : ms_ar SH 55 10 i k = (0 ≤ i ∧ i < 19 ∧ k) := ms_ar_of (n := 19) rfl rfl i k
theorem ar_56 (i : Int) (k : Prop) : ms_ar SH 56 10 i k = (0 ≤ i ∧ i < 19 ∧ k) := ms_ar_of (n := 19) rfl rfl i k
theorem ar_57 (i : Int) (k : Prop) : ms_ar SH 57 10 i k = (0 ≤ i ∧ i < 224 ∧ k) := ms_ar_of (n := 224) rfl rfl i k
/-- where the model's rows are -/
def RM (h : ms_H) : Prop := h 38 4 = 39 ∧ h 38 5 = 40 ∧ h 38 6 = 41 ∧ h 38 7 = 42 ∧ h 38 8 = 43 ∧ h 38 9 = 44 ∧ h 38 10 = 45 ∧ h 38 13 = 46 ∧ h 38 15 = 47 ∧ h 38 17 = 48 ∧ h 38 26 = 49 ∧ h 38 27 = 50 ∧ h 38 28 = 51 ∧ h 38 29 = 52 ∧ h 38 31 = 53 ∧ h 38 33 = 54 ∧ h 38 34 = 55 ∧ h 38 35 = 56 ∧ h 38 36 = 57
end
section
/-! Pure words: what the methods answer. -/
def cl (x : Int) : Int := if x < 0 then 0 else if 8 < x then 8 else x
def sW (nd : Int) (w : Int → Int) (day : Int) : Int := if nd = 0 then 0 else w (day % nd)
theorem cl_b (x : Int) : 0 ≤ cl x ∧ cl x ≤ 8 := by
  unfold cl
  repeat' split
  all_goals omega
theorem rg_of {z : Int} (h1 : -2147483648 ≤ z) (h2 : z ≤ 2147483647) : rg z := ⟨h1, h2⟩
theorem tmod_p {a b : Int} (ha : 0 ≤ a) : a.tmod b = a % b := Int.tmod_eq_emod_of_nonneg ha
theorem tdiv_p {a b : Int} (ha : 0 ≤ a) : a.tdiv b = a / b := Int.tdiv_eq_ediv_of_nonneg ha
theorem emod_b {a b : Int} (hb : 0 < b) : 0 ≤ a % b ∧ a % b < b := ⟨Int.emod_nonneg a (by omega), Int.emod_lt_of_pos a hb⟩
/-- a sum over 0 .. n - 1 -/
def sm (g : Int → Int) : Nat → Int
  | 0 => 0
  | n + 1 => sm g n + g n
theorem sm_b {g : Int → Int} {lo hi : Int} : ∀ n : Nat, (∀ i : Int, 0 ≤ i → i < n → lo ≤ g i ∧ g i ≤ hi) → n * lo ≤ sm g n ∧ sm g n ≤ n * hi
  | 0, _ => by simp [sm]
  | n + 1, h => by
    have h1 := sm_b n (fun i h0 h1 => h i h0 (by omega))
    have h2 := h n (by omega) (by omega)
    rw [sm, Int.natCast_succ, Int.add_mul, Int.add_mul]
    omega
theorem sm_c {g g' : Int → Int} : ∀ n : Nat, (∀ i : Int, 0 ≤ i → i < n → g i = g' i) → sm g n = sm g' n
  | 0, _ => rfl
  | n + 1, h => by
    rw [sm, sm, sm_c n (fun i h0 h1 => h i h0 (by omega)), h n (by omega) (by omega)]
/-- what is known of the model's cells -/
def MB (h : ms_H) : Prop := (0 ≤ h 38 0 ∧ h 38 0 ≤ 8) ∧ (0 ≤ h 38 1 ∧ h 38 1 ≤ 6) ∧ (0 ≤ h 38 2 ∧ h 38 2 ≤ 8) ∧ (1 ≤ h 38 3 ∧ h 38 3 ≤ 6) ∧ (0 ≤ h 38 11 ∧ h 38 11 ≤ 9999) ∧ (-9 ≤ h 38 12 ∧ h 38 12 ≤ 9)
def MA (h : ms_H) : Prop := (∀ i, 0 ≤ i → i < 2 → 0 ≤ h 39 i ∧ h 39 i ≤ 9) ∧ (∀ i, 0 ≤ i → i < h 38 0 → (0 ≤ h 40 i ∧ h 40 i ≤ 9) ∧ (0 ≤ h 41 i ∧ h 41 i ≤ 9) ∧ (0 ≤ h 42 i ∧ h 42 i ≤ 9)) ∧ (∀ i, 0 ≤ i → i < h 38 1 → (1 ≤ h 43 i ∧ h 43 i ≤ 9) ∧ (0 ≤ h 44 i ∧ h 44 i ≤ 1)) ∧ (∀ i, 0 ≤ i → i < h 38 2 → 0 ≤ h 45 i ∧ h 45 i ≤ 30)
def MV (h : ms_H) : Prop := RM h ∧ MB h ∧ MA h
theorem MV_warm {h : ms_H} (hv : MV h) {n : Int} : 0 ≤ sW (h 38 2) (h 45) n ∧ sW (h 38 2) (h 45) n ≤ 30 := by
  obtain ⟨-, ⟨-, -, h1, -⟩, -, -, -, h2⟩ := hv
  unfold sW
  split
  · omega
  · have := emod_b (a := n) (b := h 38 2) (by omega)
    exact h2 _ this.1 this.2
/-- how warm it is now -/
def mT (h : ms_H) : Int := sW (h 38 2) (h 45) (h 38 11) + h 38 12
theorem MV_T {h : ms_H} (hv : MV h) : -9 ≤ mT h ∧ mT h ≤ 39 := by
  have h1 := MV_warm hv (n := h 38 11)
  obtain ⟨-, ⟨-, -, -, -, -, h2⟩, -⟩ := hv
  unfold mT
  omega
theorem hs_v (h : ms_H) (z k v a b : Int) : hs h z k v a b = if a = z ∧ b = k then v else h a b := rfl
theorem hs_hs (h : ms_H) (z k v w : Int) : hs (hs h z k v) z k w = hs h z k w := by
  funext a b
  unfold hs
  split <;> rfl
theorem bt {P : Prop} [Decidable P] {r : Int} (hr : r = if P then 1 else 0) (h : ¬ r = 0) : P := by
  by_cases z : P
  · exact z
  · rw [if_neg z] at hr; exact absurd hr h
theorem bf {P : Prop} [Decidable P] {r : Int} (hr : r = if P then 1 else 0) (h : r = 0) : ¬ P := by
  intro z
  rw [if_pos z] at hr; omega
theorem b01 {P : Prop} [Decidable P] {r : Int} (hr : r = if P then 1 else 0) : r = 0 ∨ r = 1 := by
  rw [hr]; split
  · exact Or.inr rfl
  · exact Or.inl rfl
/-- the greatest of 0 and g 0 .. g (n - 1) -/
def mxm (g : Int → Int) : Nat → Int
  | 0 => 0
  | n + 1 => if mxm g n < g n then g n else mxm g n
theorem mxm_b {g : Int → Int} {hi : Int} (h0 : 0 ≤ hi) : ∀ n : Nat, (∀ i : Int, 0 ≤ i → i < n → g i ≤ hi) → 0 ≤ mxm g n ∧ mxm g n ≤ hi
  | 0, _ => by simp [mxm]; omega
  | n + 1, h => by
    have h1 := mxm_b h0 n (fun i h0 h1 => h i h0 (by omega))
    have h2 := h n (by omega) (by omega)
    unfold mxm
    split <;> omega
theorem mxm_c {g g' : Int → Int} : ∀ n : Nat, (∀ i : Int, 0 ≤ i → i < n → g i = g' i) → mxm g n = mxm g' n
  | 0, _ => rfl
  | n + 1, h => by
    rw [mxm, mxm, mxm_c n (fun i h0 h1 => h i h0 (by omega)), h n (by omega) (by omega)]
/-- the first of k .. k + n - 1 with g at most 0; -9: none -/
def fst0 (g : Int → Int) : Nat → Int → Int
  | 0, _ => -9
  | n + 1, k => if g k ≤ 0 then k else fst0 g n (k + 1)
end
section
/-! Branches whose side is known. -/
section
variable (J K : ms_K) (L r : List ms_V) (G : ms_G) (h : ms_H)
theorem if_eq_t (x : Int) (hc : x = 0) : o_if .eq J K L (mI x :: r) G h = J L r G h := propext ⟨fun q => q.1 hc, fun q => ⟨fun _ => q, fun w => absurd hc (by omega)⟩⟩
theorem if_eq_f (x : Int) (hc : ¬ x = 0) : o_if .eq J K L (mI x :: r) G h = K L r G h := propext ⟨fun q => q.2 hc, fun q => ⟨fun w => absurd hc (by omega), fun _ => q⟩⟩
theorem ic_eq_t (x y : Int) (hc : x = y) : o_icmp .eq J K L (mI y :: mI x :: r) G h = J L r G h := propext ⟨fun q => q.1 hc, fun q => ⟨fun _ => q, fun w => absurd hc (by omega)⟩⟩
theorem ic_eq_f (x y : Int) (hc : ¬ x = y) : o_icmp .eq J K L (mI y :: mI x :: r) G h = K L r G h := propext ⟨fun q => q.2 hc, fun q => ⟨fun w => absurd hc (by omega), fun _ => q⟩⟩
theorem if_ne_t (x : Int) (hc : ¬ x = 0) : o_if .ne J K L (mI x :: r) G h = J L r G h := propext ⟨fun q => q.1 hc, fun q => ⟨fun _ => q, fun w => absurd hc (by omega)⟩⟩
theorem if_ne_f (x : Int) (hc : x = 0) : o_if .ne J K L (mI x :: r) G h = K L r G h := propext ⟨fun q => q.2 hc, fun q => ⟨fun w => absurd hc (by omega), fun _ => q⟩⟩
theorem ic_ne_t (x y : Int) (hc : ¬ x = y) : o_icmp .ne J K L (mI y :: mI x :: r) G h = J L r G h := propext ⟨fun q => q.1 hc, fun q => ⟨fun _ => q, fun w => absurd hc (by omega)⟩⟩
theorem ic_ne_f (x y : Int) (hc : x = y) : o_icmp .ne J K L (mI y :: mI x :: r) G h = K L r G h := propext ⟨fun q => q.2 hc, fun q => ⟨fun w => absurd hc (by omega), fun _ => q⟩⟩
theorem if_lt_t (x : Int) (hc : x < 0) : o_if .lt J K L (mI x :: r) G h = J L r G h := propext ⟨fun q => q.1 hc, fun q => ⟨fun _ => q, fun w => absurd hc (by omega)⟩⟩
theorem if_lt_f (x : Int) (hc : 0 ≤ x) : o_if .lt J K L (mI x :: r) G h = K L r G h := propext ⟨fun q => q.2 hc, fun q => ⟨fun w => absurd hc (by omega), fun _ => q⟩⟩
theorem ic_lt_t (x y : Int) (hc : x < y) : o_icmp .lt J K L (mI y :: mI x :: r) G h = J L r G h := propext ⟨fun q => q.1 hc, fun q => ⟨fun _ => q, fun w => absurd hc (by omega)⟩⟩
theorem ic_lt_f (x y : Int) (hc : y ≤ x) : o_icmp .lt J K L (mI y :: mI x :: r) G h = K L r G h := propext ⟨fun q => q.2 hc, fun q => ⟨fun w => absurd hc (by omega), fun _ => q⟩⟩
theorem if_ge_t (x : Int) (hc : 0 ≤ x) : o_if .ge J K L (mI x :: r) G h = J L r G h := propext ⟨fun q => q.1 hc, fun q => ⟨fun _ => q, fun w => absurd hc (by omega)⟩⟩
theorem if_ge_f (x : Int) (hc : x < 0) : o_if .ge J K L (mI x :: r) G h = K L r G h := propext ⟨fun q => q.2 hc, fun q => ⟨fun w => absurd hc (by omega), fun _ => q⟩⟩
theorem ic_ge_t (x y : Int) (hc : y ≤ x) : o_icmp .ge J K L (mI y :: mI x :: r) G h = J L r G h := propext ⟨fun q => q.1 hc, fun q => ⟨fun _ => q, fun w => absurd hc (by omega)⟩⟩
theorem ic_ge_f (x y : Int) (hc : x < y) : o_icmp .ge J K L (mI y :: mI x :: r) G h = K L r G h := propext ⟨fun q => q.2 hc, fun q => ⟨fun w => absurd hc (by omega), fun _ => q⟩⟩
theorem if_gt_t (x : Int) (hc : 0 < x) : o_if .gt J K L (mI x :: r) G h = J L r G h := propext ⟨fun q => q.1 hc, fun q => ⟨fun _ => q, fun w => absurd hc (by omega)⟩⟩
theorem if_gt_f (x : Int) (hc : x ≤ 0) : o_if .gt J K L (mI x :: r) G h = K L r G h := propext ⟨fun q => q.2 hc, fun q => ⟨fun w => absurd hc (by omega), fun _ => q⟩⟩
theorem ic_gt_t (x y : Int) (hc : y < x) : o_icmp .gt J K L (mI y :: mI x :: r) G h = J L r G h := propext ⟨fun q => q.1 hc, fun q => ⟨fun _ => q, fun w => absurd hc (by omega)⟩⟩
theorem ic_gt_f (x y : Int) (hc : x ≤ y) : o_icmp .gt J K L (mI y :: mI x :: r) G h = K L r G h := propext ⟨fun q => q.2 hc, fun q => ⟨fun w => absurd hc (by omega), fun _ => q⟩⟩
theorem if_le_t (x : Int) (hc : x ≤ 0) : o_if .le J K L (mI x :: r) G h = J L r G h := propext ⟨fun q => q.1 hc, fun q => ⟨fun _ => q, fun w => absurd hc (by omega)⟩⟩
theorem if_le_f (x : Int) (hc : 0 < x) : o_if .le J K L (mI x :: r) G h = K L r G h := propext ⟨fun q => q.2 hc, fun q => ⟨fun w => absurd hc (by omega), fun _ => q⟩⟩
theorem ic_le_t (x y : Int) (hc : x ≤ y) : o_icmp .le J K L (mI y :: mI x :: r) G h = J L r G h := propext ⟨fun q => q.1 hc, fun q => ⟨fun _ => q, fun w => absurd hc (by omega)⟩⟩
theorem ic_le_f (x y : Int) (hc : y < x) : o_icmp .le J K L (mI y :: mI x :: r) G h = K L r G h := propext ⟨fun q => q.2 hc, fun q => ⟨fun w => absurd hc (by omega), fun _ => q⟩⟩
end
end
section
/-! The model's small methods. -/
theorem m_in {d : Nat} {v lo hi : Int} {h : ms_H} {Q : ms_Q} (q : ∀ r, r = (if lo ≤ v ∧ v ≤ hi then 1 else 0) → Q (some (mI r)) SH h) : ms_Ok ms_P (d + 1) 91 [mI v, mI lo, mI hi] SH h Q := by
  refine ok_in (k := 9) MX5_in rfl rfl ?_
  show sq (ms_Ok ms_P d) ms_X1 MX5_in Q 9 (M_bl MX5_in 0) [mI v, mI lo, mI hi] [] (SH, 0, 0) h
  simp only [sq_c, jp_s, jp_c, rc_0, rc_s, ms_ex, o_iload, o_aload, o_istore, o_astore, o_iinc, o_bin, o_div, o_rem, o_neg, o_and, o_shl, o_shr, o_dup, o_pop, o_dup2, o_if, o_icmp, o_switch, o_sw, o_get, o_put, o_iald, o_iast, o_zald, o_zast, o_aald, o_aast, o_len, ob_s, ob_n, o_call, o_max, o_min, o_copy, o_obj, o_lpush, o_ladd, o_lcmp, o_iret, o_lret, o_vret, i1_c, l1_c, r1_c, st_g0, st_g1, st_g2, st_g3, st_g4, st_g5, st_g6, st_g7, st_g8, st_g9, st_s0, st_s1, st_s2, st_s3, st_s4, st_s5, st_s6, st_s7, st_s8, st_s9, List.length_cons, List.length_nil, List.take_succ_cons, List.take_zero, List.drop_succ_cons, List.drop_zero, List.reverse_cons, List.reverse_nil, List.nil_append, List.cons_append, List.all_cons, List.all_nil, ms_nl, Bool.and_true, Nat.reduceLeDiff, Nat.reduceAdd, Nat.reduceLT, Nat.reduceEqDiff, if_true, if_false, true_and, and_true, ms_rt, List.cons.injEq, exists_eq_left, exists_eq_right, exists_and_left, exists_and_right, ms_one, ite_true, ite_false, reduceIte, imp_self, Nat.zero_add, Nat.add_zero, zero_le_any, Nat.le_refl, Int.zero_add, true_or, or_true, false_implies, Int.reduceLE, Int.reduceLT, Int.reduceNeg, Int.reduceAdd, Int.reduceSub, Int.reduceMul, Int.reduceEq, not_true, not_false_iff, and_self, implies_true, false_and, and_false, or_false, false_or, bX5_in_0, bX5_in_1, bX5_in_2, lX5_in_0, lX5_in_1, lX5_in_2, qX5_in]
  refine ⟨fun h1 => q _ ?_, fun h1 => ⟨fun h2 => q _ ?_, fun h2 => q _ ?_⟩⟩
  · rw [if_neg (by omega)]
  · rw [if_neg (by omega)]
  · rw [if_pos ⟨h1, h2⟩]
theorem m_isColumn {d : Nat} {v : Int} {h : ms_H} {Q : ms_Q} (hv : MV h) (q : ∀ r, r = (if 0 ≤ v ∧ v < h 38 0 then 1 else 0) → Q (some (mI r)) SH h) : ms_Ok ms_P (d + 2) 94 [mR 38, mI v] SH h Q := by
  refine ok_in (k := 9) MX5_isColumn rfl rfl ?_
  show sq (ms_Ok ms_P (d + 1)) ms_X1 MX5_isColumn Q 9 (M_bl MX5_isColumn 0) [mR 38, mI v] [] (SH, 0, 0) h
  have hb := hv.2.1
  unfold MB at hb
  simp only [sq_c, jp_s, jp_c, rc_0, rc_s, ms_ex, o_iload, o_aload, o_istore, o_astore, o_iinc, o_bin, o_div, o_rem, o_neg, o_and, o_shl, o_shr, o_dup, o_pop, o_dup2, o_if, o_icmp, o_switch, o_sw, o_get, o_put, o_iald, o_iast, o_zald, o_zast, o_aald, o_aast, o_len, ob_s, ob_n, o_call, o_max, o_min, o_copy, o_obj, o_lpush, o_ladd, o_lcmp, o_iret, o_lret, o_vret, i1_c, l1_c, r1_c, st_g0, st_g1, st_g2, st_g3, st_g4, st_g5, st_g6, st_g7, st_g8, st_g9, st_s0, st_s1, st_s2, st_s3, st_s4, st_s5, st_s6, st_s7, st_s8, st_s9, List.length_cons, List.length_nil, List.take_succ_cons, List.take_zero, List.drop_succ_cons, List.drop_zero, List.reverse_cons, List.reverse_nil, List.nil_append, List.cons_append, List.all_cons, List.all_nil, ms_nl, Bool.and_true, Nat.reduceLeDiff, Nat.reduceAdd, Nat.reduceLT, Nat.reduceEqDiff, if_true, if_false, true_and, and_true, ms_rt, List.cons.injEq, exists_eq_left, exists_eq_right, exists_and_left, exists_and_right, ms_one, ite_true, ite_false, reduceIte, imp_self, Nat.zero_add, Nat.add_zero, zero_le_any, Nat.le_refl, Int.zero_add, true_or, or_true, false_implies, Int.reduceLE, Int.reduceLT, Int.reduceNeg, Int.reduceAdd, Int.reduceSub, Int.reduceMul, Int.reduceEq, not_true, not_false_iff, and_self, implies_true, false_and, and_false, or_false, false_or, bX5_isColumn_0, lX5_isColumn_0, qX5_isColumn, sh_b]
  refine ⟨rg_of (by omega) (by omega), m_in (fun r hr => ?_)⟩
  simp only [sq_c, jp_s, jp_c, rc_0, rc_s, ms_ex, o_iload, o_aload, o_istore, o_astore, o_iinc, o_bin, o_div, o_rem, o_neg, o_and, o_shl, o_shr, o_dup, o_pop, o_dup2, o_if, o_icmp, o_switch, o_sw, o_get, o_put, o_iald, o_iast, o_zald, o_zast, o_aald, o_aast, o_len, ob_s, ob_n, o_call, o_max, o_min, o_copy, o_obj, o_lpush, o_ladd, o_lcmp, o_iret, o_lret, o_vret, i1_c, l1_c, r1_c, st_g0, st_g1, st_g2, st_g3, st_g4, st_g5, st_g6, st_g7, st_g8, st_g9, st_s0, st_s1, st_s2, st_s3, st_s4, st_s5, st_s6, st_s7, st_s8, st_s9, List.length_cons, List.length_nil, List.take_succ_cons, List.take_zero, List.drop_succ_cons, List.drop_zero, List.reverse_cons, List.reverse_nil, List.nil_append, List.cons_append, List.all_cons, List.all_nil, ms_nl, Bool.and_true, Nat.reduceLeDiff, Nat.reduceAdd, Nat.reduceLT, Nat.reduceEqDiff, if_true, if_false, true_and, and_true, ms_rt, List.cons.injEq, exists_eq_left, exists_eq_right, exists_and_left, exists_and_right, ms_one, ite_true, ite_false, reduceIte, imp_self, Nat.zero_add, Nat.add_zero, zero_le_any, Nat.le_refl, Int.zero_add, true_or, or_true, false_implies, Int.reduceLE, Int.reduceLT, Int.reduceNeg, Int.reduceAdd, Int.reduceSub, Int.reduceMul, Int.reduceEq, not_true, not_false_iff, and_self, implies_true, false_and, and_false, or_false, false_or, bX5_isColumn_0, lX5_isColumn_0, qX5_isColumn]
  refine ⟨?_, q r (hr.trans ?_)⟩
  · rw [hr]; split <;> simp
  · congr 1
    apply propext
    omega
theorem m_isField {d : Nat} {v : Int} {h : ms_H} {Q : ms_Q} (q : ∀ r, r = (if 0 ≤ v ∧ v ≤ 7 then 1 else 0) → Q (some (mI r)) SH h) : ms_Ok ms_P (d + 2) 95 [mI v] SH h Q := by
  refine ok_in (k := 9) MX5_isField rfl rfl ?_
  show sq (ms_Ok ms_P (d + 1)) ms_X1 MX5_isField Q 9 (M_bl MX5_isField 0) [mI v] [] (SH, 0, 0) h
  simp only [sq_c, jp_s, jp_c, rc_0, rc_s, ms_ex, o_iload, o_aload, o_istore, o_astore, o_iinc, o_bin, o_div, o_rem, o_neg, o_and, o_shl, o_shr, o_dup, o_pop, o_dup2, o_if, o_icmp, o_switch, o_sw, o_get, o_put, o_iald, o_iast, o_zald, o_zast, o_aald, o_aast, o_len, ob_s, ob_n, o_call, o_max, o_min, o_copy, o_obj, o_lpush, o_ladd, o_lcmp, o_iret, o_lret, o_vret, i1_c, l1_c, r1_c, st_g0, st_g1, st_g2, st_g3, st_g4, st_g5, st_g6, st_g7, st_g8, st_g9, st_s0, st_s1, st_s2, st_s3, st_s4, st_s5, st_s6, st_s7, st_s8, st_s9, List.length_cons, List.length_nil, List.take_succ_cons, List.take_zero, List.drop_succ_cons, List.drop_zero, List.reverse_cons, List.reverse_nil, List.nil_append, List.cons_append, List.all_cons, List.all_nil, ms_nl, Bool.and_true, Nat.reduceLeDiff, Nat.reduceAdd, Nat.reduceLT, Nat.reduceEqDiff, if_true, if_false, true_and, and_true, ms_rt, List.cons.injEq, exists_eq_left, exists_eq_right, exists_and_left, exists_and_right, ms_one, ite_true, ite_false, reduceIte, imp_self, Nat.zero_add, Nat.add_zero, zero_le_any, Nat.le_refl, Int.zero_add, true_or, or_true, false_implies, Int.reduceLE, Int.reduceLT, Int.reduceNeg, Int.reduceAdd, Int.reduceSub, Int.reduceMul, Int.reduceEq, not_true, not_false_iff, and_self, implies_true, false_and, and_false, or_false, false_or, bX5_isField_0, lX5_isField_0, qX5_isField, sh_b]
  refine m_in (fun r hr => ?_)
  simp only [sq_c, jp_s, jp_c, rc_0, rc_s, ms_ex, o_iload, o_aload, o_istore, o_astore, o_iinc, o_bin, o_div, o_rem, o_neg, o_and, o_shl, o_shr, o_dup, o_pop, o_dup2, o_if, o_icmp, o_switch, o_sw, o_get, o_put, o_iald, o_iast, o_zald, o_zast, o_aald, o_aast, o_len, ob_s, ob_n, o_call, o_max, o_min, o_copy, o_obj, o_lpush, o_ladd, o_lcmp, o_iret, o_lret, o_vret, i1_c, l1_c, r1_c, st_g0, st_g1, st_g2, st_g3, st_g4, st_g5, st_g6, st_g7, st_g8, st_g9, st_s0, st_s1, st_s2, st_s3, st_s4, st_s5, st_s6, st_s7, st_s8, st_s9, List.length_cons, List.length_nil, List.take_succ_cons, List.take_zero, List.drop_succ_cons, List.drop_zero, List.reverse_cons, List.reverse_nil, List.nil_append, List.cons_append, List.all_cons, List.all_nil, ms_nl, Bool.and_true, Nat.reduceLeDiff, Nat.reduceAdd, Nat.reduceLT, Nat.reduceEqDiff, if_true, if_false, true_and, and_true, ms_rt, List.cons.injEq, exists_eq_left, exists_eq_right, exists_and_left, exists_and_right, ms_one, ite_true, ite_false, reduceIte, imp_self, Nat.zero_add, Nat.add_zero, zero_le_any, Nat.le_refl, Int.zero_add, true_or, or_true, false_implies, Int.reduceLE, Int.reduceLT, Int.reduceNeg, Int.reduceAdd, Int.reduceSub, Int.reduceMul, Int.reduceEq, not_true, not_false_iff, and_self, implies_true, false_and, and_false, or_false, false_or, bX5_isField_0, lX5_isField_0, qX5_isField]
  refine ⟨?_, q r hr⟩
  rw [hr]; split <;> simp
theorem m_warmAt {d : Nat} {n : Int} {h : ms_H} {Q : ms_Q} (hv : MV h) (hn : 0 ≤ n) (q : Q (some (mI (sW (h 38 2) (h 45) n))) SH h) : ms_Ok ms_P (d + 1) 110 [mR 38, mI n] SH h Q := by
  refine ok_in (k := 9) MX5_warmAt rfl rfl ?_
  show sq (ms_Ok ms_P d) ms_X1 MX5_warmAt Q 9 (M_bl MX5_warmAt 0) [mR 38, mI n] [] (SH, 0, 0) h
  have hR := hv.1
  have hb := hv.2.1.2.2.1
  unfold RM at hR
  simp only [sq_c, jp_s, jp_c, rc_0, rc_s, ms_ex, o_iload, o_aload, o_istore, o_astore, o_iinc, o_bin, o_div, o_rem, o_neg, o_and, o_shl, o_shr, o_dup, o_pop, o_dup2, o_if, o_icmp, o_switch, o_sw, o_get, o_put, o_iald, o_iast, o_zald, o_zast, o_aald, o_aast, o_len, ob_s, ob_n, o_call, o_max, o_min, o_copy, o_obj, o_lpush, o_ladd, o_lcmp, o_iret, o_lret, o_vret, i1_c, l1_c, r1_c, st_g0, st_g1, st_g2, st_g3, st_g4, st_g5, st_g6, st_g7, st_g8, st_g9, st_s0, st_s1, st_s2, st_s3, st_s4, st_s5, st_s6, st_s7, st_s8, st_s9, List.length_cons, List.length_nil, List.take_succ_cons, List.take_zero, List.drop_succ_cons, List.drop_zero, List.reverse_cons, List.reverse_nil, List.nil_append, List.cons_append, List.all_cons, List.all_nil, ms_nl, Bool.and_true, Nat.reduceLeDiff, Nat.reduceAdd, Nat.reduceLT, Nat.reduceEqDiff, if_true, if_false, true_and, and_true, ms_rt, List.cons.injEq, exists_eq_left, exists_eq_right, exists_and_left, exists_and_right, ms_one, ite_true, ite_false, reduceIte, imp_self, Nat.zero_add, Nat.add_zero, zero_le_any, Nat.le_refl, Int.zero_add, true_or, or_true, false_implies, Int.reduceLE, Int.reduceLT, Int.reduceNeg, Int.reduceAdd, Int.reduceSub, Int.reduceMul, Int.reduceEq, not_true, not_false_iff, and_self, implies_true, false_and, and_false, or_false, false_or, bX5_warmAt_0, bX5_warmAt_1, bX5_warmAt_2, lX5_warmAt_0, lX5_warmAt_1, lX5_warmAt_2, qX5_warmAt, sh_b, hR, ar_45]
  rw [tmod_p hn]
  unfold sW at q
  refine ⟨fun h1 => ?_, fun h1 => ?_⟩
  · rw [if_neg h1] at q
    have := emod_b (a := n) (b := h 38 2) (by omega)
    exact ⟨h1, by omega, by omega, q⟩
  · rw [if_pos h1] at q
    exact q
theorem m_warmthNow {d : Nat} {h : ms_H} {Q : ms_Q} (hv : MV h) (q : Q (some (mI (mT h))) SH h) : ms_Ok ms_P (d + 2) 112 [mR 38] SH h Q := by
  refine ok_in (k := 9) MX5_warmthNow rfl rfl ?_
  show sq (ms_Ok ms_P (d + 1)) ms_X1 MX5_warmthNow Q 9 (M_bl MX5_warmthNow 0) [mR 38] [] (SH, 0, 0) h
  simp only [sq_c, jp_s, jp_c, rc_0, rc_s, ms_ex, o_iload, o_aload, o_istore, o_astore, o_iinc, o_bin, o_div, o_rem, o_neg, o_and, o_shl, o_shr, o_dup, o_pop, o_dup2, o_if, o_icmp, o_switch, o_sw, o_get, o_put, o_iald, o_iast, o_zald, o_zast, o_aald, o_aast, o_len, ob_s, ob_n, o_call, o_max, o_min, o_copy, o_obj, o_lpush, o_ladd, o_lcmp, o_iret, o_lret, o_vret, i1_c, l1_c, r1_c, st_g0, st_g1, st_g2, st_g3, st_g4, st_g5, st_g6, st_g7, st_g8, st_g9, st_s0, st_s1, st_s2, st_s3, st_s4, st_s5, st_s6, st_s7, st_s8, st_s9, List.length_cons, List.length_nil, List.take_succ_cons, List.take_zero, List.drop_succ_cons, List.drop_zero, List.reverse_cons, List.reverse_nil, List.nil_append, List.cons_append, List.all_cons, List.all_nil, ms_nl, Bool.and_true, Nat.reduceLeDiff, Nat.reduceAdd, Nat.reduceLT, Nat.reduceEqDiff, if_true, if_false, true_and, and_true, ms_rt, List.cons.injEq, exists_eq_left, exists_eq_right, exists_and_left, exists_and_right, ms_one, ite_true, ite_false, reduceIte, imp_self, Nat.zero_add, Nat.add_zero, zero_le_any, Nat.le_refl, Int.zero_add, true_or, or_true, false_implies, Int.reduceLE, Int.reduceLT, Int.reduceNeg, Int.reduceAdd, Int.reduceSub, Int.reduceMul, Int.reduceEq, not_true, not_false_iff, and_self, implies_true, false_and, and_false, or_false, false_or, bX5_warmthNow_0, lX5_warmthNow_0, qX5_warmthNow, sh_b]
  refine m_warmAt hv hv.2.1.2.2.2.2.1.1 ?_
  simp only [sq_c, jp_s, jp_c, rc_0, rc_s, ms_ex, o_iload, o_aload, o_istore, o_astore, o_iinc, o_bin, o_div, o_rem, o_neg, o_and, o_shl, o_shr, o_dup, o_pop, o_dup2, o_if, o_icmp, o_switch, o_sw, o_get, o_put, o_iald, o_iast, o_zald, o_zast, o_aald, o_aast, o_len, ob_s, ob_n, o_call, o_max, o_min, o_copy, o_obj, o_lpush, o_ladd, o_lcmp, o_iret, o_lret, o_vret, i1_c, l1_c, r1_c, st_g0, st_g1, st_g2, st_g3, st_g4, st_g5, st_g6, st_g7, st_g8, st_g9, st_s0, st_s1, st_s2, st_s3, st_s4, st_s5, st_s6, st_s7, st_s8, st_s9, List.length_cons, List.length_nil, List.take_succ_cons, List.take_zero, List.drop_succ_cons, List.drop_zero, List.reverse_cons, List.reverse_nil, List.nil_append, List.cons_append, List.all_cons, List.all_nil, ms_nl, Bool.and_true, Nat.reduceLeDiff, Nat.reduceAdd, Nat.reduceLT, Nat.reduceEqDiff, if_true, if_false, true_and, and_true, ms_rt, List.cons.injEq, exists_eq_left, exists_eq_right, exists_and_left, exists_and_right, ms_one, ite_true, ite_false, reduceIte, imp_self, Nat.zero_add, Nat.add_zero, zero_le_any, Nat.le_refl, Int.zero_add, true_or, or_true, false_implies, Int.reduceLE, Int.reduceLT, Int.reduceNeg, Int.reduceAdd, Int.reduceSub, Int.reduceMul, Int.reduceEq, not_true, not_false_iff, and_self, implies_true, false_and, and_false, or_false, false_or, bX5_warmthNow_0, lX5_warmthNow_0, qX5_warmthNow, sh_b]
  have := MV_T hv
  unfold mT at this q
  exact ⟨rg_of (by omega) (by omega), q⟩
theorem m_mildBy {d : Nat} {w c f : Int} {h : ms_H} {Q : ms_Q} (hv : MV h) (hw : -100 ≤ w ∧ w ≤ 100) (hc : 0 ≤ c ∧ c < h 38 0) (hf : -100 ≤ f ∧ f ≤ 100) (q : Q (some (mI (w - h 40 c - f))) SH h) : ms_Ok ms_P (d + 1) 111 [mR 38, mI w, mI c, mI f] SH h Q := by
  refine ok_in (k := 9) MX5_mildBy rfl rfl ?_
  show sq (ms_Ok ms_P d) ms_X1 MX5_mildBy Q 9 (M_bl MX5_mildBy 0) [mR 38, mI w, mI c, mI f] [] (SH, 0, 0) h
  have hR := hv.1
  have hb := hv.2.1.1
  have ha := (hv.2.2.2.1 c hc.1 hc.2).1
  unfold RM at hR
  simp only [sq_c, jp_s, jp_c, rc_0, rc_s, ms_ex, o_iload, o_aload, o_istore, o_astore, o_iinc, o_bin, o_div, o_rem, o_neg, o_and, o_shl, o_shr, o_dup, o_pop, o_dup2, o_if, o_icmp, o_switch, o_sw, o_get, o_put, o_iald, o_iast, o_zald, o_zast, o_aald, o_aast, o_len, ob_s, ob_n, o_call, o_max, o_min, o_copy, o_obj, o_lpush, o_ladd, o_lcmp, o_iret, o_lret, o_vret, i1_c, l1_c, r1_c, st_g0, st_g1, st_g2, st_g3, st_g4, st_g5, st_g6, st_g7, st_g8, st_g9, st_s0, st_s1, st_s2, st_s3, st_s4, st_s5, st_s6, st_s7, st_s8, st_s9, List.length_cons, List.length_nil, List.take_succ_cons, List.take_zero, List.drop_succ_cons, List.drop_zero, List.reverse_cons, List.reverse_nil, List.nil_append, List.cons_append, List.all_cons, List.all_nil, ms_nl, Bool.and_true, Nat.reduceLeDiff, Nat.reduceAdd, Nat.reduceLT, Nat.reduceEqDiff, if_true, if_false, true_and, and_true, ms_rt, List.cons.injEq, exists_eq_left, exists_eq_right, exists_and_left, exists_and_right, ms_one, ite_true, ite_false, reduceIte, imp_self, Nat.zero_add, Nat.add_zero, zero_le_any, Nat.le_refl, Int.zero_add, true_or, or_true, false_implies, Int.reduceLE, Int.reduceLT, Int.reduceNeg, Int.reduceAdd, Int.reduceSub, Int.reduceMul, Int.reduceEq, not_true, not_false_iff, and_self, implies_true, false_and, and_false, or_false, false_or, bX5_mildBy_0, lX5_mildBy_0, qX5_mildBy, sh_b, hR, ar_40]
  exact ⟨by omega, by omega, rg_of (by omega) (by omega), rg_of (by omega) (by omega), q⟩
theorem m_mild {d : Nat} {c f : Int} {h : ms_H} {Q : ms_Q} (hv : MV h) (hc : 0 ≤ c ∧ c < h 38 0) (hf : -100 ≤ f ∧ f ≤ 100) (q : Q (some (mI (mT h - h 40 c - f))) SH h) : ms_Ok ms_P (d + 3) 113 [mR 38, mI c, mI f] SH h Q := by
  refine ok_in (k := 9) MX5_mild rfl rfl ?_
  show sq (ms_Ok ms_P (d + 2)) ms_X1 MX5_mild Q 9 (M_bl MX5_mild 0) [mR 38, mI c, mI f] [] (SH, 0, 0) h
  simp only [sq_c, jp_s, jp_c, rc_0, rc_s, ms_ex, o_iload, o_aload, o_istore, o_astore, o_iinc, o_bin, o_div, o_rem, o_neg, o_and, o_shl, o_shr, o_dup, o_pop, o_dup2, o_if, o_icmp, o_switch, o_sw, o_get, o_put, o_iald, o_iast, o_zald, o_zast, o_aald, o_aast, o_len, ob_s, ob_n, o_call, o_max, o_min, o_copy, o_obj, o_lpush, o_ladd, o_lcmp, o_iret, o_lret, o_vret, i1_c, l1_c, r1_c, st_g0, st_g1, st_g2, st_g3, st_g4, st_g5, st_g6, st_g7, st_g8, st_g9, st_s0, st_s1, st_s2, st_s3, st_s4, st_s5, st_s6, st_s7, st_s8, st_s9, List.length_cons, List.length_nil, List.take_succ_cons, List.take_zero, List.drop_succ_cons, List.drop_zero, List.reverse_cons, List.reverse_nil, List.nil_append, List.cons_append, List.all_cons, List.all_nil, ms_nl, Bool.and_true, Nat.reduceLeDiff, Nat.reduceAdd, Nat.reduceLT, Nat.reduceEqDiff, if_true, if_false, true_and, and_true, ms_rt, List.cons.injEq, exists_eq_left, exists_eq_right, exists_and_left, exists_and_right, ms_one, ite_true, ite_false, reduceIte, imp_self, Nat.zero_add, Nat.add_zero, zero_le_any, Nat.le_refl, Int.zero_add, true_or, or_true, false_implies, Int.reduceLE, Int.reduceLT, Int.reduceNeg, Int.reduceAdd, Int.reduceSub, Int.reduceMul, Int.reduceEq, not_true, not_false_iff, and_self, implies_true, false_and, and_false, or_false, false_or, bX5_mild_0, lX5_mild_0, qX5_mild, sh_b]
  refine m_warmthNow hv ?_
  simp only [sq_c, jp_s, jp_c, rc_0, rc_s, ms_ex, o_iload, o_aload, o_istore, o_astore, o_iinc, o_bin, o_div, o_rem, o_neg, o_and, o_shl, o_shr, o_dup, o_pop, o_dup2, o_if, o_icmp, o_switch, o_sw, o_get, o_put, o_iald, o_iast, o_zald, o_zast, o_aald, o_aast, o_len, ob_s, ob_n, o_call, o_max, o_min, o_copy, o_obj, o_lpush, o_ladd, o_lcmp, o_iret, o_lret, o_vret, i1_c, l1_c, r1_c, st_g0, st_g1, st_g2, st_g3, st_g4, st_g5, st_g6, st_g7, st_g8, st_g9, st_s0, st_s1, st_s2, st_s3, st_s4, st_s5, st_s6, st_s7, st_s8, st_s9, List.length_cons, List.length_nil, List.take_succ_cons, List.take_zero, List.drop_succ_cons, List.drop_zero, List.reverse_cons, List.reverse_nil, List.nil_append, List.cons_append, List.all_cons, List.all_nil, ms_nl, Bool.and_true, Nat.reduceLeDiff, Nat.reduceAdd, Nat.reduceLT, Nat.reduceEqDiff, if_true, if_false, true_and, and_true, ms_rt, List.cons.injEq, exists_eq_left, exists_eq_right, exists_and_left, exists_and_right, ms_one, ite_true, ite_false, reduceIte, imp_self, Nat.zero_add, Nat.add_zero, zero_le_any, Nat.le_refl, Int.zero_add, true_or, or_true, false_implies, Int.reduceLE, Int.reduceLT, Int.reduceNeg, Int.reduceAdd, Int.reduceSub, Int.reduceMul, Int.reduceEq, not_true, not_false_iff, and_self, implies_true, false_and, and_false, or_false, false_or, bX5_mild_0, lX5_mild_0, qX5_mild, sh_b]
  have := MV_T hv
  refine m_mildBy hv (by omega) hc hf ?_
  simp only [sq_c, jp_s, jp_c, rc_0, rc_s, ms_ex, o_iload, o_aload, o_istore, o_astore, o_iinc, o_bin, o_div, o_rem, o_neg, o_and, o_shl, o_shr, o_dup, o_pop, o_dup2, o_if, o_icmp, o_switch, o_sw, o_get, o_put, o_iald, o_iast, o_zald, o_zast, o_aald, o_aast, o_len, ob_s, ob_n, o_call, o_max, o_min, o_copy, o_obj, o_lpush, o_ladd, o_lcmp, o_iret, o_lret, o_vret, i1_c, l1_c, r1_c, st_g0, st_g1, st_g2, st_g3, st_g4, st_g5, st_g6, st_g7, st_g8, st_g9, st_s0, st_s1, st_s2, st_s3, st_s4, st_s5, st_s6, st_s7, st_s8, st_s9, List.length_cons, List.length_nil, List.take_succ_cons, List.take_zero, List.drop_succ_cons, List.drop_zero, List.reverse_cons, List.reverse_nil, List.nil_append, List.cons_append, List.all_cons, List.all_nil, ms_nl, Bool.and_true, Nat.reduceLeDiff, Nat.reduceAdd, Nat.reduceLT, Nat.reduceEqDiff, if_true, if_false, true_and, and_true, ms_rt, List.cons.injEq, exists_eq_left, exists_eq_right, exists_and_left, exists_and_right, ms_one, ite_true, ite_false, reduceIte, imp_self, Nat.zero_add, Nat.add_zero, zero_le_any, Nat.le_refl, Int.zero_add, true_or, or_true, false_implies, Int.reduceLE, Int.reduceLT, Int.reduceNeg, Int.reduceAdd, Int.reduceSub, Int.reduceMul, Int.reduceEq, not_true, not_false_iff, and_self, implies_true, false_and, and_false, or_false, false_or, bX5_mild_0, lX5_mild_0, qX5_mild, sh_b]
  exact q
theorem m_lowestBy_lp {d : Nat} {c w : Int} {h : ms_H} {Q : ms_Q} (hv : MV h) (hc : 0 ≤ c ∧ c < h 38 0) (hw : -100 ≤ w ∧ w ≤ 100) (q : Q (some (mI (cl (mT h - h 40 c - w)))) SH h) : ∀ (n : Nat) (f : Int), f = 8 - n → 0 ≤ f → f ≤ cl (mT h - h 40 c - w) → ms_at (ms_Ok ms_P (d + 3)) ms_X1 MX5_lowestBy Q 100 [mR 38, mI c, mI w, mI f] [] (SH, 0, 0) h := by
  intro n
  induction n with
  | zero =>
    intro f hf h0 h1
    refine sq_at (ms_Ok_m ms_P _) 9 100 ?_
    simp only [sq_c, jp_s, jp_c, rc_0, rc_s, ms_ex, o_iload, o_aload, o_istore, o_astore, o_iinc, o_bin, o_div, o_rem, o_neg, o_and, o_shl, o_shr, o_dup, o_pop, o_dup2, o_if, o_icmp, o_switch, o_sw, o_get, o_put, o_iald, o_iast, o_zald, o_zast, o_aald, o_aast, o_len, ob_s, ob_n, o_call, o_max, o_min, o_copy, o_obj, o_lpush, o_ladd, o_lcmp, o_iret, o_lret, o_vret, i1_c, l1_c, r1_c, st_g0, st_g1, st_g2, st_g3, st_g4, st_g5, st_g6, st_g7, st_g8, st_g9, st_s0, st_s1, st_s2, st_s3, st_s4, st_s5, st_s6, st_s7, st_s8, st_s9, List.length_cons, List.length_nil, List.take_succ_cons, List.take_zero, List.drop_succ_cons, List.drop_zero, List.reverse_cons, List.reverse_nil, List.nil_append, List.cons_append, List.all_cons, List.all_nil, ms_nl, Bool.and_true, Nat.reduceLeDiff, Nat.reduceAdd, Nat.reduceLT, Nat.reduceEqDiff, if_true, if_false, true_and, and_true, ms_rt, List.cons.injEq, exists_eq_left, exists_eq_right, exists_and_left, exists_and_right, ms_one, ite_true, ite_false, reduceIte, imp_self, Nat.zero_add, Nat.add_zero, zero_le_any, Nat.le_refl, Int.zero_add, true_or, or_true, false_implies, Int.reduceLE, Int.reduceLT, Int.reduceNeg, Int.reduceAdd, Int.reduceSub, Int.reduceMul, Int.reduceEq, not_true, not_false_iff, and_self, implies_true, false_and, and_false, or_false, false_or, bX5_lowestBy_0, bX5_lowestBy_1, bX5_lowestBy_100, lX5_lowestBy_0, lX5_lowestBy_1, lX5_lowestBy_100, qX5_lowestBy, sh_b]
    have e : f = cl (mT h - h 40 c - w) := by have := cl_b (mT h - h 40 c - w); omega
    refine ⟨fun _ => by rw [e]; exact q, fun h2 => by omega⟩
  | succ n ih =>
    intro f hf h0 h1
    refine sq_at (ms_Ok_m ms_P _) 9 100 ?_
    simp only [sq_c, jp_s, jp_c, rc_0, rc_s, ms_ex, o_iload, o_aload, o_istore, o_astore, o_iinc, o_bin, o_div, o_rem, o_neg, o_and, o_shl, o_shr, o_dup, o_pop, o_dup2, o_if, o_icmp, o_switch, o_sw, o_get, o_put, o_iald, o_iast, o_zald, o_zast, o_aald, o_aast, o_len, ob_s, ob_n, o_call, o_max, o_min, o_copy, o_obj, o_lpush, o_ladd, o_lcmp, o_iret, o_lret, o_vret, i1_c, l1_c, r1_c, st_g0, st_g1, st_g2, st_g3, st_g4, st_g5, st_g6, st_g7, st_g8, st_g9, st_s0, st_s1, st_s2, st_s3, st_s4, st_s5, st_s6, st_s7, st_s8, st_s9, List.length_cons, List.length_nil, List.take_succ_cons, List.take_zero, List.drop_succ_cons, List.drop_zero, List.reverse_cons, List.reverse_nil, List.nil_append, List.cons_append, List.all_cons, List.all_nil, ms_nl, Bool.and_true, Nat.reduceLeDiff, Nat.reduceAdd, Nat.reduceLT, Nat.reduceEqDiff, if_true, if_false, true_and, and_true, ms_rt, List.cons.injEq, exists_eq_left, exists_eq_right, exists_and_left, exists_and_right, ms_one, ite_true, ite_false, reduceIte, imp_self, Nat.zero_add, Nat.add_zero, zero_le_any, Nat.le_refl, Int.zero_add, true_or, or_true, false_implies, Int.reduceLE, Int.reduceLT, Int.reduceNeg, Int.reduceAdd, Int.reduceSub, Int.reduceMul, Int.reduceEq, not_true, not_false_iff, and_self, implies_true, false_and, and_false, or_false, false_or, bX5_lowestBy_0, bX5_lowestBy_1, bX5_lowestBy_100, lX5_lowestBy_0, lX5_lowestBy_1, lX5_lowestBy_100, qX5_lowestBy, sh_b]
    refine ⟨fun h2 => by omega, fun h2 => ?_⟩
    refine m_mild hv hc (by omega) ?_
    simp only [sq_c, jp_s, jp_c, rc_0, rc_s, ms_ex, o_iload, o_aload, o_istore, o_astore, o_iinc, o_bin, o_div, o_rem, o_neg, o_and, o_shl, o_shr, o_dup, o_pop, o_dup2, o_if, o_icmp, o_switch, o_sw, o_get, o_put, o_iald, o_iast, o_zald, o_zast, o_aald, o_aast, o_len, ob_s, ob_n, o_call, o_max, o_min, o_copy, o_obj, o_lpush, o_ladd, o_lcmp, o_iret, o_lret, o_vret, i1_c, l1_c, r1_c, st_g0, st_g1, st_g2, st_g3, st_g4, st_g5, st_g6, st_g7, st_g8, st_g9, st_s0, st_s1, st_s2, st_s3, st_s4, st_s5, st_s6, st_s7, st_s8, st_s9, List.length_cons, List.length_nil, List.take_succ_cons, List.take_zero, List.drop_succ_cons, List.drop_zero, List.reverse_cons, List.reverse_nil, List.nil_append, List.cons_append, List.all_cons, List.all_nil, ms_nl, Bool.and_true, Nat.reduceLeDiff, Nat.reduceAdd, Nat.reduceLT, Nat.reduceEqDiff, if_true, if_false, true_and, and_true, ms_rt, List.cons.injEq, exists_eq_left, exists_eq_right, exists_and_left, exists_and_right, ms_one, ite_true, ite_false, reduceIte, imp_self, Nat.zero_add, Nat.add_zero, zero_le_any, Nat.le_refl, Int.zero_add, true_or, or_true, false_implies, Int.reduceLE, Int.reduceLT, Int.reduceNeg, Int.reduceAdd, Int.reduceSub, Int.reduceMul, Int.reduceEq, not_true, not_false_iff, and_self, implies_true, false_and, and_false, or_false, false_or, bX5_lowestBy_0, bX5_lowestBy_1, bX5_lowestBy_100, lX5_lowestBy_0, lX5_lowestBy_1, lX5_lowestBy_100, qX5_lowestBy, sh_b]
    refine ⟨fun h3 => ?_, fun h3 => ⟨rg_of (by omega) (by omega), ih _ (by omega) (by omega) ?_⟩⟩
    · have e : f = cl (mT h - h 40 c - w) := by
        unfold cl at h1 ⊢
        repeat' split at h1
        all_goals (repeat' split)
        all_goals omega
      rw [e]; exact q
    · unfold cl
      repeat' split
      all_goals omega
theorem m_lowestBy {d : Nat} {c w : Int} {h : ms_H} {Q : ms_Q} (hv : MV h) (hc : 0 ≤ c ∧ c < h 38 0) (hw : -100 ≤ w ∧ w ≤ 100) (q : Q (some (mI (cl (mT h - h 40 c - w)))) SH h) : ms_Ok ms_P (d + 4) 114 [mR 38, mI c, mI w] SH h Q := by
  refine ok_in (k := 9) MX5_lowestBy rfl rfl ?_
  show sq (ms_Ok ms_P (d + 3)) ms_X1 MX5_lowestBy Q 9 (M_bl MX5_lowestBy 0) [mR 38, mI c, mI w, mL 0] [] (SH, 0, 0) h
  simp only [sq_c, jp_s, jp_c, rc_0, rc_s, ms_ex, o_iload, o_aload, o_istore, o_astore, o_iinc, o_bin, o_div, o_rem, o_neg, o_and, o_shl, o_shr, o_dup, o_pop, o_dup2, o_if, o_icmp, o_switch, o_sw, o_get, o_put, o_iald, o_iast, o_zald, o_zast, o_aald, o_aast, o_len, ob_s, ob_n, o_call, o_max, o_min, o_copy, o_obj, o_lpush, o_ladd, o_lcmp, o_iret, o_lret, o_vret, i1_c, l1_c, r1_c, st_g0, st_g1, st_g2, st_g3, st_g4, st_g5, st_g6, st_g7, st_g8, st_g9, st_s0, st_s1, st_s2, st_s3, st_s4, st_s5, st_s6, st_s7, st_s8, st_s9, List.length_cons, List.length_nil, List.take_succ_cons, List.take_zero, List.drop_succ_cons, List.drop_zero, List.reverse_cons, List.reverse_nil, List.nil_append, List.cons_append, List.all_cons, List.all_nil, ms_nl, Bool.and_true, Nat.reduceLeDiff, Nat.reduceAdd, Nat.reduceLT, Nat.reduceEqDiff, if_true, if_false, true_and, and_true, ms_rt, List.cons.injEq, exists_eq_left, exists_eq_right, exists_and_left, exists_and_right, ms_one, ite_true, ite_false, reduceIte, imp_self, Nat.zero_add, Nat.add_zero, zero_le_any, Nat.le_refl, Int.zero_add, true_or, or_true, false_implies, Int.reduceLE, Int.reduceLT, Int.reduceNeg, Int.reduceAdd, Int.reduceSub, Int.reduceMul, Int.reduceEq, not_true, not_false_iff, and_self, implies_true, false_and, and_false, or_false, false_or, bX5_lowestBy_0, bX5_lowestBy_1, bX5_lowestBy_100, lX5_lowestBy_0, lX5_lowestBy_1, lX5_lowestBy_100, qX5_lowestBy, sh_b]
  exact m_lowestBy_lp hv hc hw q 8 0 (by omega) (by omega) (cl_b _).1
theorem m_edge {d : Nat} {c : Int} {h : ms_H} {Q : ms_Q} (hv : MV h) (hc : 0 ≤ c ∧ c < h 38 0) (q : Q (some (mI (cl (mT h - h 40 c)))) SH h) : ms_Ok ms_P (d + 5) 115 [mR 38, mI c] SH h Q := by
  refine ok_in (k := 9) MX5_edge rfl rfl ?_
  show sq (ms_Ok ms_P (d + 4)) ms_X1 MX5_edge Q 9 (M_bl MX5_edge 0) [mR 38, mI c] [] (SH, 0, 0) h
  simp only [sq_c, jp_s, jp_c, rc_0, rc_s, ms_ex, o_iload, o_aload, o_istore, o_astore, o_iinc, o_bin, o_div, o_rem, o_neg, o_and, o_shl, o_shr, o_dup, o_pop, o_dup2, o_if, o_icmp, o_switch, o_sw, o_get, o_put, o_iald, o_iast, o_zald, o_zast, o_aald, o_aast, o_len, ob_s, ob_n, o_call, o_max, o_min, o_copy, o_obj, o_lpush, o_ladd, o_lcmp, o_iret, o_lret, o_vret, i1_c, l1_c, r1_c, st_g0, st_g1, st_g2, st_g3, st_g4, st_g5, st_g6, st_g7, st_g8, st_g9, st_s0, st_s1, st_s2, st_s3, st_s4, st_s5, st_s6, st_s7, st_s8, st_s9, List.length_cons, List.length_nil, List.take_succ_cons, List.take_zero, List.drop_succ_cons, List.drop_zero, List.reverse_cons, List.reverse_nil, List.nil_append, List.cons_append, List.all_cons, List.all_nil, ms_nl, Bool.and_true, Nat.reduceLeDiff, Nat.reduceAdd, Nat.reduceLT, Nat.reduceEqDiff, if_true, if_false, true_and, and_true, ms_rt, List.cons.injEq, exists_eq_left, exists_eq_right, exists_and_left, exists_and_right, ms_one, ite_true, ite_false, reduceIte, imp_self, Nat.zero_add, Nat.add_zero, zero_le_any, Nat.le_refl, Int.zero_add, true_or, or_true, false_implies, Int.reduceLE, Int.reduceLT, Int.reduceNeg, Int.reduceAdd, Int.reduceSub, Int.reduceMul, Int.reduceEq, not_true, not_false_iff, and_self, implies_true, false_and, and_false, or_false, false_or, bX5_edge_0, lX5_edge_0, qX5_edge, sh_b]
  refine m_lowestBy hv hc (by omega) ?_
  simp only [sq_c, jp_s, jp_c, rc_0, rc_s, ms_ex, o_iload, o_aload, o_istore, o_astore, o_iinc, o_bin, o_div, o_rem, o_neg, o_and, o_shl, o_shr, o_dup, o_pop, o_dup2, o_if, o_icmp, o_switch, o_sw, o_get, o_put, o_iald, o_iast, o_zald, o_zast, o_aald, o_aast, o_len, ob_s, ob_n, o_call, o_max, o_min, o_copy, o_obj, o_lpush, o_ladd, o_lcmp, o_iret, o_lret, o_vret, i1_c, l1_c, r1_c, st_g0, st_g1, st_g2, st_g3, st_g4, st_g5, st_g6, st_g7, st_g8, st_g9, st_s0, st_s1, st_s2, st_s3, st_s4, st_s5, st_s6, st_s7, st_s8, st_s9, List.length_cons, List.length_nil, List.take_succ_cons, List.take_zero, List.drop_succ_cons, List.drop_zero, List.reverse_cons, List.reverse_nil, List.nil_append, List.cons_append, List.all_cons, List.all_nil, ms_nl, Bool.and_true, Nat.reduceLeDiff, Nat.reduceAdd, Nat.reduceLT, Nat.reduceEqDiff, if_true, if_false, true_and, and_true, ms_rt, List.cons.injEq, exists_eq_left, exists_eq_right, exists_and_left, exists_and_right, ms_one, ite_true, ite_false, reduceIte, imp_self, Nat.zero_add, Nat.add_zero, zero_le_any, Nat.le_refl, Int.zero_add, true_or, or_true, false_implies, Int.reduceLE, Int.reduceLT, Int.reduceNeg, Int.reduceAdd, Int.reduceSub, Int.reduceMul, Int.reduceEq, not_true, not_false_iff, and_self, implies_true, false_and, and_false, or_false, false_or, bX5_edge_0, lX5_edge_0, qX5_edge, sh_b, Int.sub_zero]
  exact q
theorem m_wet {d : Nat} {c : Int} {h : ms_H} {Q : ms_Q} (hv : MV h) (hc : 0 ≤ c ∧ c < h 38 0) (q : Q (some (mI (cl (mT h - h 40 c - h 38 3)))) SH h) : ms_Ok ms_P (d + 5) 116 [mR 38, mI c] SH h Q := by
  refine ok_in (k := 9) MX5_wet rfl rfl ?_
  show sq (ms_Ok ms_P (d + 4)) ms_X1 MX5_wet Q 9 (M_bl MX5_wet 0) [mR 38, mI c] [] (SH, 0, 0) h
  simp only [sq_c, jp_s, jp_c, rc_0, rc_s, ms_ex, o_iload, o_aload, o_istore, o_astore, o_iinc, o_bin, o_div, o_rem, o_neg, o_and, o_shl, o_shr, o_dup, o_pop, o_dup2, o_if, o_icmp, o_switch, o_sw, o_get, o_put, o_iald, o_iast, o_zald, o_zast, o_aald, o_aast, o_len, ob_s, ob_n, o_call, o_max, o_min, o_copy, o_obj, o_lpush, o_ladd, o_lcmp, o_iret, o_lret, o_vret, i1_c, l1_c, r1_c, st_g0, st_g1, st_g2, st_g3, st_g4, st_g5, st_g6, st_g7, st_g8, st_g9, st_s0, st_s1, st_s2, st_s3, st_s4, st_s5, st_s6, st_s7, st_s8, st_s9, List.length_cons, List.length_nil, List.take_succ_cons, List.take_zero, List.drop_succ_cons, List.drop_zero, List.reverse_cons, List.reverse_nil, List.nil_append, List.cons_append, List.all_cons, List.all_nil, ms_nl, Bool.and_true, Nat.reduceLeDiff, Nat.reduceAdd, Nat.reduceLT, Nat.reduceEqDiff, if_true, if_false, true_and, and_true, ms_rt, List.cons.injEq, exists_eq_left, exists_eq_right, exists_and_left, exists_and_right, ms_one, ite_true, ite_false, reduceIte, imp_self, Nat.zero_add, Nat.add_zero, zero_le_any, Nat.le_refl, Int.zero_add, true_or, or_true, false_implies, Int.reduceLE, Int.reduceLT, Int.reduceNeg, Int.reduceAdd, Int.reduceSub, Int.reduceMul, Int.reduceEq, not_true, not_false_iff, and_self, implies_true, false_and, and_false, or_false, false_or, bX5_wet_0, lX5_wet_0, qX5_wet, sh_b]
  have := hv.2.1.2.2.2.1
  refine m_lowestBy hv hc (by omega) ?_
  simp only [sq_c, jp_s, jp_c, rc_0, rc_s, ms_ex, o_iload, o_aload, o_istore, o_astore, o_iinc, o_bin, o_div, o_rem, o_neg, o_and, o_shl, o_shr, o_dup, o_pop, o_dup2, o_if, o_icmp, o_switch, o_sw, o_get, o_put, o_iald, o_iast, o_zald, o_zast, o_aald, o_aast, o_len, ob_s, ob_n, o_call, o_max, o_min, o_copy, o_obj, o_lpush, o_ladd, o_lcmp, o_iret, o_lret, o_vret, i1_c, l1_c, r1_c, st_g0, st_g1, st_g2, st_g3, st_g4, st_g5, st_g6, st_g7, st_g8, st_g9, st_s0, st_s1, st_s2, st_s3, st_s4, st_s5, st_s6, st_s7, st_s8, st_s9, List.length_cons, List.length_nil, List.take_succ_cons, List.take_zero, List.drop_succ_cons, List.drop_zero, List.reverse_cons, List.reverse_nil, List.nil_append, List.cons_append, List.all_cons, List.all_nil, ms_nl, Bool.and_true, Nat.reduceLeDiff, Nat.reduceAdd, Nat.reduceLT, Nat.reduceEqDiff, if_true, if_false, true_and, and_true, ms_rt, List.cons.injEq, exists_eq_left, exists_eq_right, exists_and_left, exists_and_right, ms_one, ite_true, ite_false, reduceIte, imp_self, Nat.zero_add, Nat.add_zero, zero_le_any, Nat.le_refl, Int.zero_add, true_or, or_true, false_implies, Int.reduceLE, Int.reduceLT, Int.reduceNeg, Int.reduceAdd, Int.reduceSub, Int.reduceMul, Int.reduceEq, not_true, not_false_iff, and_self, implies_true, false_and, and_false, or_false, false_or, bX5_wet_0, lX5_wet_0, qX5_wet, sh_b]
  exact q
/-- what falls: 2 snow, 1 sleet, 0 rain -/
def fl (m g : Int) : Int := if m ≤ 0 then 2 else if g < m then 0 else 1
theorem m_falls {d : Nat} {c f : Int} {h : ms_H} {Q : ms_Q} (hv : MV h) (hc : 0 ≤ c ∧ c < h 38 0) (hf : -100 ≤ f ∧ f ≤ 100) (q : Q (some (mI (fl (mT h - h 40 c - f) (h 38 3)))) SH h) : ms_Ok ms_P (d + 4) 119 [mR 38, mI c, mI f] SH h Q := by
  refine ok_in (k := 9) MX5_falls rfl rfl ?_
  show sq (ms_Ok ms_P (d + 3)) ms_X1 MX5_falls Q 9 (M_bl MX5_falls 0) [mR 38, mI c, mI f, mL 0] [] (SH, 0, 0) h
  simp only [sq_c, jp_s, jp_c, rc_0, rc_s, ms_ex, o_iload, o_aload, o_istore, o_astore, o_iinc, o_bin, o_div, o_rem, o_neg, o_and, o_shl, o_shr, o_dup, o_pop, o_dup2, o_if, o_icmp, o_switch, o_sw, o_get, o_put, o_iald, o_iast, o_zald, o_zast, o_aald, o_aast, o_len, ob_s, ob_n, o_call, o_max, o_min, o_copy, o_obj, o_lpush, o_ladd, o_lcmp, o_iret, o_lret, o_vret, i1_c, l1_c, r1_c, st_g0, st_g1, st_g2, st_g3, st_g4, st_g5, st_g6, st_g7, st_g8, st_g9, st_s0, st_s1, st_s2, st_s3, st_s4, st_s5, st_s6, st_s7, st_s8, st_s9, List.length_cons, List.length_nil, List.take_succ_cons, List.take_zero, List.drop_succ_cons, List.drop_zero, List.reverse_cons, List.reverse_nil, List.nil_append, List.cons_append, List.all_cons, List.all_nil, ms_nl, Bool.and_true, Nat.reduceLeDiff, Nat.reduceAdd, Nat.reduceLT, Nat.reduceEqDiff, if_true, if_false, true_and, and_true, ms_rt, List.cons.injEq, exists_eq_left, exists_eq_right, exists_and_left, exists_and_right, ms_one, ite_true, ite_false, reduceIte, imp_self, Nat.zero_add, Nat.add_zero, zero_le_any, Nat.le_refl, Int.zero_add, true_or, or_true, false_implies, Int.reduceLE, Int.reduceLT, Int.reduceNeg, Int.reduceAdd, Int.reduceSub, Int.reduceMul, Int.reduceEq, not_true, not_false_iff, and_self, implies_true, false_and, and_false, or_false, false_or, bX5_falls_0, bX5_falls_1, bX5_falls_2, bX5_falls_3, lX5_falls_0, lX5_falls_1, lX5_falls_2, lX5_falls_3, qX5_falls, sh_b]
  refine m_mild hv hc hf ?_
  simp only [sq_c, jp_s, jp_c, rc_0, rc_s, ms_ex, o_iload, o_aload, o_istore, o_astore, o_iinc, o_bin, o_div, o_rem, o_neg, o_and, o_shl, o_shr, o_dup, o_pop, o_dup2, o_if, o_icmp, o_switch, o_sw, o_get, o_put, o_iald, o_iast, o_zald, o_zast, o_aald, o_aast, o_len, ob_s, ob_n, o_call, o_max, o_min, o_copy, o_obj, o_lpush, o_ladd, o_lcmp, o_iret, o_lret, o_vret, i1_c, l1_c, r1_c, st_g0, st_g1, st_g2, st_g3, st_g4, st_g5, st_g6, st_g7, st_g8, st_g9, st_s0, st_s1, st_s2, st_s3, st_s4, st_s5, st_s6, st_s7, st_s8, st_s9, List.length_cons, List.length_nil, List.take_succ_cons, List.take_zero, List.drop_succ_cons, List.drop_zero, List.reverse_cons, List.reverse_nil, List.nil_append, List.cons_append, List.all_cons, List.all_nil, ms_nl, Bool.and_true, Nat.reduceLeDiff, Nat.reduceAdd, Nat.reduceLT, Nat.reduceEqDiff, if_true, if_false, true_and, and_true, ms_rt, List.cons.injEq, exists_eq_left, exists_eq_right, exists_and_left, exists_and_right, ms_one, ite_true, ite_false, reduceIte, imp_self, Nat.zero_add, Nat.add_zero, zero_le_any, Nat.le_refl, Int.zero_add, true_or, or_true, false_implies, Int.reduceLE, Int.reduceLT, Int.reduceNeg, Int.reduceAdd, Int.reduceSub, Int.reduceMul, Int.reduceEq, not_true, not_false_iff, and_self, implies_true, false_and, and_false, or_false, false_or, bX5_falls_0, bX5_falls_1, bX5_falls_2, bX5_falls_3, lX5_falls_0, lX5_falls_1, lX5_falls_2, lX5_falls_3, qX5_falls, sh_b]
  unfold fl at q
  refine ⟨fun h1 => ⟨fun h2 => ?_, fun h2 => ?_⟩, fun h1 => ?_⟩
  · rw [if_neg (by omega), if_neg (by omega)] at q
    exact q
  · rw [if_neg (by omega), if_pos (by omega)] at q
    exact q
  · rw [if_pos (by omega)] at q
    exact q
end
section
/-! The model: sums, common divisors, orders, halves. -/
def gc (x y : Int) : Int := (Nat.gcd x.toNat y.toNat : Int)
theorem gc_0 {x : Int} (hx : 0 ≤ x) : gc x 0 = x := by
  unfold gc
  rw [show (0 : Int).toNat = 0 from rfl, Nat.gcd_zero_right]
  omega
theorem gc_s {x y : Int} (hx : 0 ≤ x) (hy : 0 < y) : gc x y = gc y (x % y) := by
  unfold gc
  rw [Nat.gcd_comm x.toNat, Nat.gcd_rec, Nat.gcd_comm]
  congr 2
  rw [Int.toNat_emod hx (by omega)]
theorem m_common_lp {d : Nat} {h : ms_H} {Q : ms_Q} {g v0 v1 : Int} {rv : ms_V} (q : Q (some (mI g)) SH h) : ∀ (n : Nat) (x y : Int) (rv : ms_V), y.toNat < n → 0 ≤ x → 0 ≤ y → x ≤ 2000000000 → y ≤ 2000000000 → gc x y = g → ms_at (ms_Ok ms_P (d)) ms_X1 MX5_common Q 100 [mI v0, mI v1, mI x, mI y, rv] [] (SH, 0, 0) (h) := by
  intro n
  induction n with
  | zero => intro x y rv h1; omega
  | succ n ih =>
    intro x y rv h1 hx hy hx2 hy2 hg
    refine sq_at (ms_Ok_m ms_P _) 30 100 ?_
    simp only [sq_c, jp_s, jp_c, rc_0, rc_s, ms_ex, o_iload, o_aload, o_istore, o_astore, o_iinc, o_bin, o_div, o_rem, o_neg, o_and, o_shl, o_shr, o_dup, o_pop, o_dup2, o_if, o_icmp, o_switch, o_sw, o_get, o_put, o_iald, o_iast, o_zald, o_zast, o_aald, o_aast, o_len, ob_s, ob_n, o_call, o_max, o_min, o_copy, o_obj, o_lpush, o_ladd, o_lcmp, o_iret, o_lret, o_vret, i1_c, l1_c, r1_c, st_g0, st_g1, st_g2, st_g3, st_g4, st_g5, st_g6, st_g7, st_g8, st_g9, st_s0, st_s1, st_s2, st_s3, st_s4, st_s5, st_s6, st_s7, st_s8, st_s9, List.length_cons, List.length_nil, List.take_succ_cons, List.take_zero, List.drop_succ_cons, List.drop_zero, List.reverse_cons, List.reverse_nil, List.nil_append, List.cons_append, List.all_cons, List.all_nil, ms_nl, Bool.and_true, Nat.reduceLeDiff, Nat.reduceAdd, Nat.reduceLT, Nat.reduceEqDiff, if_true, if_false, true_and, and_true, ms_rt, List.cons.injEq, exists_eq_left, exists_eq_right, exists_and_left, exists_and_right, ms_one, ite_true, ite_false, reduceIte, imp_self, Nat.zero_add, Nat.add_zero, zero_le_any, Nat.le_refl, Int.zero_add, true_or, or_true, false_implies, Int.reduceLE, Int.reduceLT, Int.reduceNeg, Int.reduceAdd, Int.reduceSub, Int.reduceMul, Int.reduceEq, not_true, not_false_iff, and_self, implies_true, false_and, and_false, or_false, false_or, bX5_common_0, bX5_common_1, bX5_common_100, lX5_common_0, lX5_common_1, lX5_common_100, qX5_common, sh_b]
    refine ⟨fun h2 => ?_, fun h2 => ?_⟩
    · subst h2
      rw [gc_0 hx] at hg
      rw [hg]
      exact q
    · have hb := emod_b (a := x) (b := y) (by omega)
      have hb2 : x % y ≤ 2000000000 := by omega
      rw [tmod_p hx]
      refine ⟨h2, ih _ _ _ (by omega) hy hb.1 hy2 hb2 ?_⟩
      rw [← gc_s hx (by omega)]
      exact hg
theorem m_common {d : Nat} {a b : Int} {h : ms_H} {Q : ms_Q} (ha : 0 ≤ a ∧ a ≤ 2000000000) (hb : 0 ≤ b ∧ b ≤ 2000000000) (q : Q (some (mI (gc a b))) SH h) : ms_Ok ms_P (d + 1) 92 [mI a, mI b] SH (h) Q := by
  refine ok_in (k := 30) MX5_common rfl rfl ?_
  show sq (ms_Ok ms_P (d)) ms_X1 MX5_common Q 30 (M_bl MX5_common 0) [mI a, mI b, mL 0, mL 0, mL 0] [] (SH, 0, 0) (h)
  simp only [sq_c, jp_s, jp_c, rc_0, rc_s, ms_ex, o_iload, o_aload, o_istore, o_astore, o_iinc, o_bin, o_div, o_rem, o_neg, o_and, o_shl, o_shr, o_dup, o_pop, o_dup2, o_if, o_icmp, o_switch, o_sw, o_get, o_put, o_iald, o_iast, o_zald, o_zast, o_aald, o_aast, o_len, ob_s, ob_n, o_call, o_max, o_min, o_copy, o_obj, o_lpush, o_ladd, o_lcmp, o_iret, o_lret, o_vret, i1_c, l1_c, r1_c, st_g0, st_g1, st_g2, st_g3, st_g4, st_g5, st_g6, st_g7, st_g8, st_g9, st_s0, st_s1, st_s2, st_s3, st_s4, st_s5, st_s6, st_s7, st_s8, st_s9, List.length_cons, List.length_nil, List.take_succ_cons, List.take_zero, List.drop_succ_cons, List.drop_zero, List.reverse_cons, List.reverse_nil, List.nil_append, List.cons_append, List.all_cons, List.all_nil, ms_nl, Bool.and_true, Nat.reduceLeDiff, Nat.reduceAdd, Nat.reduceLT, Nat.reduceEqDiff, if_true, if_false, true_and, and_true, ms_rt, List.cons.injEq, exists_eq_left, exists_eq_right, exists_and_left, exists_and_right, ms_one, ite_true, ite_false, reduceIte, imp_self, Nat.zero_add, Nat.add_zero, zero_le_any, Nat.le_refl, Int.zero_add, true_or, or_true, false_implies, Int.reduceLE, Int.reduceLT, Int.reduceNeg, Int.reduceAdd, Int.reduceSub, Int.reduceMul, Int.reduceEq, not_true, not_false_iff, and_self, implies_true, false_and, and_false, or_false, false_or, bX5_common_0, bX5_common_1, bX5_common_100, lX5_common_0, lX5_common_1, lX5_common_100, qX5_common, sh_b]
  exact m_common_lp (rv := mI 0) q (b.toNat + 1) a b _ (by omega) ha.1 hb.1 ha.2 hb.2 rfl
theorem ord_s {k : Int} (h1 : 2 ≤ k) (h2 : k ≤ 6) : ms_ord k = ms_ord (k - 1) * k := by
  have : k = 2 ∨ k = 3 ∨ k = 4 ∨ k = 5 ∨ k = 6 := by omega
  rcases this with rfl | rfl | rfl | rfl | rfl <;> decide
theorem ord_b (k : Int) : 1 ≤ ms_ord k ∧ ms_ord k ≤ 720 := by
  unfold ms_ord
  repeat' split
  all_goals omega
theorem m_orders_lp {d : Nat} {h : ms_H} {Q : ms_Q} {N : Int} (hN : 0 ≤ N ∧ N ≤ 6) (q : Q (some (mI (ms_ord N))) SH h) : ∀ (n : Nat) (k : Int), k + n = 8 → 2 ≤ k → (k ≤ N + 1 ∨ k = 2) → ms_at (ms_Ok ms_P (d)) ms_X1 MX5_orders Q 100 [mI N, mI (ms_ord (k - 1)), mI k] [] (SH, 0, 0) (h) := by
  intro n
  induction n with
  | zero => intro k h1 h2 h3; omega
  | succ n ih =>
    intro k h1 h2 h3
    have hb := ord_b (k - 1)
    refine sq_at (ms_Ok_m ms_P _) 30 100 ?_
    simp only [sq_c, jp_s, jp_c, rc_0, rc_s, ms_ex, o_iload, o_aload, o_istore, o_astore, o_iinc, o_bin, o_div, o_rem, o_neg, o_and, o_shl, o_shr, o_dup, o_pop, o_dup2, o_if, o_icmp, o_switch, o_sw, o_get, o_put, o_iald, o_iast, o_zald, o_zast, o_aald, o_aast, o_len, ob_s, ob_n, o_call, o_max, o_min, o_copy, o_obj, o_lpush, o_ladd, o_lcmp, o_iret, o_lret, o_vret, i1_c, l1_c, r1_c, st_g0, st_g1, st_g2, st_g3, st_g4, st_g5, st_g6, st_g7, st_g8, st_g9, st_s0, st_s1, st_s2, st_s3, st_s4, st_s5, st_s6, st_s7, st_s8, st_s9, List.length_cons, List.length_nil, List.take_succ_cons, List.take_zero, List.drop_succ_cons, List.drop_zero, List.reverse_cons, List.reverse_nil, List.nil_append, List.cons_append, List.all_cons, List.all_nil, ms_nl, Bool.and_true, Nat.reduceLeDiff, Nat.reduceAdd, Nat.reduceLT, Nat.reduceEqDiff, if_true, if_false, true_and, and_true, ms_rt, List.cons.injEq, exists_eq_left, exists_eq_right, exists_and_left, exists_and_right, ms_one, ite_true, ite_false, reduceIte, imp_self, Nat.zero_add, Nat.add_zero, zero_le_any, Nat.le_refl, Int.zero_add, true_or, or_true, false_implies, Int.reduceLE, Int.reduceLT, Int.reduceNeg, Int.reduceAdd, Int.reduceSub, Int.reduceMul, Int.reduceEq, not_true, not_false_iff, and_self, implies_true, false_and, and_false, or_false, false_or, bX5_orders_0, bX5_orders_1, bX5_orders_100, lX5_orders_0, lX5_orders_1, lX5_orders_100, qX5_orders, sh_b]
    refine ⟨fun h4 => ?_, fun h4 => ?_⟩
    · have e : ms_ord (k - 1) = ms_ord N := by
        by_cases h5 : k = N + 1
        · rw [h5]; congr 1; omega
        · have : N = 0 := by omega
          have : k = 2 := by omega
          subst this; subst N; rfl
      rw [e]; exact q
    · have e := ord_s h2 (by omega)
      have hb2 := ord_b k
      rw [← e]
      refine ⟨rg_of (by omega) (by omega), rg_of (by omega) (by omega), ?_⟩
      have := ih (k + 1) (by omega) (by omega) (by omega)
      rw [show k + 1 - 1 = k by omega] at this
      exact this
theorem m_orders {d : Nat} {N : Int} {h : ms_H} {Q : ms_Q} (hN : 0 ≤ N ∧ N ≤ 6) (q : Q (some (mI (ms_ord N))) SH h) : ms_Ok ms_P (d + 1) 144 [mI N] SH (h) Q := by
  refine ok_in (k := 30) MX5_orders rfl rfl ?_
  show sq (ms_Ok ms_P (d)) ms_X1 MX5_orders Q 30 (M_bl MX5_orders 0) [mI N, mL 0, mL 0] [] (SH, 0, 0) (h)
  simp only [sq_c, jp_s, jp_c, rc_0, rc_s, ms_ex, o_iload, o_aload, o_istore, o_astore, o_iinc, o_bin, o_div, o_rem, o_neg, o_and, o_shl, o_shr, o_dup, o_pop, o_dup2, o_if, o_icmp, o_switch, o_sw, o_get, o_put, o_iald, o_iast, o_zald, o_zast, o_aald, o_aast, o_len, ob_s, ob_n, o_call, o_max, o_min, o_copy, o_obj, o_lpush, o_ladd, o_lcmp, o_iret, o_lret, o_vret, i1_c, l1_c, r1_c, st_g0, st_g1, st_g2, st_g3, st_g4, st_g5, st_g6, st_g7, st_g8, st_g9, st_s0, st_s1, st_s2, st_s3, st_s4, st_s5, st_s6, st_s7, st_s8, st_s9, List.length_cons, List.length_nil, List.take_succ_cons, List.take_zero, List.drop_succ_cons, List.drop_zero, List.reverse_cons, List.reverse_nil, List.nil_append, List.cons_append, List.all_cons, List.all_nil, ms_nl, Bool.and_true, Nat.reduceLeDiff, Nat.reduceAdd, Nat.reduceLT, Nat.reduceEqDiff, if_true, if_false, true_and, and_true, ms_rt, List.cons.injEq, exists_eq_left, exists_eq_right, exists_and_left, exists_and_right, ms_one, ite_true, ite_false, reduceIte, imp_self, Nat.zero_add, Nat.add_zero, zero_le_any, Nat.le_refl, Int.zero_add, true_or, or_true, false_implies, Int.reduceLE, Int.reduceLT, Int.reduceNeg, Int.reduceAdd, Int.reduceSub, Int.reduceMul, Int.reduceEq, not_true, not_false_iff, and_self, implies_true, false_and, and_false, or_false, false_or, bX5_orders_0, bX5_orders_1, bX5_orders_100, lX5_orders_0, lX5_orders_1, lX5_orders_100, qX5_orders, sh_b]
  exact m_orders_lp hN q 6 2 (by omega) (by omega) (Or.inr rfl)
/-- the weight of a set of voters -/
def wt (w : Int → Int) (set : Int) (n : Nat) : Int := sm (fun v => if set / 2 ^ v.toNat % 2 = 1 then w v else 0) n
theorem wt_b {w : Int → Int} {set : Int} {n : Nat} (h : ∀ i : Int, 0 ≤ i → i < n → 1 ≤ w i ∧ w i ≤ 9) : 0 ≤ wt w set n ∧ wt w set n ≤ 9 * n := by
  have := sm_b (g := fun v => if set / 2 ^ v.toNat % 2 = 1 then w v else 0) (lo := 0) (hi := 9) n (fun i h0 h1 => by
    have := h i h0 h1
    split <;> omega)
  unfold wt
  omega
theorem m_weightOf_lp {d : Nat} {h : ms_H} {Q : ms_Q} {set : Int} (hv : MV h) (hs : 0 ≤ set ∧ set < 64) (q : Q (some (mI (wt (h 43) set (h 38 1).toNat))) SH h) : ∀ (n : Nat) (k : Nat), k + n = (h 38 1).toNat → ms_at (ms_Ok ms_P (d)) ms_X1 MX5_weightOf Q 100 [mR 38, mI set, mI (wt (h 43) set k), mI k] [] (SH, 0, 0) (h) := by
  have hR := hv.1
  have hb := hv.2.1.2.1
  have hw := hv.2.2.2.2.1
  unfold RM at hR
  intro n
  induction n with
  | zero =>
    intro k hk
    refine sq_at (ms_Ok_m ms_P _) 30 100 ?_
    simp only [sq_c, jp_s, jp_c, rc_0, rc_s, ms_ex, o_iload, o_aload, o_istore, o_astore, o_iinc, o_bin, o_div, o_rem, o_neg, o_and, o_shl, o_shr, o_dup, o_pop, o_dup2, o_if, o_icmp, o_switch, o_sw, o_get, o_put, o_iald, o_iast, o_zald, o_zast, o_aald, o_aast, o_len, ob_s, ob_n, o_call, o_max, o_min, o_copy, o_obj, o_lpush, o_ladd, o_lcmp, o_iret, o_lret, o_vret, i1_c, l1_c, r1_c, st_g0, st_g1, st_g2, st_g3, st_g4, st_g5, st_g6, st_g7, st_g8, st_g9, st_s0, st_s1, st_s2, st_s3, st_s4, st_s5, st_s6, st_s7, st_s8, st_s9, List.length_cons, List.length_nil, List.take_succ_cons, List.take_zero, List.drop_succ_cons, List.drop_zero, List.reverse_cons, List.reverse_nil, List.nil_append, List.cons_append, List.all_cons, List.all_nil, ms_nl, Bool.and_true, Nat.reduceLeDiff, Nat.reduceAdd, Nat.reduceLT, Nat.reduceEqDiff, if_true, if_false, true_and, and_true, ms_rt, List.cons.injEq, exists_eq_left, exists_eq_right, exists_and_left, exists_and_right, ms_one, ite_true, ite_false, reduceIte, imp_self, Nat.zero_add, Nat.add_zero, zero_le_any, Nat.le_refl, Int.zero_add, true_or, or_true, false_implies, Int.reduceLE, Int.reduceLT, Int.reduceNeg, Int.reduceAdd, Int.reduceSub, Int.reduceMul, Int.reduceEq, not_true, not_false_iff, and_self, implies_true, false_and, and_false, or_false, false_or, bX5_weightOf_0, bX5_weightOf_1, bX5_weightOf_2, bX5_weightOf_3, bX5_weightOf_100, lX5_weightOf_0, lX5_weightOf_1, lX5_weightOf_2, lX5_weightOf_3, lX5_weightOf_100, qX5_weightOf, sh_b, hR, ar_43]
    refine ⟨fun _ => ?_, fun h1 => by omega⟩
    rw [show k = (h 38 1).toNat by omega]
    exact q
  | succ n ih =>
    intro k hk
    have hwk := hw k (by omega) (by omega)
    have hwb := wt_b (w := h 43) (set := set) (n := k) (fun i h0 h1 => (hw i h0 (by omega)).1)
    have ih' := ih (k + 1) (by omega)
    refine sq_at (ms_Ok_m ms_P _) 30 100 ?_
    simp only [sq_c, jp_s, jp_c, rc_0, rc_s, ms_ex, o_iload, o_aload, o_istore, o_astore, o_iinc, o_bin, o_div, o_rem, o_neg, o_and, o_shl, o_shr, o_dup, o_pop, o_dup2, o_if, o_icmp, o_switch, o_sw, o_get, o_put, o_iald, o_iast, o_zald, o_zast, o_aald, o_aast, o_len, ob_s, ob_n, o_call, o_max, o_min, o_copy, o_obj, o_lpush, o_ladd, o_lcmp, o_iret, o_lret, o_vret, i1_c, l1_c, r1_c, st_g0, st_g1, st_g2, st_g3, st_g4, st_g5, st_g6, st_g7, st_g8, st_g9, st_s0, st_s1, st_s2, st_s3, st_s4, st_s5, st_s6, st_s7, st_s8, st_s9, List.length_cons, List.length_nil, List.take_succ_cons, List.take_zero, List.drop_succ_cons, List.drop_zero, List.reverse_cons, List.reverse_nil, List.nil_append, List.cons_append, List.all_cons, List.all_nil, ms_nl, Bool.and_true, Nat.reduceLeDiff, Nat.reduceAdd, Nat.reduceLT, Nat.reduceEqDiff, if_true, if_false, true_and, and_true, ms_rt, List.cons.injEq, exists_eq_left, exists_eq_right, exists_and_left, exists_and_right, ms_one, ite_true, ite_false, reduceIte, imp_self, Nat.zero_add, Nat.add_zero, zero_le_any, Nat.le_refl, Int.zero_add, true_or, or_true, false_implies, Int.reduceLE, Int.reduceLT, Int.reduceNeg, Int.reduceAdd, Int.reduceSub, Int.reduceMul, Int.reduceEq, not_true, not_false_iff, and_self, implies_true, false_and, and_false, or_false, false_or, bX5_weightOf_0, bX5_weightOf_1, bX5_weightOf_2, bX5_weightOf_3, bX5_weightOf_100, lX5_weightOf_0, lX5_weightOf_1, lX5_weightOf_2, lX5_weightOf_3, lX5_weightOf_100, qX5_weightOf, sh_b, hR, ar_43]
    refine ⟨fun h1 => by omega, fun h1 => ?_⟩
    refine ⟨by omega, by omega, by omega, fun h2 => ?_, fun h2 => ?_⟩
    · have e : wt (h 43) set (k + 1) = wt (h 43) set k := by
        show wt (h 43) set k + _ = _
        dsimp only
        rw [if_neg h2]; omega
      refine ⟨rg_of (by omega) (by omega), rg_of (by omega) (by omega), ?_⟩
      rw [e] at ih'
      rw [Int.add_zero]
      exact ih'
    · have e : wt (h 43) set (k + 1) = wt (h 43) set k + h 43 k := by
        show wt (h 43) set k + _ = _
        dsimp only
        rw [if_pos h2]
      refine ⟨by omega, by omega, rg_of (by omega) (by omega), rg_of (by omega) (by omega), ?_⟩
      rw [e] at ih'
      exact ih'
theorem m_weightOf {d : Nat} {set : Int} {h : ms_H} {Q : ms_Q} (hv : MV h) (hs : 0 ≤ set ∧ set < 64) (q : Q (some (mI (wt (h 43) set (h 38 1).toNat))) SH h) : ms_Ok ms_P (d + 1) 145 [mR 38, mI set] SH (h) Q := by
  refine ok_in (k := 30) MX5_weightOf rfl rfl ?_
  show sq (ms_Ok ms_P (d)) ms_X1 MX5_weightOf Q 30 (M_bl MX5_weightOf 0) [mR 38, mI set, mL 0, mL 0] [] (SH, 0, 0) (h)
  simp only [sq_c, jp_s, jp_c, rc_0, rc_s, ms_ex, o_iload, o_aload, o_istore, o_astore, o_iinc, o_bin, o_div, o_rem, o_neg, o_and, o_shl, o_shr, o_dup, o_pop, o_dup2, o_if, o_icmp, o_switch, o_sw, o_get, o_put, o_iald, o_iast, o_zald, o_zast, o_aald, o_aast, o_len, ob_s, ob_n, o_call, o_max, o_min, o_copy, o_obj, o_lpush, o_ladd, o_lcmp, o_iret, o_lret, o_vret, i1_c, l1_c, r1_c, st_g0, st_g1, st_g2, st_g3, st_g4, st_g5, st_g6, st_g7, st_g8, st_g9, st_s0, st_s1, st_s2, st_s3, st_s4, st_s5, st_s6, st_s7, st_s8, st_s9, List.length_cons, List.length_nil, List.take_succ_cons, List.take_zero, List.drop_succ_cons, List.drop_zero, List.reverse_cons, List.reverse_nil, List.nil_append, List.cons_append, List.all_cons, List.all_nil, ms_nl, Bool.and_true, Nat.reduceLeDiff, Nat.reduceAdd, Nat.reduceLT, Nat.reduceEqDiff, if_true, if_false, true_and, and_true, ms_rt, List.cons.injEq, exists_eq_left, exists_eq_right, exists_and_left, exists_and_right, ms_one, ite_true, ite_false, reduceIte, imp_self, Nat.zero_add, Nat.add_zero, zero_le_any, Nat.le_refl, Int.zero_add, true_or, or_true, false_implies, Int.reduceLE, Int.reduceLT, Int.reduceNeg, Int.reduceAdd, Int.reduceSub, Int.reduceMul, Int.reduceEq, not_true, not_false_iff, and_self, implies_true, false_and, and_false, or_false, false_or, bX5_weightOf_0, bX5_weightOf_1, bX5_weightOf_2, bX5_weightOf_3, bX5_weightOf_100, lX5_weightOf_0, lX5_weightOf_1, lX5_weightOf_2, lX5_weightOf_3, lX5_weightOf_100, qX5_weightOf, sh_b]
  exact m_weightOf_lp hv hs q (h 38 1).toNat 0 (by omega)
end
section
/-! The model: halves, columns, fields, what is now. -/
/-- the greater half of what is between -/
def gh (d : Int) : Int := if 0 ≤ d then (d + 1) / 2 else -((1 - d) / 2)
def hv : Nat → Int → Int → Int → Int × Int
  | 0, a, _, k => (a, k)
  | n + 1, a, b, k => if a = b then (a, k) else if k % 2 = 0 then hv n (a + gh (b - a)) b (k + 1) else hv n a (b + gh (a - b)) (k + 1)
def hb : Nat → Int
  | 0 => 0
  | n + 1 => 2 * hb n + 1
theorem hv_eq (n : Nat) (a k : Int) : hv n a a k = (a, k) := by
  cases n with
  | zero => rfl
  | succ n => unfold hv; rw [if_pos rfl]
theorem m_halves_lp {d : Nat} {h : ms_H} {Q : ms_Q} {c : Int} {P : Int × Int} (hR : RM h) (q : Q (some (mI P.1)) SH (hs h 38 30 P.2)) : ∀ (n : Nat) (a b k : Int) (u v : ms_V), (0 ≤ a ∧ a ≤ 8) → (0 ≤ b ∧ b ≤ 8) → (a - b ≤ hb n ∧ b - a ≤ hb n) → (0 ≤ k ∧ k ≤ 1000 - n) → hv n a b k = P → ms_at (ms_Ok ms_P (d)) ms_X1 MX5_halves Q 100 [mR 38, mI c, mI a, mI b, u, v] [] (SH, 0, 0) (hs h 38 30 k) := by
  unfold RM at hR
  intro n
  induction n with
  | zero =>
    intro a b k u v ha hbb hab hk hp
    refine sq_at (ms_Ok_m ms_P _) 30 100 ?_
    simp only [sq_c, jp_s, jp_c, rc_0, rc_s, ms_ex, o_iload, o_aload, o_istore, o_astore, o_iinc, o_bin, o_div, o_rem, o_neg, o_and, o_shl, o_shr, o_dup, o_pop, o_dup2, o_if, o_icmp, o_switch, o_sw, o_get, o_put, o_iald, o_iast, o_zald, o_zast, o_aald, o_aast, o_len, ob_s, ob_n, o_call, o_max, o_min, o_copy, o_obj, o_lpush, o_ladd, o_lcmp, o_iret, o_lret, o_vret, i1_c, l1_c, r1_c, st_g0, st_g1, st_g2, st_g3, st_g4, st_g5, st_g6, st_g7, st_g8, st_g9, st_s0, st_s1, st_s2, st_s3, st_s4, st_s5, st_s6, st_s7, st_s8, st_s9, List.length_cons, List.length_nil, List.take_succ_cons, List.take_zero, List.drop_succ_cons, List.drop_zero, List.reverse_cons, List.reverse_nil, List.nil_append, List.cons_append, List.all_cons, List.all_nil, ms_nl, Bool.and_true, Nat.reduceLeDiff, Nat.reduceAdd, Nat.reduceLT, Nat.reduceEqDiff, if_true, if_false, true_and, and_true, ms_rt, List.cons.injEq, exists_eq_left, exists_eq_right, exists_and_left, exists_and_right, ms_one, ite_true, ite_false, reduceIte, imp_self, Nat.zero_add, Nat.add_zero, zero_le_any, Nat.le_refl, Int.zero_add, true_or, or_true, false_implies, Int.reduceLE, Int.reduceLT, Int.reduceNeg, Int.reduceAdd, Int.reduceSub, Int.reduceMul, Int.reduceEq, not_true, not_false_iff, and_self, implies_true, false_and, and_false, or_false, false_or, bX5_halves_0, bX5_halves_1, bX5_halves_2, bX5_halves_3, bX5_halves_4, bX5_halves_5, bX5_halves_6, bX5_halves_7, bX5_halves_8, bX5_halves_9, bX5_halves_100, lX5_halves_0, lX5_halves_1, lX5_halves_2, lX5_halves_3, lX5_halves_4, lX5_halves_5, lX5_halves_6, lX5_halves_7, lX5_halves_8, lX5_halves_9, lX5_halves_100, qX5_halves, sh_b, hR, hs_v, hs_hs]
    refine ⟨fun h1 => ?_, fun h1 => ?_⟩
    · subst h1
      rw [hv_eq] at hp
      subst hp
      exact q
    · rw [show hb 0 = 0 from rfl] at hab; omega
  | succ n ih =>
    intro a b k u v ha hbb hab hk hp
    refine sq_at (ms_Ok_m ms_P _) 30 100 ?_
    simp only [sq_c, jp_s, jp_c, rc_0, rc_s, ms_ex, o_iload, o_aload, o_istore, o_astore, o_iinc, o_bin, o_div, o_rem, o_neg, o_and, o_shl, o_shr, o_dup, o_pop, o_dup2, o_if, o_icmp, o_switch, o_sw, o_get, o_put, o_iald, o_iast, o_zald, o_zast, o_aald, o_aast, o_len, ob_s, ob_n, o_call, o_max, o_min, o_copy, o_obj, o_lpush, o_ladd, o_lcmp, o_iret, o_lret, o_vret, i1_c, l1_c, r1_c, st_g0, st_g1, st_g2, st_g3, st_g4, st_g5, st_g6, st_g7, st_g8, st_g9, st_s0, st_s1, st_s2, st_s3, st_s4, st_s5, st_s6, st_s7, st_s8, st_s9, List.length_cons, List.length_nil, List.take_succ_cons, List.take_zero, List.drop_succ_cons, List.drop_zero, List.reverse_cons, List.reverse_nil, List.nil_append, List.cons_append, List.all_cons, List.all_nil, ms_nl, Bool.and_true, Nat.reduceLeDiff, Nat.reduceAdd, Nat.reduceLT, Nat.reduceEqDiff, if_true, if_false, true_and, and_true, ms_rt, List.cons.injEq, exists_eq_left, exists_eq_right, exists_and_left, exists_and_right, ms_one, ite_true, ite_false, reduceIte, imp_self, Nat.zero_add, Nat.add_zero, zero_le_any, Nat.le_refl, Int.zero_add, true_or, or_true, false_implies, Int.reduceLE, Int.reduceLT, Int.reduceNeg, Int.reduceAdd, Int.reduceSub, Int.reduceMul, Int.reduceEq, not_true, not_false_iff, and_self, implies_true, false_and, and_false, or_false, false_or, bX5_halves_0, bX5_halves_1, bX5_halves_2, bX5_halves_3, bX5_halves_4, bX5_halves_5, bX5_halves_6, bX5_halves_7, bX5_halves_8, bX5_halves_9, bX5_halves_100, lX5_halves_0, lX5_halves_1, lX5_halves_2, lX5_halves_3, lX5_halves_4, lX5_halves_5, lX5_halves_6, lX5_halves_7, lX5_halves_8, lX5_halves_9, lX5_halves_100, qX5_halves, sh_b, hR, hs_v, hs_hs]
    rw [show hb (n + 1) = 2 * hb n + 1 from rfl] at hab
    refine ⟨fun h1 => ?_, fun h1 => ?_⟩
    · subst h1
      rw [hv_eq] at hp
      subst hp
      exact q
    · unfold hv at hp
      rw [if_neg h1] at hp
      rw [tmod_p hk.1]
      repeat' first | refine ⟨?_, ?_⟩ | refine fun (_ : (_ : Int) ≤ _) => ?_ | refine fun (_ : (_ : Int) < _) => ?_ | refine fun (_ : ¬ (_ : Int) = _) => ?_ | refine fun (_ : (_ : Int) = _) => ?_
      all_goals try rw [tdiv_p (by omega)]
      all_goals first | omega | exact rg_of (by omega) (by omega) | skip
      all_goals
        refine ih _ _ _ _ _ (by omega) (by omega) (by omega) (by omega) ?_
        rw [← hp]
        split
        all_goals first | omega | (congr 1; unfold gh; split <;> omega)
def mH (h : ms_H) (c : Int) : Int × Int := hv 4 (cl (mT h - h 40 c - h 39 0)) (cl (mT h - h 40 c - h 39 1)) 0
theorem MV_hand {h : ms_H} (hv : MV h) {i : Int} (h0 : 0 ≤ i) (h1 : i < 2) : 0 ≤ h 39 i ∧ h 39 i ≤ 9 := hv.2.2.1 i h0 h1
theorem m_halves {d : Nat} {c : Int} {h : ms_H} {Q : ms_Q} (hv : MV h) (hc : 0 ≤ c ∧ c < h 38 0) (q : Q (some (mI (mH h c).1)) SH (hs h 38 30 (mH h c).2)) : ms_Ok ms_P (d + 5) 117 [mR 38, mI c] SH (h) Q := by
  refine ok_in (k := 30) MX5_halves rfl rfl ?_
  show sq (ms_Ok ms_P (d + 4)) ms_X1 MX5_halves Q 30 (M_bl MX5_halves 0) [mR 38, mI c, mL 0, mL 0, mL 0, mL 0] [] (SH, 0, 0) (h)
  have hR := hv.1
  have h0 := MV_hand hv (i := 0) (by omega) (by omega)
  have h1 := MV_hand hv (i := 1) (by omega) (by omega)
  have hR2 := hR
  unfold RM at hR2
  simp only [sq_c, jp_s, jp_c, rc_0, rc_s, ms_ex, o_iload, o_aload, o_istore, o_astore, o_iinc, o_bin, o_div, o_rem, o_neg, o_and, o_shl, o_shr, o_dup, o_pop, o_dup2, o_if, o_icmp, o_switch, o_sw, o_get, o_put, o_iald, o_iast, o_zald, o_zast, o_aald, o_aast, o_len, ob_s, ob_n, o_call, o_max, o_min, o_copy, o_obj, o_lpush, o_ladd, o_lcmp, o_iret, o_lret, o_vret, i1_c, l1_c, r1_c, st_g0, st_g1, st_g2, st_g3, st_g4, st_g5, st_g6, st_g7, st_g8, st_g9, st_s0, st_s1, st_s2, st_s3, st_s4, st_s5, st_s6, st_s7, st_s8, st_s9, List.length_cons, List.length_nil, List.take_succ_cons, List.take_zero, List.drop_succ_cons, List.drop_zero, List.reverse_cons, List.reverse_nil, List.nil_append, List.cons_append, List.all_cons, List.all_nil, ms_nl, Bool.and_true, Nat.reduceLeDiff, Nat.reduceAdd, Nat.reduceLT, Nat.reduceEqDiff, if_true, if_false, true_and, and_true, ms_rt, List.cons.injEq, exists_eq_left, exists_eq_right, exists_and_left, exists_and_right, ms_one, ite_true, ite_false, reduceIte, imp_self, Nat.zero_add, Nat.add_zero, zero_le_any, Nat.le_refl, Int.zero_add, true_or, or_true, false_implies, Int.reduceLE, Int.reduceLT, Int.reduceNeg, Int.reduceAdd, Int.reduceSub, Int.reduceMul, Int.reduceEq, not_true, not_false_iff, and_self, implies_true, false_and, and_false, or_false, false_or, bX5_halves_0, bX5_halves_1, bX5_halves_2, bX5_halves_3, bX5_halves_4, bX5_halves_5, bX5_halves_6, bX5_halves_7, bX5_halves_8, bX5_halves_9, bX5_halves_100, lX5_halves_0, lX5_halves_1, lX5_halves_2, lX5_halves_3, lX5_halves_4, lX5_halves_5, lX5_halves_6, lX5_halves_7, lX5_halves_8, lX5_halves_9, lX5_halves_100, qX5_halves, sh_b, hR2, ar_39]
  refine m_lowestBy hv hc (by omega) ?_
  simp only [sq_c, jp_s, jp_c, rc_0, rc_s, ms_ex, o_iload, o_aload, o_istore, o_astore, o_iinc, o_bin, o_div, o_rem, o_neg, o_and, o_shl, o_shr, o_dup, o_pop, o_dup2, o_if, o_icmp, o_switch, o_sw, o_get, o_put, o_iald, o_iast, o_zald, o_zast, o_aald, o_aast, o_len, ob_s, ob_n, o_call, o_max, o_min, o_copy, o_obj, o_lpush, o_ladd, o_lcmp, o_iret, o_lret, o_vret, i1_c, l1_c, r1_c, st_g0, st_g1, st_g2, st_g3, st_g4, st_g5, st_g6, st_g7, st_g8, st_g9, st_s0, st_s1, st_s2, st_s3, st_s4, st_s5, st_s6, st_s7, st_s8, st_s9, List.length_cons, List.length_nil, List.take_succ_cons, List.take_zero, List.drop_succ_cons, List.drop_zero, List.reverse_cons, List.reverse_nil, List.nil_append, List.cons_append, List.all_cons, List.all_nil, ms_nl, Bool.and_true, Nat.reduceLeDiff, Nat.reduceAdd, Nat.reduceLT, Nat.reduceEqDiff, if_true, if_false, true_and, and_true, ms_rt, List.cons.injEq, exists_eq_left, exists_eq_right, exists_and_left, exists_and_right, ms_one, ite_true, ite_false, reduceIte, imp_self, Nat.zero_add, Nat.add_zero, zero_le_any, Nat.le_refl, Int.zero_add, true_or, or_true, false_implies, Int.reduceLE, Int.reduceLT, Int.reduceNeg, Int.reduceAdd, Int.reduceSub, Int.reduceMul, Int.reduceEq, not_true, not_false_iff, and_self, implies_true, false_and, and_false, or_false, false_or, bX5_halves_0, bX5_halves_1, bX5_halves_2, bX5_halves_3, bX5_halves_4, bX5_halves_5, bX5_halves_6, bX5_halves_7, bX5_halves_8, bX5_halves_9, bX5_halves_100, lX5_halves_0, lX5_halves_1, lX5_halves_2, lX5_halves_3, lX5_halves_4, lX5_halves_5, lX5_halves_6, lX5_halves_7, lX5_halves_8, lX5_halves_9, lX5_halves_100, qX5_halves, sh_b, hR2, ar_39]
  refine m_lowestBy hv hc (by omega) ?_
  simp only [sq_c, jp_s, jp_c, rc_0, rc_s, ms_ex, o_iload, o_aload, o_istore, o_astore, o_iinc, o_bin, o_div, o_rem, o_neg, o_and, o_shl, o_shr, o_dup, o_pop, o_dup2, o_if, o_icmp, o_switch, o_sw, o_get, o_put, o_iald, o_iast, o_zald, o_zast, o_aald, o_aast, o_len, ob_s, ob_n, o_call, o_max, o_min, o_copy, o_obj, o_lpush, o_ladd, o_lcmp, o_iret, o_lret, o_vret, i1_c, l1_c, r1_c, st_g0, st_g1, st_g2, st_g3, st_g4, st_g5, st_g6, st_g7, st_g8, st_g9, st_s0, st_s1, st_s2, st_s3, st_s4, st_s5, st_s6, st_s7, st_s8, st_s9, List.length_cons, List.length_nil, List.take_succ_cons, List.take_zero, List.drop_succ_cons, List.drop_zero, List.reverse_cons, List.reverse_nil, List.nil_append, List.cons_append, List.all_cons, List.all_nil, ms_nl, Bool.and_true, Nat.reduceLeDiff, Nat.reduceAdd, Nat.reduceLT, Nat.reduceEqDiff, if_true, if_false, true_and, and_true, ms_rt, List.cons.injEq, exists_eq_left, exists_eq_right, exists_and_left, exists_and_right, ms_one, ite_true, ite_false, reduceIte, imp_self, Nat.zero_add, Nat.add_zero, zero_le_any, Nat.le_refl, Int.zero_add, true_or, or_true, false_implies, Int.reduceLE, Int.reduceLT, Int.reduceNeg, Int.reduceAdd, Int.reduceSub, Int.reduceMul, Int.reduceEq, not_true, not_false_iff, and_self, implies_true, false_and, and_false, or_false, false_or, bX5_halves_0, bX5_halves_1, bX5_halves_2, bX5_halves_3, bX5_halves_4, bX5_halves_5, bX5_halves_6, bX5_halves_7, bX5_halves_8, bX5_halves_9, bX5_halves_100, lX5_halves_0, lX5_halves_1, lX5_halves_2, lX5_halves_3, lX5_halves_4, lX5_halves_5, lX5_halves_6, lX5_halves_7, lX5_halves_8, lX5_halves_9, lX5_halves_100, qX5_halves, sh_b, hR2, ar_39]
  have b0 := cl_b (mT h - h 40 c - h 39 0)
  have b1 := cl_b (mT h - h 40 c - h 39 1)
  exact m_halves_lp hR (P := mH h c) q 4 _ _ 0 _ _ b0 b1 (by show _ ≤ (15 : Int) ∧ _ ≤ (15 : Int); omega) (by omega) rfl
/-- what a column answers -/
def mCol (h : ms_H) (c w : Int) : Int :=
  if w = 0 then h 40 c else if w = 1 then h 41 c else if w = 2 then h 42 c else if w = 3 then cl (mT h - h 40 c) else if w = 4 then cl (mT h - h 40 c - h 38 3) else if w = 5 then (if h 46 c = 0 then -9 else h 46 c - 1) else if w = 8 then (mH h c).1 else if w = 9 then (mH h c).2 else cl (mT h - h 40 c - h 39 (w - 6))
def mColH (h : ms_H) (c w : Int) : ms_H := if w = 8 ∨ w = 9 then hs h 38 30 (mH h c).2 else h
theorem m_column {d : Nat} {c w : Int} {h : ms_H} {Q : ms_Q} (hv : MV h) (hst : ∀ i, 0 ≤ i → i < 8 → 0 ≤ h 46 i ∧ h 46 i ≤ 9) (hw : rg w) (q1 : ¬ ((0 ≤ c ∧ c < h 38 0) ∧ 0 ≤ w ∧ w ≤ 9) → Q (some (mI (-1))) SH h) (q2 : (0 ≤ c ∧ c < h 38 0) → 0 ≤ w → w ≤ 9 → Q (some (mI (mCol h c w))) SH (mColH h c w)) : ms_Ok ms_P (d + 6) 118 [mR 38, mI c, mI w] SH (h) Q := by
  refine ok_in (k := 30) MX5_column rfl rfl ?_
  show sq (ms_Ok ms_P (d + 5)) ms_X1 MX5_column Q 30 (M_bl MX5_column 0) [mR 38, mI c, mI w] [] (SH, 0, 0) (h)
  have hR := hv.1
  have hb := hv.2.1.1
  have hg := hv.2.1.2.2.2.1
  unfold RM at hR
  simp only [sq_c, jp_s, jp_c, rc_0, rc_s, ms_ex, o_iload, o_aload, o_istore, o_astore, o_iinc, o_bin, o_div, o_rem, o_neg, o_and, o_shl, o_shr, o_dup, o_pop, o_dup2, o_if, o_icmp, o_switch, o_sw, o_get, o_put, o_iald, o_iast, o_zald, o_zast, o_aald, o_aast, o_len, ob_s, ob_n, o_call, o_max, o_min, o_copy, o_obj, o_lpush, o_ladd, o_lcmp, o_iret, o_lret, o_vret, i1_c, l1_c, r1_c, st_g0, st_g1, st_g2, st_g3, st_g4, st_g5, st_g6, st_g7, st_g8, st_g9, st_s0, st_s1, st_s2, st_s3, st_s4, st_s5, st_s6, st_s7, st_s8, st_s9, List.length_cons, List.length_nil, List.take_succ_cons, List.take_zero, List.drop_succ_cons, List.drop_zero, List.reverse_cons, List.reverse_nil, List.nil_append, List.cons_append, List.all_cons, List.all_nil, ms_nl, Bool.and_true, Nat.reduceLeDiff, Nat.reduceAdd, Nat.reduceLT, Nat.reduceEqDiff, if_true, if_false, true_and, and_true, ms_rt, List.cons.injEq, exists_eq_left, exists_eq_right, exists_and_left, exists_and_right, ms_one, ite_true, ite_false, reduceIte, imp_self, Nat.zero_add, Nat.add_zero, zero_le_any, Nat.le_refl, Int.zero_add, true_or, or_true, false_implies, Int.reduceLE, Int.reduceLT, Int.reduceNeg, Int.reduceAdd, Int.reduceSub, Int.reduceMul, Int.reduceEq, not_true, not_false_iff, and_self, implies_true, false_and, and_false, or_false, false_or, bX5_column_0, bX5_column_1, bX5_column_2, bX5_column_3, bX5_column_4, bX5_column_5, bX5_column_6, bX5_column_7, bX5_column_8, bX5_column_9, bX5_column_10, bX5_column_11, bX5_column_12, bX5_column_13, lX5_column_0, lX5_column_1, lX5_column_2, lX5_column_3, lX5_column_4, lX5_column_5, lX5_column_6, lX5_column_7, lX5_column_8, lX5_column_9, lX5_column_10, lX5_column_11, lX5_column_12, lX5_column_13, qX5_column, sh_b, hR]
  refine m_isColumn hv (fun r hr => ?_)
  simp only [sq_c, jp_s, jp_c, rc_0, rc_s, ms_ex, o_iload, o_aload, o_istore, o_astore, o_iinc, o_bin, o_div, o_rem, o_neg, o_and, o_shl, o_shr, o_dup, o_pop, o_dup2, o_if, o_icmp, o_switch, o_sw, o_get, o_put, o_iald, o_iast, o_zald, o_zast, o_aald, o_aast, o_len, ob_s, ob_n, o_call, o_max, o_min, o_copy, o_obj, o_lpush, o_ladd, o_lcmp, o_iret, o_lret, o_vret, i1_c, l1_c, r1_c, st_g0, st_g1, st_g2, st_g3, st_g4, st_g5, st_g6, st_g7, st_g8, st_g9, st_s0, st_s1, st_s2, st_s3, st_s4, st_s5, st_s6, st_s7, st_s8, st_s9, List.length_cons, List.length_nil, List.take_succ_cons, List.take_zero, List.drop_succ_cons, List.drop_zero, List.reverse_cons, List.reverse_nil, List.nil_append, List.cons_append, List.all_cons, List.all_nil, ms_nl, Bool.and_true, Nat.reduceLeDiff, Nat.reduceAdd, Nat.reduceLT, Nat.reduceEqDiff, if_true, if_false, true_and, and_true, ms_rt, List.cons.injEq, exists_eq_left, exists_eq_right, exists_and_left, exists_and_right, ms_one, ite_true, ite_false, reduceIte, imp_self, Nat.zero_add, Nat.add_zero, zero_le_any, Nat.le_refl, Int.zero_add, true_or, or_true, false_implies, Int.reduceLE, Int.reduceLT, Int.reduceNeg, Int.reduceAdd, Int.reduceSub, Int.reduceMul, Int.reduceEq, not_true, not_false_iff, and_self, implies_true, false_and, and_false, or_false, false_or, bX5_column_0, bX5_column_1, bX5_column_2, bX5_column_3, bX5_column_4, bX5_column_5, bX5_column_6, bX5_column_7, bX5_column_8, bX5_column_9, bX5_column_10, bX5_column_11, bX5_column_12, bX5_column_13, lX5_column_0, lX5_column_1, lX5_column_2, lX5_column_3, lX5_column_4, lX5_column_5, lX5_column_6, lX5_column_7, lX5_column_8, lX5_column_9, lX5_column_10, lX5_column_11, lX5_column_12, lX5_column_13, qX5_column, sh_b, hR]
  refine ⟨fun h1 => ?_, fun h1 => ?_⟩
  · refine q1 (fun z => ?_)
    rw [if_pos z.1] at hr
    omega
  · have hc : 0 ≤ c ∧ c < h 38 0 := by
      by_cases z : 0 ≤ c ∧ c < h 38 0
      · exact z
      · rw [if_neg z] at hr; exact absurd hr h1
    refine m_in (fun r2 hr2 => ?_)
    simp only [sq_c, jp_s, jp_c, rc_0, rc_s, ms_ex, o_iload, o_aload, o_istore, o_astore, o_iinc, o_bin, o_div, o_rem, o_neg, o_and, o_shl, o_shr, o_dup, o_pop, o_dup2, o_if, o_icmp, o_switch, o_sw, o_get, o_put, o_iald, o_iast, o_zald, o_zast, o_aald, o_aast, o_len, ob_s, ob_n, o_call, o_max, o_min, o_copy, o_obj, o_lpush, o_ladd, o_lcmp, o_iret, o_lret, o_vret, i1_c, l1_c, r1_c, st_g0, st_g1, st_g2, st_g3, st_g4, st_g5, st_g6, st_g7, st_g8, st_g9, st_s0, st_s1, st_s2, st_s3, st_s4, st_s5, st_s6, st_s7, st_s8, st_s9, List.length_cons, List.length_nil, List.take_succ_cons, List.take_zero, List.drop_succ_cons, List.drop_zero, List.reverse_cons, List.reverse_nil, List.nil_append, List.cons_append, List.all_cons, List.all_nil, ms_nl, Bool.and_true, Nat.reduceLeDiff, Nat.reduceAdd, Nat.reduceLT, Nat.reduceEqDiff, if_true, if_false, true_and, and_true, ms_rt, List.cons.injEq, exists_eq_left, exists_eq_right, exists_and_left, exists_and_right, ms_one, ite_true, ite_false, reduceIte, imp_self, Nat.zero_add, Nat.add_zero, zero_le_any, Nat.le_refl, Int.zero_add, true_or, or_true, false_implies, Int.reduceLE, Int.reduceLT, Int.reduceNeg, Int.reduceAdd, Int.reduceSub, Int.reduceMul, Int.reduceEq, not_true, not_false_iff, and_self, implies_true, false_and, and_false, or_false, false_or, bX5_column_0, bX5_column_1, bX5_column_2, bX5_column_3, bX5_column_4, bX5_column_5, bX5_column_6, bX5_column_7, bX5_column_8, bX5_column_9, bX5_column_10, bX5_column_11, bX5_column_12, bX5_column_13, lX5_column_0, lX5_column_1, lX5_column_2, lX5_column_3, lX5_column_4, lX5_column_5, lX5_column_6, lX5_column_7, lX5_column_8, lX5_column_9, lX5_column_10, lX5_column_11, lX5_column_12, lX5_column_13, qX5_column, sh_b, hR, ar_40, ar_41, ar_42, ar_46, ar_39]
    refine ⟨fun h2 => ?_, fun h2 => ?_⟩
    · have hw2 : 0 ≤ w ∧ w ≤ 9 := by
        by_cases z : 0 ≤ w ∧ w ≤ 9
        · exact z
        · rw [if_neg z] at hr2; exact absurd hr2 h2
      have q2 := q2 hc hw2.1 hw2.2
      unfold mCol mColH at q2
      have hs0 := hst c hc.1 (by omega)
      refine ⟨fun e => ?_, fun e0 => ⟨fun e => ?_, fun e1 => ⟨fun e => ?_, fun e2 => ⟨fun e => ?_, fun e3 => ⟨fun e => ?_, fun e4 => ⟨fun e => ?_, fun e5 => ⟨fun e => ?_, fun e6 => ⟨fun e => ?_, fun e7 => ⟨fun e => ?_, fun e8 => ⟨fun e => ?_, fun e9 => ?_⟩⟩⟩⟩⟩⟩⟩⟩⟩⟩
      · subst e; exact ⟨by omega, by omega, q2⟩
      · subst e; exact ⟨by omega, by omega, q2⟩
      · subst e; exact ⟨by omega, by omega, q2⟩
      · subst e
        refine m_edge hv hc ?_
        simp only [sq_c, jp_s, jp_c, rc_0, rc_s, ms_ex, o_iload, o_aload, o_istore, o_astore, o_iinc, o_bin, o_div, o_rem, o_neg, o_and, o_shl, o_shr, o_dup, o_pop, o_dup2, o_if, o_icmp, o_switch, o_sw, o_get, o_put, o_iald, o_iast, o_zald, o_zast, o_aald, o_aast, o_len, ob_s, ob_n, o_call, o_max, o_min, o_copy, o_obj, o_lpush, o_ladd, o_lcmp, o_iret, o_lret, o_vret, i1_c, l1_c, r1_c, st_g0, st_g1, st_g2, st_g3, st_g4, st_g5, st_g6, st_g7, st_g8, st_g9, st_s0, st_s1, st_s2, st_s3, st_s4, st_s5, st_s6, st_s7, st_s8, st_s9, List.length_cons, List.length_nil, List.take_succ_cons, List.take_zero, List.drop_succ_cons, List.drop_zero, List.reverse_cons, List.reverse_nil, List.nil_append, List.cons_append, List.all_cons, List.all_nil, ms_nl, Bool.and_true, Nat.reduceLeDiff, Nat.reduceAdd, Nat.reduceLT, Nat.reduceEqDiff, if_true, if_false, true_and, and_true, ms_rt, List.cons.injEq, exists_eq_left, exists_eq_right, exists_and_left, exists_and_right, ms_one, ite_true, ite_false, reduceIte, imp_self, Nat.zero_add, Nat.add_zero, zero_le_any, Nat.le_refl, Int.zero_add, true_or, or_true, false_implies, Int.reduceLE, Int.reduceLT, Int.reduceNeg, Int.reduceAdd, Int.reduceSub, Int.reduceMul, Int.reduceEq, not_true, not_false_iff, and_self, implies_true, false_and, and_false, or_false, false_or, bX5_column_0, bX5_column_1, bX5_column_2, bX5_column_3, bX5_column_4, bX5_column_5, bX5_column_6, bX5_column_7, bX5_column_8, bX5_column_9, bX5_column_10, bX5_column_11, bX5_column_12, bX5_column_13, lX5_column_0, lX5_column_1, lX5_column_2, lX5_column_3, lX5_column_4, lX5_column_5, lX5_column_6, lX5_column_7, lX5_column_8, lX5_column_9, lX5_column_10, lX5_column_11, lX5_column_12, lX5_column_13, qX5_column, sh_b, hR]
        exact q2
      · subst e
        refine m_wet hv hc ?_
        simp only [sq_c, jp_s, jp_c, rc_0, rc_s, ms_ex, o_iload, o_aload, o_istore, o_astore, o_iinc, o_bin, o_div, o_rem, o_neg, o_and, o_shl, o_shr, o_dup, o_pop, o_dup2, o_if, o_icmp, o_switch, o_sw, o_get, o_put, o_iald, o_iast, o_zald, o_zast, o_aald, o_aast, o_len, ob_s, ob_n, o_call, o_max, o_min, o_copy, o_obj, o_lpush, o_ladd, o_lcmp, o_iret, o_lret, o_vret, i1_c, l1_c, r1_c, st_g0, st_g1, st_g2, st_g3, st_g4, st_g5, st_g6, st_g7, st_g8, st_g9, st_s0, st_s1, st_s2, st_s3, st_s4, st_s5, st_s6, st_s7, st_s8, st_s9, List.length_cons, List.length_nil, List.take_succ_cons, List.take_zero, List.drop_succ_cons, List.drop_zero, List.reverse_cons, List.reverse_nil, List.nil_append, List.cons_append, List.all_cons, List.all_nil, ms_nl, Bool.and_true, Nat.reduceLeDiff, Nat.reduceAdd, Nat.reduceLT, Nat.reduceEqDiff, if_true, if_false, true_and, and_true, ms_rt, List.cons.injEq, exists_eq_left, exists_eq_right, exists_and_left, exists_and_right, ms_one, ite_true, ite_false, reduceIte, imp_self, Nat.zero_add, Nat.add_zero, zero_le_any, Nat.le_refl, Int.zero_add, true_or, or_true, false_implies, Int.reduceLE, Int.reduceLT, Int.reduceNeg, Int.reduceAdd, Int.reduceSub, Int.reduceMul, Int.reduceEq, not_true, not_false_iff, and_self, implies_true, false_and, and_false, or_false, false_or, bX5_column_0, bX5_column_1, bX5_column_2, bX5_column_3, bX5_column_4, bX5_column_5, bX5_column_6, bX5_column_7, bX5_column_8, bX5_column_9, bX5_column_10, bX5_column_11, bX5_column_12, bX5_column_13, lX5_column_0, lX5_column_1, lX5_column_2, lX5_column_3, lX5_column_4, lX5_column_5, lX5_column_6, lX5_column_7, lX5_column_8, lX5_column_9, lX5_column_10, lX5_column_11, lX5_column_12, lX5_column_13, qX5_column, sh_b, hR]
        exact q2
      · subst e
        refine ⟨by omega, by omega, fun h3 => ?_, fun h3 => ?_⟩
        · refine ⟨by omega, by omega, rg_of (by omega) (by omega), ?_⟩
          rw [if_neg (by decide), if_neg (by decide), if_neg (by decide), if_neg (by decide), if_neg (by decide), if_pos rfl, if_neg h3, if_neg (by decide)] at q2
          exact q2
        · rw [if_neg (by decide), if_neg (by decide), if_neg (by decide), if_neg (by decide), if_neg (by decide), if_pos rfl, if_pos h3, if_neg (by decide)] at q2
          exact q2
      · subst e
        have hh := MV_hand hv (i := 6 - 6) (by omega) (by omega)
        refine ⟨rg_of (by omega) (by omega), by omega, by omega, ?_⟩
        refine m_lowestBy hv hc (by omega) ?_
        simp only [sq_c, jp_s, jp_c, rc_0, rc_s, ms_ex, o_iload, o_aload, o_istore, o_astore, o_iinc, o_bin, o_div, o_rem, o_neg, o_and, o_shl, o_shr, o_dup, o_pop, o_dup2, o_if, o_icmp, o_switch, o_sw, o_get, o_put, o_iald, o_iast, o_zald, o_zast, o_aald, o_aast, o_len, ob_s, ob_n, o_call, o_max, o_min, o_copy, o_obj, o_lpush, o_ladd, o_lcmp, o_iret, o_lret, o_vret, i1_c, l1_c, r1_c, st_g0, st_g1, st_g2, st_g3, st_g4, st_g5, st_g6, st_g7, st_g8, st_g9, st_s0, st_s1, st_s2, st_s3, st_s4, st_s5, st_s6, st_s7, st_s8, st_s9, List.length_cons, List.length_nil, List.take_succ_cons, List.take_zero, List.drop_succ_cons, List.drop_zero, List.reverse_cons, List.reverse_nil, List.nil_append, List.cons_append, List.all_cons, List.all_nil, ms_nl, Bool.and_true, Nat.reduceLeDiff, Nat.reduceAdd, Nat.reduceLT, Nat.reduceEqDiff, if_true, if_false, true_and, and_true, ms_rt, List.cons.injEq, exists_eq_left, exists_eq_right, exists_and_left, exists_and_right, ms_one, ite_true, ite_false, reduceIte, imp_self, Nat.zero_add, Nat.add_zero, zero_le_any, Nat.le_refl, Int.zero_add, true_or, or_true, false_implies, Int.reduceLE, Int.reduceLT, Int.reduceNeg, Int.reduceAdd, Int.reduceSub, Int.reduceMul, Int.reduceEq, not_true, not_false_iff, and_self, implies_true, false_and, and_false, or_false, false_or, bX5_column_0, bX5_column_1, bX5_column_2, bX5_column_3, bX5_column_4, bX5_column_5, bX5_column_6, bX5_column_7, bX5_column_8, bX5_column_9, bX5_column_10, bX5_column_11, bX5_column_12, bX5_column_13, lX5_column_0, lX5_column_1, lX5_column_2, lX5_column_3, lX5_column_4, lX5_column_5, lX5_column_6, lX5_column_7, lX5_column_8, lX5_column_9, lX5_column_10, lX5_column_11, lX5_column_12, lX5_column_13, qX5_column, sh_b, hR]
        exact q2
      · subst e
        have hh := MV_hand hv (i := 7 - 6) (by omega) (by omega)
        refine ⟨rg_of (by omega) (by omega), by omega, by omega, ?_⟩
        refine m_lowestBy hv hc (by omega) ?_
        simp only [sq_c, jp_s, jp_c, rc_0, rc_s, ms_ex, o_iload, o_aload, o_istore, o_astore, o_iinc, o_bin, o_div, o_rem, o_neg, o_and, o_shl, o_shr, o_dup, o_pop, o_dup2, o_if, o_icmp, o_switch, o_sw, o_get, o_put, o_iald, o_iast, o_zald, o_zast, o_aald, o_aast, o_len, ob_s, ob_n, o_call, o_max, o_min, o_copy, o_obj, o_lpush, o_ladd, o_lcmp, o_iret, o_lret, o_vret, i1_c, l1_c, r1_c, st_g0, st_g1, st_g2, st_g3, st_g4, st_g5, st_g6, st_g7, st_g8, st_g9, st_s0, st_s1, st_s2, st_s3, st_s4, st_s5, st_s6, st_s7, st_s8, st_s9, List.length_cons, List.length_nil, List.take_succ_cons, List.take_zero, List.drop_succ_cons, List.drop_zero, List.reverse_cons, List.reverse_nil, List.nil_append, List.cons_append, List.all_cons, List.all_nil, ms_nl, Bool.and_true, Nat.reduceLeDiff, Nat.reduceAdd, Nat.reduceLT, Nat.reduceEqDiff, if_true, if_false, true_and, and_true, ms_rt, List.cons.injEq, exists_eq_left, exists_eq_right, exists_and_left, exists_and_right, ms_one, ite_true, ite_false, reduceIte, imp_self, Nat.zero_add, Nat.add_zero, zero_le_any, Nat.le_refl, Int.zero_add, true_or, or_true, false_implies, Int.reduceLE, Int.reduceLT, Int.reduceNeg, Int.reduceAdd, Int.reduceSub, Int.reduceMul, Int.reduceEq, not_true, not_false_iff, and_self, implies_true, false_and, and_false, or_false, false_or, bX5_column_0, bX5_column_1, bX5_column_2, bX5_column_3, bX5_column_4, bX5_column_5, bX5_column_6, bX5_column_7, bX5_column_8, bX5_column_9, bX5_column_10, bX5_column_11, bX5_column_12, bX5_column_13, lX5_column_0, lX5_column_1, lX5_column_2, lX5_column_3, lX5_column_4, lX5_column_5, lX5_column_6, lX5_column_7, lX5_column_8, lX5_column_9, lX5_column_10, lX5_column_11, lX5_column_12, lX5_column_13, qX5_column, sh_b, hR]
        exact q2
      · subst e
        refine m_halves hv hc ?_
        simp only [sq_c, jp_s, jp_c, rc_0, rc_s, ms_ex, o_iload, o_aload, o_istore, o_astore, o_iinc, o_bin, o_div, o_rem, o_neg, o_and, o_shl, o_shr, o_dup, o_pop, o_dup2, o_if, o_icmp, o_switch, o_sw, o_get, o_put, o_iald, o_iast, o_zald, o_zast, o_aald, o_aast, o_len, ob_s, ob_n, o_call, o_max, o_min, o_copy, o_obj, o_lpush, o_ladd, o_lcmp, o_iret, o_lret, o_vret, i1_c, l1_c, r1_c, st_g0, st_g1, st_g2, st_g3, st_g4, st_g5, st_g6, st_g7, st_g8, st_g9, st_s0, st_s1, st_s2, st_s3, st_s4, st_s5, st_s6, st_s7, st_s8, st_s9, List.length_cons, List.length_nil, List.take_succ_cons, List.take_zero, List.drop_succ_cons, List.drop_zero, List.reverse_cons, List.reverse_nil, List.nil_append, List.cons_append, List.all_cons, List.all_nil, ms_nl, Bool.and_true, Nat.reduceLeDiff, Nat.reduceAdd, Nat.reduceLT, Nat.reduceEqDiff, if_true, if_false, true_and, and_true, ms_rt, List.cons.injEq, exists_eq_left, exists_eq_right, exists_and_left, exists_and_right, ms_one, ite_true, ite_false, reduceIte, imp_self, Nat.zero_add, Nat.add_zero, zero_le_any, Nat.le_refl, Int.zero_add, true_or, or_true, false_implies, Int.reduceLE, Int.reduceLT, Int.reduceNeg, Int.reduceAdd, Int.reduceSub, Int.reduceMul, Int.reduceEq, not_true, not_false_iff, and_self, implies_true, false_and, and_false, or_false, false_or, bX5_column_0, bX5_column_1, bX5_column_2, bX5_column_3, bX5_column_4, bX5_column_5, bX5_column_6, bX5_column_7, bX5_column_8, bX5_column_9, bX5_column_10, bX5_column_11, bX5_column_12, bX5_column_13, lX5_column_0, lX5_column_1, lX5_column_2, lX5_column_3, lX5_column_4, lX5_column_5, lX5_column_6, lX5_column_7, lX5_column_8, lX5_column_9, lX5_column_10, lX5_column_11, lX5_column_12, lX5_column_13, qX5_column, sh_b, hR]
        exact q2
      · subst e
        refine m_halves hv hc ?_
        simp only [sq_c, jp_s, jp_c, rc_0, rc_s, ms_ex, o_iload, o_aload, o_istore, o_astore, o_iinc, o_bin, o_div, o_rem, o_neg, o_and, o_shl, o_shr, o_dup, o_pop, o_dup2, o_if, o_icmp, o_switch, o_sw, o_get, o_put, o_iald, o_iast, o_zald, o_zast, o_aald, o_aast, o_len, ob_s, ob_n, o_call, o_max, o_min, o_copy, o_obj, o_lpush, o_ladd, o_lcmp, o_iret, o_lret, o_vret, i1_c, l1_c, r1_c, st_g0, st_g1, st_g2, st_g3, st_g4, st_g5, st_g6, st_g7, st_g8, st_g9, st_s0, st_s1, st_s2, st_s3, st_s4, st_s5, st_s6, st_s7, st_s8, st_s9, List.length_cons, List.length_nil, List.take_succ_cons, List.take_zero, List.drop_succ_cons, List.drop_zero, List.reverse_cons, List.reverse_nil, List.nil_append, List.cons_append, List.all_cons, List.all_nil, ms_nl, Bool.and_true, Nat.reduceLeDiff, Nat.reduceAdd, Nat.reduceLT, Nat.reduceEqDiff, if_true, if_false, true_and, and_true, ms_rt, List.cons.injEq, exists_eq_left, exists_eq_right, exists_and_left, exists_and_right, ms_one, ite_true, ite_false, reduceIte, imp_self, Nat.zero_add, Nat.add_zero, zero_le_any, Nat.le_refl, Int.zero_add, true_or, or_true, false_implies, Int.reduceLE, Int.reduceLT, Int.reduceNeg, Int.reduceAdd, Int.reduceSub, Int.reduceMul, Int.reduceEq, not_true, not_false_iff, and_self, implies_true, false_and, and_false, or_false, false_or, bX5_column_0, bX5_column_1, bX5_column_2, bX5_column_3, bX5_column_4, bX5_column_5, bX5_column_6, bX5_column_7, bX5_column_8, bX5_column_9, bX5_column_10, bX5_column_11, bX5_column_12, bX5_column_13, lX5_column_0, lX5_column_1, lX5_column_2, lX5_column_3, lX5_column_4, lX5_column_5, lX5_column_6, lX5_column_7, lX5_column_8, lX5_column_9, lX5_column_10, lX5_column_11, lX5_column_12, lX5_column_13, qX5_column, sh_b, hR, hs_v]
        exact q2
      · omega
    · refine q1 (fun z => ?_)
      rw [if_pos z.2] at hr2
      omega
end
section
/-! The model: fields, voters, what is now, first. -/
def mField (h : ms_H) (c f w : Int) : Int := if w = 0 then mT h - h 40 c - f else if w = 1 then fl (mT h - h 40 c - f) (h 38 3) else if mT h - h 40 c - f ≤ h 39 (w - 2) then 1 else 0
theorem m_field {d : Nat} {c f w : Int} {h : ms_H} {Q : ms_Q} (hv : MV h) (hw : rg w) (q1 : ¬ ((0 ≤ c ∧ c < h 38 0) ∧ (0 ≤ f ∧ f ≤ 7) ∧ 0 ≤ w ∧ w ≤ 3) → Q (some (mI (-1000000))) SH h) (q2 : (0 ≤ c ∧ c < h 38 0) → (0 ≤ f ∧ f ≤ 7) → (0 ≤ w ∧ w ≤ 3) → Q (some (mI (mField h c f w))) SH h) : ms_Ok ms_P (d + 5) 120 [mR 38, mI c, mI f, mI w] SH (h) Q := by
  refine ok_in (k := 30) MX5_field rfl rfl ?_
  show sq (ms_Ok ms_P (d + 4)) ms_X1 MX5_field Q 30 (M_bl MX5_field 0) [mR 38, mI c, mI f, mI w] [] (SH, 0, 0) (h)
  have hR := hv.1
  unfold RM at hR
  simp only [sq_c, jp_s, jp_c, rc_0, rc_s, ms_ex, o_iload, o_aload, o_istore, o_astore, o_iinc, o_bin, o_div, o_rem, o_neg, o_and, o_shl, o_shr, o_dup, o_pop, o_dup2, o_if, o_icmp, o_switch, o_sw, o_get, o_put, o_iald, o_iast, o_zald, o_zast, o_aald, o_aast, o_len, ob_s, ob_n, o_call, o_max, o_min, o_copy, o_obj, o_lpush, o_ladd, o_lcmp, o_iret, o_lret, o_vret, i1_c, l1_c, r1_c, st_g0, st_g1, st_g2, st_g3, st_g4, st_g5, st_g6, st_g7, st_g8, st_g9, st_s0, st_s1, st_s2, st_s3, st_s4, st_s5, st_s6, st_s7, st_s8, st_s9, List.length_cons, List.length_nil, List.take_succ_cons, List.take_zero, List.drop_succ_cons, List.drop_zero, List.reverse_cons, List.reverse_nil, List.nil_append, List.cons_append, List.all_cons, List.all_nil, ms_nl, Bool.and_true, Nat.reduceLeDiff, Nat.reduceAdd, Nat.reduceLT, Nat.reduceEqDiff, if_true, if_false, true_and, and_true, ms_rt, List.cons.injEq, exists_eq_left, exists_eq_right, exists_and_left, exists_and_right, ms_one, ite_true, ite_false, reduceIte, imp_self, Nat.zero_add, Nat.add_zero, zero_le_any, Nat.le_refl, Int.zero_add, true_or, or_true, false_implies, Int.reduceLE, Int.reduceLT, Int.reduceNeg, Int.reduceAdd, Int.reduceSub, Int.reduceMul, Int.reduceEq, not_true, not_false_iff, and_self, implies_true, false_and, and_false, or_false, false_or, bX5_field_0, bX5_field_1, bX5_field_2, bX5_field_3, bX5_field_4, bX5_field_5, bX5_field_6, lX5_field_0, lX5_field_1, lX5_field_2, lX5_field_3, lX5_field_4, lX5_field_5, lX5_field_6, qX5_field, sh_b, hR]
  refine m_isColumn hv (fun r hr => ?_)
  simp only [sq_c, jp_s, jp_c, rc_0, rc_s, ms_ex, o_iload, o_aload, o_istore, o_astore, o_iinc, o_bin, o_div, o_rem, o_neg, o_and, o_shl, o_shr, o_dup, o_pop, o_dup2, o_if, o_icmp, o_switch, o_sw, o_get, o_put, o_iald, o_iast, o_zald, o_zast, o_aald, o_aast, o_len, ob_s, ob_n, o_call, o_max, o_min, o_copy, o_obj, o_lpush, o_ladd, o_lcmp, o_iret, o_lret, o_vret, i1_c, l1_c, r1_c, st_g0, st_g1, st_g2, st_g3, st_g4, st_g5, st_g6, st_g7, st_g8, st_g9, st_s0, st_s1, st_s2, st_s3, st_s4, st_s5, st_s6, st_s7, st_s8, st_s9, List.length_cons, List.length_nil, List.take_succ_cons, List.take_zero, List.drop_succ_cons, List.drop_zero, List.reverse_cons, List.reverse_nil, List.nil_append, List.cons_append, List.all_cons, List.all_nil, ms_nl, Bool.and_true, Nat.reduceLeDiff, Nat.reduceAdd, Nat.reduceLT, Nat.reduceEqDiff, if_true, if_false, true_and, and_true, ms_rt, List.cons.injEq, exists_eq_left, exists_eq_right, exists_and_left, exists_and_right, ms_one, ite_true, ite_false, reduceIte, imp_self, Nat.zero_add, Nat.add_zero, zero_le_any, Nat.le_refl, Int.zero_add, true_or, or_true, false_implies, Int.reduceLE, Int.reduceLT, Int.reduceNeg, Int.reduceAdd, Int.reduceSub, Int.reduceMul, Int.reduceEq, not_true, not_false_iff, and_self, implies_true, false_and, and_false, or_false, false_or, bX5_field_0, bX5_field_1, bX5_field_2, bX5_field_3, bX5_field_4, bX5_field_5, bX5_field_6, lX5_field_0, lX5_field_1, lX5_field_2, lX5_field_3, lX5_field_4, lX5_field_5, lX5_field_6, qX5_field, sh_b, hR]
  refine ⟨fun h1 => q1 (fun z => bf hr h1 z.1), fun h1 => ?_⟩
  refine m_isField (fun r2 hr2 => ?_)
  simp only [sq_c, jp_s, jp_c, rc_0, rc_s, ms_ex, o_iload, o_aload, o_istore, o_astore, o_iinc, o_bin, o_div, o_rem, o_neg, o_and, o_shl, o_shr, o_dup, o_pop, o_dup2, o_if, o_icmp, o_switch, o_sw, o_get, o_put, o_iald, o_iast, o_zald, o_zast, o_aald, o_aast, o_len, ob_s, ob_n, o_call, o_max, o_min, o_copy, o_obj, o_lpush, o_ladd, o_lcmp, o_iret, o_lret, o_vret, i1_c, l1_c, r1_c, st_g0, st_g1, st_g2, st_g3, st_g4, st_g5, st_g6, st_g7, st_g8, st_g9, st_s0, st_s1, st_s2, st_s3, st_s4, st_s5, st_s6, st_s7, st_s8, st_s9, List.length_cons, List.length_nil, List.take_succ_cons, List.take_zero, List.drop_succ_cons, List.drop_zero, List.reverse_cons, List.reverse_nil, List.nil_append, List.cons_append, List.all_cons, List.all_nil, ms_nl, Bool.and_true, Nat.reduceLeDiff, Nat.reduceAdd, Nat.reduceLT, Nat.reduceEqDiff, if_true, if_false, true_and, and_true, ms_rt, List.cons.injEq, exists_eq_left, exists_eq_right, exists_and_left, exists_and_right, ms_one, ite_true, ite_false, reduceIte, imp_self, Nat.zero_add, Nat.add_zero, zero_le_any, Nat.le_refl, Int.zero_add, true_or, or_true, false_implies, Int.reduceLE, Int.reduceLT, Int.reduceNeg, Int.reduceAdd, Int.reduceSub, Int.reduceMul, Int.reduceEq, not_true, not_false_iff, and_self, implies_true, false_and, and_false, or_false, false_or, bX5_field_0, bX5_field_1, bX5_field_2, bX5_field_3, bX5_field_4, bX5_field_5, bX5_field_6, lX5_field_0, lX5_field_1, lX5_field_2, lX5_field_3, lX5_field_4, lX5_field_5, lX5_field_6, qX5_field, sh_b, hR]
  refine ⟨fun h2 => q1 (fun z => bf hr2 h2 z.2.1), fun h2 => ?_⟩
  refine m_in (fun r3 hr3 => ?_)
  simp only [sq_c, jp_s, jp_c, rc_0, rc_s, ms_ex, o_iload, o_aload, o_istore, o_astore, o_iinc, o_bin, o_div, o_rem, o_neg, o_and, o_shl, o_shr, o_dup, o_pop, o_dup2, o_if, o_icmp, o_switch, o_sw, o_get, o_put, o_iald, o_iast, o_zald, o_zast, o_aald, o_aast, o_len, ob_s, ob_n, o_call, o_max, o_min, o_copy, o_obj, o_lpush, o_ladd, o_lcmp, o_iret, o_lret, o_vret, i1_c, l1_c, r1_c, st_g0, st_g1, st_g2, st_g3, st_g4, st_g5, st_g6, st_g7, st_g8, st_g9, st_s0, st_s1, st_s2, st_s3, st_s4, st_s5, st_s6, st_s7, st_s8, st_s9, List.length_cons, List.length_nil, List.take_succ_cons, List.take_zero, List.drop_succ_cons, List.drop_zero, List.reverse_cons, List.reverse_nil, List.nil_append, List.cons_append, List.all_cons, List.all_nil, ms_nl, Bool.and_true, Nat.reduceLeDiff, Nat.reduceAdd, Nat.reduceLT, Nat.reduceEqDiff, if_true, if_false, true_and, and_true, ms_rt, List.cons.injEq, exists_eq_left, exists_eq_right, exists_and_left, exists_and_right, ms_one, ite_true, ite_false, reduceIte, imp_self, Nat.zero_add, Nat.add_zero, zero_le_any, Nat.le_refl, Int.zero_add, true_or, or_true, false_implies, Int.reduceLE, Int.reduceLT, Int.reduceNeg, Int.reduceAdd, Int.reduceSub, Int.reduceMul, Int.reduceEq, not_true, not_false_iff, and_self, implies_true, false_and, and_false, or_false, false_or, bX5_field_0, bX5_field_1, bX5_field_2, bX5_field_3, bX5_field_4, bX5_field_5, bX5_field_6, lX5_field_0, lX5_field_1, lX5_field_2, lX5_field_3, lX5_field_4, lX5_field_5, lX5_field_6, qX5_field, sh_b, hR]
  refine ⟨fun h3 => ?_, fun h3 => q1 (fun z => bf hr3 h3 z.2.2)⟩
  have hc := bt hr h1
  have hf := bt hr2 h2
  have hw2 := bt hr3 h3
  have q2 := q2 hc hf hw2
  unfold mField at q2
  refine ⟨fun h4 => ⟨fun h5 => ?_, fun h5 => ?_⟩, fun h4 => ?_⟩
  · refine m_mild hv hc (by omega) ?_
    simp only [sq_c, jp_s, jp_c, rc_0, rc_s, ms_ex, o_iload, o_aload, o_istore, o_astore, o_iinc, o_bin, o_div, o_rem, o_neg, o_and, o_shl, o_shr, o_dup, o_pop, o_dup2, o_if, o_icmp, o_switch, o_sw, o_get, o_put, o_iald, o_iast, o_zald, o_zast, o_aald, o_aast, o_len, ob_s, ob_n, o_call, o_max, o_min, o_copy, o_obj, o_lpush, o_ladd, o_lcmp, o_iret, o_lret, o_vret, i1_c, l1_c, r1_c, st_g0, st_g1, st_g2, st_g3, st_g4, st_g5, st_g6, st_g7, st_g8, st_g9, st_s0, st_s1, st_s2, st_s3, st_s4, st_s5, st_s6, st_s7, st_s8, st_s9, List.length_cons, List.length_nil, List.take_succ_cons, List.take_zero, List.drop_succ_cons, List.drop_zero, List.reverse_cons, List.reverse_nil, List.nil_append, List.cons_append, List.all_cons, List.all_nil, ms_nl, Bool.and_true, Nat.reduceLeDiff, Nat.reduceAdd, Nat.reduceLT, Nat.reduceEqDiff, if_true, if_false, true_and, and_true, ms_rt, List.cons.injEq, exists_eq_left, exists_eq_right, exists_and_left, exists_and_right, ms_one, ite_true, ite_false, reduceIte, imp_self, Nat.zero_add, Nat.add_zero, zero_le_any, Nat.le_refl, Int.zero_add, true_or, or_true, false_implies, Int.reduceLE, Int.reduceLT, Int.reduceNeg, Int.reduceAdd, Int.reduceSub, Int.reduceMul, Int.reduceEq, not_true, not_false_iff, and_self, implies_true, false_and, and_false, or_false, false_or, bX5_field_0, bX5_field_1, bX5_field_2, bX5_field_3, bX5_field_4, bX5_field_5, bX5_field_6, lX5_field_0, lX5_field_1, lX5_field_2, lX5_field_3, lX5_field_4, lX5_field_5, lX5_field_6, qX5_field, sh_b, hR, ar_39]
    rw [if_neg h4, if_neg h5] at q2
    refine ⟨rg_of (by omega) (by omega), by omega, by omega, fun h6 => ?_, fun h6 => ?_⟩
    · rw [if_neg (by omega)] at q2
      exact q2
    · rw [if_pos (by omega)] at q2
      exact q2
  · refine m_falls hv hc (by omega) ?_
    simp only [sq_c, jp_s, jp_c, rc_0, rc_s, ms_ex, o_iload, o_aload, o_istore, o_astore, o_iinc, o_bin, o_div, o_rem, o_neg, o_and, o_shl, o_shr, o_dup, o_pop, o_dup2, o_if, o_icmp, o_switch, o_sw, o_get, o_put, o_iald, o_iast, o_zald, o_zast, o_aald, o_aast, o_len, ob_s, ob_n, o_call, o_max, o_min, o_copy, o_obj, o_lpush, o_ladd, o_lcmp, o_iret, o_lret, o_vret, i1_c, l1_c, r1_c, st_g0, st_g1, st_g2, st_g3, st_g4, st_g5, st_g6, st_g7, st_g8, st_g9, st_s0, st_s1, st_s2, st_s3, st_s4, st_s5, st_s6, st_s7, st_s8, st_s9, List.length_cons, List.length_nil, List.take_succ_cons, List.take_zero, List.drop_succ_cons, List.drop_zero, List.reverse_cons, List.reverse_nil, List.nil_append, List.cons_append, List.all_cons, List.all_nil, ms_nl, Bool.and_true, Nat.reduceLeDiff, Nat.reduceAdd, Nat.reduceLT, Nat.reduceEqDiff, if_true, if_false, true_and, and_true, ms_rt, List.cons.injEq, exists_eq_left, exists_eq_right, exists_and_left, exists_and_right, ms_one, ite_true, ite_false, reduceIte, imp_self, Nat.zero_add, Nat.add_zero, zero_le_any, Nat.le_refl, Int.zero_add, true_or, or_true, false_implies, Int.reduceLE, Int.reduceLT, Int.reduceNeg, Int.reduceAdd, Int.reduceSub, Int.reduceMul, Int.reduceEq, not_true, not_false_iff, and_self, implies_true, false_and, and_false, or_false, false_or, bX5_field_0, bX5_field_1, bX5_field_2, bX5_field_3, bX5_field_4, bX5_field_5, bX5_field_6, lX5_field_0, lX5_field_1, lX5_field_2, lX5_field_3, lX5_field_4, lX5_field_5, lX5_field_6, qX5_field, sh_b, hR]
    rw [if_neg h4, if_pos h5] at q2
    exact q2
  · refine m_mild hv hc (by omega) ?_
    simp only [sq_c, jp_s, jp_c, rc_0, rc_s, ms_ex, o_iload, o_aload, o_istore, o_astore, o_iinc, o_bin, o_div, o_rem, o_neg, o_and, o_shl, o_shr, o_dup, o_pop, o_dup2, o_if, o_icmp, o_switch, o_sw, o_get, o_put, o_iald, o_iast, o_zald, o_zast, o_aald, o_aast, o_len, ob_s, ob_n, o_call, o_max, o_min, o_copy, o_obj, o_lpush, o_ladd, o_lcmp, o_iret, o_lret, o_vret, i1_c, l1_c, r1_c, st_g0, st_g1, st_g2, st_g3, st_g4, st_g5, st_g6, st_g7, st_g8, st_g9, st_s0, st_s1, st_s2, st_s3, st_s4, st_s5, st_s6, st_s7, st_s8, st_s9, List.length_cons, List.length_nil, List.take_succ_cons, List.take_zero, List.drop_succ_cons, List.drop_zero, List.reverse_cons, List.reverse_nil, List.nil_append, List.cons_append, List.all_cons, List.all_nil, ms_nl, Bool.and_true, Nat.reduceLeDiff, Nat.reduceAdd, Nat.reduceLT, Nat.reduceEqDiff, if_true, if_false, true_and, and_true, ms_rt, List.cons.injEq, exists_eq_left, exists_eq_right, exists_and_left, exists_and_right, ms_one, ite_true, ite_false, reduceIte, imp_self, Nat.zero_add, Nat.add_zero, zero_le_any, Nat.le_refl, Int.zero_add, true_or, or_true, false_implies, Int.reduceLE, Int.reduceLT, Int.reduceNeg, Int.reduceAdd, Int.reduceSub, Int.reduceMul, Int.reduceEq, not_true, not_false_iff, and_self, implies_true, false_and, and_false, or_false, false_or, bX5_field_0, bX5_field_1, bX5_field_2, bX5_field_3, bX5_field_4, bX5_field_5, bX5_field_6, lX5_field_0, lX5_field_1, lX5_field_2, lX5_field_3, lX5_field_4, lX5_field_5, lX5_field_6, qX5_field, sh_b, hR]
    rw [if_pos h4] at q2
    exact q2
theorem m_voter {d : Nat} {v w : Int} {h : ms_H} {Q : ms_Q} (hv : MV h) (q1 : ¬ ((0 ≤ v ∧ v < h 38 1) ∧ 0 ≤ w ∧ w ≤ 1) → Q (some (mI (-1))) SH h) (q2 : (0 ≤ v ∧ v < h 38 1) → (0 ≤ w ∧ w ≤ 1) → Q (some (mI (if w = 0 then h 43 v else h 44 v))) SH h) : ms_Ok ms_P (d + 2) 121 [mR 38, mI v, mI w] SH (h) Q := by
  refine ok_in (k := 30) MX5_voter rfl rfl ?_
  show sq (ms_Ok ms_P (d + 1)) ms_X1 MX5_voter Q 30 (M_bl MX5_voter 0) [mR 38, mI v, mI w] [] (SH, 0, 0) (h)
  have hR := hv.1
  have hb := hv.2.1.2.1
  unfold RM at hR
  simp only [sq_c, jp_s, jp_c, rc_0, rc_s, ms_ex, o_iload, o_aload, o_istore, o_astore, o_iinc, o_bin, o_div, o_rem, o_neg, o_and, o_shl, o_shr, o_dup, o_pop, o_dup2, o_if, o_icmp, o_switch, o_sw, o_get, o_put, o_iald, o_iast, o_zald, o_zast, o_aald, o_aast, o_len, ob_s, ob_n, o_call, o_max, o_min, o_copy, o_obj, o_lpush, o_ladd, o_lcmp, o_iret, o_lret, o_vret, i1_c, l1_c, r1_c, st_g0, st_g1, st_g2, st_g3, st_g4, st_g5, st_g6, st_g7, st_g8, st_g9, st_s0, st_s1, st_s2, st_s3, st_s4, st_s5, st_s6, st_s7, st_s8, st_s9, List.length_cons, List.length_nil, List.take_succ_cons, List.take_zero, List.drop_succ_cons, List.drop_zero, List.reverse_cons, List.reverse_nil, List.nil_append, List.cons_append, List.all_cons, List.all_nil, ms_nl, Bool.and_true, Nat.reduceLeDiff, Nat.reduceAdd, Nat.reduceLT, Nat.reduceEqDiff, if_true, if_false, true_and, and_true, ms_rt, List.cons.injEq, exists_eq_left, exists_eq_right, exists_and_left, exists_and_right, ms_one, ite_true, ite_false, reduceIte, imp_self, Nat.zero_add, Nat.add_zero, zero_le_any, Nat.le_refl, Int.zero_add, true_or, or_true, false_implies, Int.reduceLE, Int.reduceLT, Int.reduceNeg, Int.reduceAdd, Int.reduceSub, Int.reduceMul, Int.reduceEq, not_true, not_false_iff, and_self, implies_true, false_and, and_false, or_false, false_or, bX5_voter_0, bX5_voter_1, bX5_voter_2, bX5_voter_3, bX5_voter_4, lX5_voter_0, lX5_voter_1, lX5_voter_2, lX5_voter_3, lX5_voter_4, qX5_voter, sh_b, hR]
  refine ⟨rg_of (by omega) (by omega), ?_⟩
  refine m_in (fun r hr => ?_)
  simp only [sq_c, jp_s, jp_c, rc_0, rc_s, ms_ex, o_iload, o_aload, o_istore, o_astore, o_iinc, o_bin, o_div, o_rem, o_neg, o_and, o_shl, o_shr, o_dup, o_pop, o_dup2, o_if, o_icmp, o_switch, o_sw, o_get, o_put, o_iald, o_iast, o_zald, o_zast, o_aald, o_aast, o_len, ob_s, ob_n, o_call, o_max, o_min, o_copy, o_obj, o_lpush, o_ladd, o_lcmp, o_iret, o_lret, o_vret, i1_c, l1_c, r1_c, st_g0, st_g1, st_g2, st_g3, st_g4, st_g5, st_g6, st_g7, st_g8, st_g9, st_s0, st_s1, st_s2, st_s3, st_s4, st_s5, st_s6, st_s7, st_s8, st_s9, List.length_cons, List.length_nil, List.take_succ_cons, List.take_zero, List.drop_succ_cons, List.drop_zero, List.reverse_cons, List.reverse_nil, List.nil_append, List.cons_append, List.all_cons, List.all_nil, ms_nl, Bool.and_true, Nat.reduceLeDiff, Nat.reduceAdd, Nat.reduceLT, Nat.reduceEqDiff, if_true, if_false, true_and, and_true, ms_rt, List.cons.injEq, exists_eq_left, exists_eq_right, exists_and_left, exists_and_right, ms_one, ite_true, ite_false, reduceIte, imp_self, Nat.zero_add, Nat.add_zero, zero_le_any, Nat.le_refl, Int.zero_add, true_or, or_true, false_implies, Int.reduceLE, Int.reduceLT, Int.reduceNeg, Int.reduceAdd, Int.reduceSub, Int.reduceMul, Int.reduceEq, not_true, not_false_iff, and_self, implies_true, false_and, and_false, or_false, false_or, bX5_voter_0, bX5_voter_1, bX5_voter_2, bX5_voter_3, bX5_voter_4, lX5_voter_0, lX5_voter_1, lX5_voter_2, lX5_voter_3, lX5_voter_4, qX5_voter, sh_b, hR]
  refine ⟨fun h1 => q1 (fun z => bf hr h1 (by omega)), fun h1 => ?_⟩
  refine m_in (fun r2 hr2 => ?_)
  simp only [sq_c, jp_s, jp_c, rc_0, rc_s, ms_ex, o_iload, o_aload, o_istore, o_astore, o_iinc, o_bin, o_div, o_rem, o_neg, o_and, o_shl, o_shr, o_dup, o_pop, o_dup2, o_if, o_icmp, o_switch, o_sw, o_get, o_put, o_iald, o_iast, o_zald, o_zast, o_aald, o_aast, o_len, ob_s, ob_n, o_call, o_max, o_min, o_copy, o_obj, o_lpush, o_ladd, o_lcmp, o_iret, o_lret, o_vret, i1_c, l1_c, r1_c, st_g0, st_g1, st_g2, st_g3, st_g4, st_g5, st_g6, st_g7, st_g8, st_g9, st_s0, st_s1, st_s2, st_s3, st_s4, st_s5, st_s6, st_s7, st_s8, st_s9, List.length_cons, List.length_nil, List.take_succ_cons, List.take_zero, List.drop_succ_cons, List.drop_zero, List.reverse_cons, List.reverse_nil, List.nil_append, List.cons_append, List.all_cons, List.all_nil, ms_nl, Bool.and_true, Nat.reduceLeDiff, Nat.reduceAdd, Nat.reduceLT, Nat.reduceEqDiff, if_true, if_false, true_and, and_true, ms_rt, List.cons.injEq, exists_eq_left, exists_eq_right, exists_and_left, exists_and_right, ms_one, ite_true, ite_false, reduceIte, imp_self, Nat.zero_add, Nat.add_zero, zero_le_any, Nat.le_refl, Int.zero_add, true_or, or_true, false_implies, Int.reduceLE, Int.reduceLT, Int.reduceNeg, Int.reduceAdd, Int.reduceSub, Int.reduceMul, Int.reduceEq, not_true, not_false_iff, and_self, implies_true, false_and, and_false, or_false, false_or, bX5_voter_0, bX5_voter_1, bX5_voter_2, bX5_voter_3, bX5_voter_4, lX5_voter_0, lX5_voter_1, lX5_voter_2, lX5_voter_3, lX5_voter_4, qX5_voter, sh_b, hR, ar_43, ar_44]
  have hc := bt hr h1
  refine ⟨fun h2 => ?_, fun h2 => q1 (fun z => bf hr2 h2 z.2)⟩
  have hw := bt hr2 h2
  have q2 := q2 (by omega) hw
  refine ⟨fun h3 => ⟨by omega, by omega, ?_⟩, fun h3 => ⟨by omega, by omega, ?_⟩⟩
  · rw [if_neg h3] at q2; exact q2
  · rw [if_pos h3] at q2; exact q2
/-- on how many fields of a column it falls so -/
def fc (m g w : Int) : Nat → Int := sm (fun f => if fl (m - f) g = w then 1 else 0)
def fm (h : ms_H) (w : Int) : Int := sm (fun c => fc (mT h - h 40 c) (h 38 3) w 8) (h 38 0).toNat
theorem fc_b (m g w : Int) (n : Nat) : 0 ≤ fc m g w n ∧ fc m g w n ≤ n := by
  have := sm_b (g := fun f => if fl (m - f) g = w then 1 else 0) (lo := 0) (hi := 1) n (fun i h0 h1 => by split <;> omega)
  unfold fc
  omega
theorem m_fallMany_in {d : Nat} {h : ms_H} {Q : ms_Q} {w n c : Int} (hv : MV h) (hc : 0 ≤ c ∧ c < h 38 0) (hn : 0 ≤ n ∧ n ≤ 1000) (K : ms_at (ms_Ok ms_P (d + 4)) ms_X1 MX5_fallMany Q 100 [mR 38, mI w, mI (n + fc (mT h - h 40 c) (h 38 3) w 8), mI (c + 1), mI 8] [] (SH, 0, 0) (h)) : ∀ (j k : Nat), k + j = 8 → ms_at (ms_Ok ms_P (d + 4)) ms_X1 MX5_fallMany Q 101 [mR 38, mI w, mI (n + fc (mT h - h 40 c) (h 38 3) w k), mI c, mI k] [] (SH, 0, 0) (h) := by
  have hb := hv.2.1.1
  intro j
  induction j with
  | zero =>
    intro k hk
    have : k = 8 := by omega
    subst this
    refine sq_at (ms_Ok_m ms_P _) 30 101 ?_
    simp only [sq_c, jp_s, jp_c, rc_0, rc_s, ms_ex, o_iload, o_aload, o_istore, o_astore, o_iinc, o_bin, o_div, o_rem, o_neg, o_and, o_shl, o_shr, o_dup, o_pop, o_dup2, o_if, o_icmp, o_switch, o_sw, o_get, o_put, o_iald, o_iast, o_zald, o_zast, o_aald, o_aast, o_len, ob_s, ob_n, o_call, o_max, o_min, o_copy, o_obj, o_lpush, o_ladd, o_lcmp, o_iret, o_lret, o_vret, i1_c, l1_c, r1_c, st_g0, st_g1, st_g2, st_g3, st_g4, st_g5, st_g6, st_g7, st_g8, st_g9, st_s0, st_s1, st_s2, st_s3, st_s4, st_s5, st_s6, st_s7, st_s8, st_s9, List.length_cons, List.length_nil, List.take_succ_cons, List.take_zero, List.drop_succ_cons, List.drop_zero, List.reverse_cons, List.reverse_nil, List.nil_append, List.cons_append, List.all_cons, List.all_nil, ms_nl, Bool.and_true, Nat.reduceLeDiff, Nat.reduceAdd, Nat.reduceLT, Nat.reduceEqDiff, if_true, if_false, true_and, and_true, ms_rt, List.cons.injEq, exists_eq_left, exists_eq_right, exists_and_left, exists_and_right, ms_one, ite_true, ite_false, reduceIte, imp_self, Nat.zero_add, Nat.add_zero, zero_le_any, Nat.le_refl, Int.zero_add, true_or, or_true, false_implies, Int.reduceLE, Int.reduceLT, Int.reduceNeg, Int.reduceAdd, Int.reduceSub, Int.reduceMul, Int.reduceEq, not_true, not_false_iff, and_self, implies_true, false_and, and_false, or_false, false_or, bX5_fallMany_0, bX5_fallMany_1, bX5_fallMany_2, bX5_fallMany_3, bX5_fallMany_4, bX5_fallMany_100, bX5_fallMany_101, lX5_fallMany_0, lX5_fallMany_1, lX5_fallMany_2, lX5_fallMany_3, lX5_fallMany_4, lX5_fallMany_100, lX5_fallMany_101, qX5_fallMany, sh_b]
    refine ⟨fun _ => ⟨rg_of (by omega) (by omega), K⟩, fun h1 => by omega⟩
  | succ j ih =>
    intro k hk
    have ih' := ih (k + 1) (by omega)
    have hfb := fc_b (mT h - h 40 c) (h 38 3) w k
    refine sq_at (ms_Ok_m ms_P _) 30 101 ?_
    simp only [sq_c, jp_s, jp_c, rc_0, rc_s, ms_ex, o_iload, o_aload, o_istore, o_astore, o_iinc, o_bin, o_div, o_rem, o_neg, o_and, o_shl, o_shr, o_dup, o_pop, o_dup2, o_if, o_icmp, o_switch, o_sw, o_get, o_put, o_iald, o_iast, o_zald, o_zast, o_aald, o_aast, o_len, ob_s, ob_n, o_call, o_max, o_min, o_copy, o_obj, o_lpush, o_ladd, o_lcmp, o_iret, o_lret, o_vret, i1_c, l1_c, r1_c, st_g0, st_g1, st_g2, st_g3, st_g4, st_g5, st_g6, st_g7, st_g8, st_g9, st_s0, st_s1, st_s2, st_s3, st_s4, st_s5, st_s6, st_s7, st_s8, st_s9, List.length_cons, List.length_nil, List.take_succ_cons, List.take_zero, List.drop_succ_cons, List.drop_zero, List.reverse_cons, List.reverse_nil, List.nil_append, List.cons_append, List.all_cons, List.all_nil, ms_nl, Bool.and_true, Nat.reduceLeDiff, Nat.reduceAdd, Nat.reduceLT, Nat.reduceEqDiff, if_true, if_false, true_and, and_true, ms_rt, List.cons.injEq, exists_eq_left, exists_eq_right, exists_and_left, exists_and_right, ms_one, ite_true, ite_false, reduceIte, imp_self, Nat.zero_add, Nat.add_zero, zero_le_any, Nat.le_refl, Int.zero_add, true_or, or_true, false_implies, Int.reduceLE, Int.reduceLT, Int.reduceNeg, Int.reduceAdd, Int.reduceSub, Int.reduceMul, Int.reduceEq, not_true, not_false_iff, and_self, implies_true, false_and, and_false, or_false, false_or, bX5_fallMany_0, bX5_fallMany_1, bX5_fallMany_2, bX5_fallMany_3, bX5_fallMany_4, bX5_fallMany_100, bX5_fallMany_101, lX5_fallMany_0, lX5_fallMany_1, lX5_fallMany_2, lX5_fallMany_3, lX5_fallMany_4, lX5_fallMany_100, lX5_fallMany_101, qX5_fallMany, sh_b]
    refine ⟨fun h1 => by omega, fun h1 => ?_⟩
    refine m_falls hv hc (by omega) ?_
    simp only [sq_c, jp_s, jp_c, rc_0, rc_s, ms_ex, o_iload, o_aload, o_istore, o_astore, o_iinc, o_bin, o_div, o_rem, o_neg, o_and, o_shl, o_shr, o_dup, o_pop, o_dup2, o_if, o_icmp, o_switch, o_sw, o_get, o_put, o_iald, o_iast, o_zald, o_zast, o_aald, o_aast, o_len, ob_s, ob_n, o_call, o_max, o_min, o_copy, o_obj, o_lpush, o_ladd, o_lcmp, o_iret, o_lret, o_vret, i1_c, l1_c, r1_c, st_g0, st_g1, st_g2, st_g3, st_g4, st_g5, st_g6, st_g7, st_g8, st_g9, st_s0, st_s1, st_s2, st_s3, st_s4, st_s5, st_s6, st_s7, st_s8, st_s9, List.length_cons, List.length_nil, List.take_succ_cons, List.take_zero, List.drop_succ_cons, List.drop_zero, List.reverse_cons, List.reverse_nil, List.nil_append, List.cons_append, List.all_cons, List.all_nil, ms_nl, Bool.and_true, Nat.reduceLeDiff, Nat.reduceAdd, Nat.reduceLT, Nat.reduceEqDiff, if_true, if_false, true_and, and_true, ms_rt, List.cons.injEq, exists_eq_left, exists_eq_right, exists_and_left, exists_and_right, ms_one, ite_true, ite_false, reduceIte, imp_self, Nat.zero_add, Nat.add_zero, zero_le_any, Nat.le_refl, Int.zero_add, true_or, or_true, false_implies, Int.reduceLE, Int.reduceLT, Int.reduceNeg, Int.reduceAdd, Int.reduceSub, Int.reduceMul, Int.reduceEq, not_true, not_false_iff, and_self, implies_true, false_and, and_false, or_false, false_or, bX5_fallMany_0, bX5_fallMany_1, bX5_fallMany_2, bX5_fallMany_3, bX5_fallMany_4, bX5_fallMany_100, bX5_fallMany_101, lX5_fallMany_0, lX5_fallMany_1, lX5_fallMany_2, lX5_fallMany_3, lX5_fallMany_4, lX5_fallMany_100, lX5_fallMany_101, qX5_fallMany, sh_b]
    refine ⟨fun h2 => ⟨rg_of (by omega) (by omega), rg_of (by omega) (by omega), ?_⟩, fun h2 => ⟨rg_of (by omega) (by omega), rg_of (by omega) (by omega), ?_⟩⟩
    · have e : fc (mT h - h 40 c) (h 38 3) w (k + 1) = fc (mT h - h 40 c) (h 38 3) w k + 0 := by
        show fc (mT h - h 40 c) (h 38 3) w k + _ = _
        dsimp only
        rw [if_neg h2]
      rw [e, ← Int.add_assoc] at ih'
      exact ih'
    · have e : fc (mT h - h 40 c) (h 38 3) w (k + 1) = fc (mT h - h 40 c) (h 38 3) w k + 1 := by
        show fc (mT h - h 40 c) (h 38 3) w k + _ = _
        dsimp only
        rw [if_pos h2]
      rw [e, ← Int.add_assoc] at ih'
      exact ih'
theorem fm_b (h : ms_H) (w : Int) (n : Nat) : 0 ≤ sm (fun c => fc (mT h - h 40 c) (h 38 3) w 8) n ∧ sm (fun c => fc (mT h - h 40 c) (h 38 3) w 8) n ≤ 8 * n := by
  have := sm_b (g := fun c => fc (mT h - h 40 c) (h 38 3) w 8) (lo := 0) (hi := 8) n (fun i h0 h1 => fc_b _ _ _ 8)
  omega
theorem m_fallMany_lp {d : Nat} {h : ms_H} {Q : ms_Q} {w : Int} (hv : MV h) (q : Q (some (mI (fm h w))) SH h) : ∀ (j k : Nat) (u : ms_V), k + j = (h 38 0).toNat → ms_at (ms_Ok ms_P (d + 4)) ms_X1 MX5_fallMany Q 100 [mR 38, mI w, mI (sm (fun c => fc (mT h - h 40 c) (h 38 3) w 8) k), mI k, u] [] (SH, 0, 0) (h) := by
  have hb := hv.2.1.1
  intro j
  induction j with
  | zero =>
    intro k u hk
    refine sq_at (ms_Ok_m ms_P _) 30 100 ?_
    simp only [sq_c, jp_s, jp_c, rc_0, rc_s, ms_ex, o_iload, o_aload, o_istore, o_astore, o_iinc, o_bin, o_div, o_rem, o_neg, o_and, o_shl, o_shr, o_dup, o_pop, o_dup2, o_if, o_icmp, o_switch, o_sw, o_get, o_put, o_iald, o_iast, o_zald, o_zast, o_aald, o_aast, o_len, ob_s, ob_n, o_call, o_max, o_min, o_copy, o_obj, o_lpush, o_ladd, o_lcmp, o_iret, o_lret, o_vret, i1_c, l1_c, r1_c, st_g0, st_g1, st_g2, st_g3, st_g4, st_g5, st_g6, st_g7, st_g8, st_g9, st_s0, st_s1, st_s2, st_s3, st_s4, st_s5, st_s6, st_s7, st_s8, st_s9, List.length_cons, List.length_nil, List.take_succ_cons, List.take_zero, List.drop_succ_cons, List.drop_zero, List.reverse_cons, List.reverse_nil, List.nil_append, List.cons_append, List.all_cons, List.all_nil, ms_nl, Bool.and_true, Nat.reduceLeDiff, Nat.reduceAdd, Nat.reduceLT, Nat.reduceEqDiff, if_true, if_false, true_and, and_true, ms_rt, List.cons.injEq, exists_eq_left, exists_eq_right, exists_and_left, exists_and_right, ms_one, ite_true, ite_false, reduceIte, imp_self, Nat.zero_add, Nat.add_zero, zero_le_any, Nat.le_refl, Int.zero_add, true_or, or_true, false_implies, Int.reduceLE, Int.reduceLT, Int.reduceNeg, Int.reduceAdd, Int.reduceSub, Int.reduceMul, Int.reduceEq, not_true, not_false_iff, and_self, implies_true, false_and, and_false, or_false, false_or, bX5_fallMany_0, bX5_fallMany_1, bX5_fallMany_2, bX5_fallMany_3, bX5_fallMany_4, bX5_fallMany_100, bX5_fallMany_101, lX5_fallMany_0, lX5_fallMany_1, lX5_fallMany_2, lX5_fallMany_3, lX5_fallMany_4, lX5_fallMany_100, lX5_fallMany_101, qX5_fallMany, sh_b]
    refine ⟨fun _ => ?_, fun h1 => by omega⟩
    rw [show k = (h 38 0).toNat by omega]
    exact q
  | succ j ih =>
    intro k u hk
    have ih' := ih (k + 1) (mI 8) (by omega)
    have hfb := fm_b h w k
    refine sq_at (ms_Ok_m ms_P _) 30 100 ?_
    simp only [sq_c, jp_s, jp_c, rc_0, rc_s, ms_ex, o_iload, o_aload, o_istore, o_astore, o_iinc, o_bin, o_div, o_rem, o_neg, o_and, o_shl, o_shr, o_dup, o_pop, o_dup2, o_if, o_icmp, o_switch, o_sw, o_get, o_put, o_iald, o_iast, o_zald, o_zast, o_aald, o_aast, o_len, ob_s, ob_n, o_call, o_max, o_min, o_copy, o_obj, o_lpush, o_ladd, o_lcmp, o_iret, o_lret, o_vret, i1_c, l1_c, r1_c, st_g0, st_g1, st_g2, st_g3, st_g4, st_g5, st_g6, st_g7, st_g8, st_g9, st_s0, st_s1, st_s2, st_s3, st_s4, st_s5, st_s6, st_s7, st_s8, st_s9, List.length_cons, List.length_nil, List.take_succ_cons, List.take_zero, List.drop_succ_cons, List.drop_zero, List.reverse_cons, List.reverse_nil, List.nil_append, List.cons_append, List.all_cons, List.all_nil, ms_nl, Bool.and_true, Nat.reduceLeDiff, Nat.reduceAdd, Nat.reduceLT, Nat.reduceEqDiff, if_true, if_false, true_and, and_true, ms_rt, List.cons.injEq, exists_eq_left, exists_eq_right, exists_and_left, exists_and_right, ms_one, ite_true, ite_false, reduceIte, imp_self, Nat.zero_add, Nat.add_zero, zero_le_any, Nat.le_refl, Int.zero_add, true_or, or_true, false_implies, Int.reduceLE, Int.reduceLT, Int.reduceNeg, Int.reduceAdd, Int.reduceSub, Int.reduceMul, Int.reduceEq, not_true, not_false_iff, and_self, implies_true, false_and, and_false, or_false, false_or, bX5_fallMany_0, bX5_fallMany_1, bX5_fallMany_2, bX5_fallMany_3, bX5_fallMany_4, bX5_fallMany_100, bX5_fallMany_101, lX5_fallMany_0, lX5_fallMany_1, lX5_fallMany_2, lX5_fallMany_3, lX5_fallMany_4, lX5_fallMany_100, lX5_fallMany_101, qX5_fallMany, sh_b]
    refine ⟨fun h1 => by omega, fun h1 => ?_⟩
    have := m_fallMany_in (n := sm (fun c => fc (mT h - h 40 c) (h 38 3) w 8) k) (c := k) hv (by omega) (by omega) ih' 8 0 (by omega)
    rw [show fc (mT h - h 40 k) (h 38 3) w 0 = 0 from rfl, Int.add_zero] at this
    exact this
theorem m_fallMany {d : Nat} {w : Int} {h : ms_H} {Q : ms_Q} (hv : MV h) (q : Q (some (mI (fm h w))) SH h) : ms_Ok ms_P (d + 5) 122 [mR 38, mI w] SH (h) Q := by
  refine ok_in (k := 30) MX5_fallMany rfl rfl ?_
  show sq (ms_Ok ms_P (d + 4)) ms_X1 MX5_fallMany Q 30 (M_bl MX5_fallMany 0) [mR 38, mI w, mL 0, mL 0, mL 0] [] (SH, 0, 0) (h)
  have hb := hv.2.1.1
  simp only [sq_c, jp_s, jp_c, rc_0, rc_s, ms_ex, o_iload, o_aload, o_istore, o_astore, o_iinc, o_bin, o_div, o_rem, o_neg, o_and, o_shl, o_shr, o_dup, o_pop, o_dup2, o_if, o_icmp, o_switch, o_sw, o_get, o_put, o_iald, o_iast, o_zald, o_zast, o_aald, o_aast, o_len, ob_s, ob_n, o_call, o_max, o_min, o_copy, o_obj, o_lpush, o_ladd, o_lcmp, o_iret, o_lret, o_vret, i1_c, l1_c, r1_c, st_g0, st_g1, st_g2, st_g3, st_g4, st_g5, st_g6, st_g7, st_g8, st_g9, st_s0, st_s1, st_s2, st_s3, st_s4, st_s5, st_s6, st_s7, st_s8, st_s9, List.length_cons, List.length_nil, List.take_succ_cons, List.take_zero, List.drop_succ_cons, List.drop_zero, List.reverse_cons, List.reverse_nil, List.nil_append, List.cons_append, List.all_cons, List.all_nil, ms_nl, Bool.and_true, Nat.reduceLeDiff, Nat.reduceAdd, Nat.reduceLT, Nat.reduceEqDiff, if_true, if_false, true_and, and_true, ms_rt, List.cons.injEq, exists_eq_left, exists_eq_right, exists_and_left, exists_and_right, ms_one, ite_true, ite_false, reduceIte, imp_self, Nat.zero_add, Nat.add_zero, zero_le_any, Nat.le_refl, Int.zero_add, true_or, or_true, false_implies, Int.reduceLE, Int.reduceLT, Int.reduceNeg, Int.reduceAdd, Int.reduceSub, Int.reduceMul, Int.reduceEq, not_true, not_false_iff, and_self, implies_true, false_and, and_false, or_false, false_or, bX5_fallMany_0, bX5_fallMany_1, bX5_fallMany_2, bX5_fallMany_3, bX5_fallMany_4, bX5_fallMany_100, bX5_fallMany_101, lX5_fallMany_0, lX5_fallMany_1, lX5_fallMany_2, lX5_fallMany_3, lX5_fallMany_4, lX5_fallMany_100, lX5_fallMany_101, qX5_fallMany, sh_b]
  exact m_fallMany_lp hv q (h 38 0).toNat 0 _ (by omega)
def mWide (h : ms_H) : Int := mxm (fun c => cl (mT h - h 40 c) - cl (mT h - h 40 c - h 38 3)) (h 38 0).toNat
theorem m_widest_lp {d : Nat} {h : ms_H} {Q : ms_Q} (hv : MV h) (q : Q (some (mI (mWide h))) SH h) : ∀ (j k : Nat) (u : ms_V), k + j = (h 38 0).toNat → ms_at (ms_Ok ms_P (d + 5)) ms_X1 MX5_widest Q 100 [mR 38, mI (mxm (fun c => cl (mT h - h 40 c) - cl (mT h - h 40 c - h 38 3)) k), mI k, u] [] (SH, 0, 0) (h) := by
  have hb := hv.2.1.1
  intro j
  induction j with
  | zero =>
    intro k u hk
    refine sq_at (ms_Ok_m ms_P _) 30 100 ?_
    simp only [sq_c, jp_s, jp_c, rc_0, rc_s, ms_ex, o_iload, o_aload, o_istore, o_astore, o_iinc, o_bin, o_div, o_rem, o_neg, o_and, o_shl, o_shr, o_dup, o_pop, o_dup2, o_if, o_icmp, o_switch, o_sw, o_get, o_put, o_iald, o_iast, o_zald, o_zast, o_aald, o_aast, o_len, ob_s, ob_n, o_call, o_max, o_min, o_copy, o_obj, o_lpush, o_ladd, o_lcmp, o_iret, o_lret, o_vret, i1_c, l1_c, r1_c, st_g0, st_g1, st_g2, st_g3, st_g4, st_g5, st_g6, st_g7, st_g8, st_g9, st_s0, st_s1, st_s2, st_s3, st_s4, st_s5, st_s6, st_s7, st_s8, st_s9, List.length_cons, List.length_nil, List.take_succ_cons, List.take_zero, List.drop_succ_cons, List.drop_zero, List.reverse_cons, List.reverse_nil, List.nil_append, List.cons_append, List.all_cons, List.all_nil, ms_nl, Bool.and_true, Nat.reduceLeDiff, Nat.reduceAdd, Nat.reduceLT, Nat.reduceEqDiff, if_true, if_false, true_and, and_true, ms_rt, List.cons.injEq, exists_eq_left, exists_eq_right, exists_and_left, exists_and_right, ms_one, ite_true, ite_false, reduceIte, imp_self, Nat.zero_add, Nat.add_zero, zero_le_any, Nat.le_refl, Int.zero_add, true_or, or_true, false_implies, Int.reduceLE, Int.reduceLT, Int.reduceNeg, Int.reduceAdd, Int.reduceSub, Int.reduceMul, Int.reduceEq, not_true, not_false_iff, and_self, implies_true, false_and, and_false, or_false, false_or, bX5_widest_0, bX5_widest_1, bX5_widest_2, bX5_widest_3, bX5_widest_100, lX5_widest_0, lX5_widest_1, lX5_widest_2, lX5_widest_3, lX5_widest_100, qX5_widest, sh_b]
    refine ⟨fun _ => ?_, fun h1 => by omega⟩
    rw [show k = (h 38 0).toNat by omega]
    exact q
  | succ j ih =>
    intro k u hk
    have b1 := cl_b (mT h - h 40 k)
    have b2 := cl_b (mT h - h 40 k - h 38 3)
    have ih' := ih (k + 1) (mI (cl (mT h - h 40 k) - cl (mT h - h 40 k - h 38 3))) (by omega)
    refine sq_at (ms_Ok_m ms_P _) 30 100 ?_
    simp only [sq_c, jp_s, jp_c, rc_0, rc_s, ms_ex, o_iload, o_aload, o_istore, o_astore, o_iinc, o_bin, o_div, o_rem, o_neg, o_and, o_shl, o_shr, o_dup, o_pop, o_dup2, o_if, o_icmp, o_switch, o_sw, o_get, o_put, o_iald, o_iast, o_zald, o_zast, o_aald, o_aast, o_len, ob_s, ob_n, o_call, o_max, o_min, o_copy, o_obj, o_lpush, o_ladd, o_lcmp, o_iret, o_lret, o_vret, i1_c, l1_c, r1_c, st_g0, st_g1, st_g2, st_g3, st_g4, st_g5, st_g6, st_g7, st_g8, st_g9, st_s0, st_s1, st_s2, st_s3, st_s4, st_s5, st_s6, st_s7, st_s8, st_s9, List.length_cons, List.length_nil, List.take_succ_cons, List.take_zero, List.drop_succ_cons, List.drop_zero, List.reverse_cons, List.reverse_nil, List.nil_append, List.cons_append, List.all_cons, List.all_nil, ms_nl, Bool.and_true, Nat.reduceLeDiff, Nat.reduceAdd, Nat.reduceLT, Nat.reduceEqDiff, if_true, if_false, true_and, and_true, ms_rt, List.cons.injEq, exists_eq_left, exists_eq_right, exists_and_left, exists_and_right, ms_one, ite_true, ite_false, reduceIte, imp_self, Nat.zero_add, Nat.add_zero, zero_le_any, Nat.le_refl, Int.zero_add, true_or, or_true, false_implies, Int.reduceLE, Int.reduceLT, Int.reduceNeg, Int.reduceAdd, Int.reduceSub, Int.reduceMul, Int.reduceEq, not_true, not_false_iff, and_self, implies_true, false_and, and_false, or_false, false_or, bX5_widest_0, bX5_widest_1, bX5_widest_2, bX5_widest_3, bX5_widest_100, lX5_widest_0, lX5_widest_1, lX5_widest_2, lX5_widest_3, lX5_widest_100, qX5_widest, sh_b]
    refine ⟨fun h1 => by omega, fun h1 => ?_⟩
    refine m_edge hv (by omega) ?_
    simp only [sq_c, jp_s, jp_c, rc_0, rc_s, ms_ex, o_iload, o_aload, o_istore, o_astore, o_iinc, o_bin, o_div, o_rem, o_neg, o_and, o_shl, o_shr, o_dup, o_pop, o_dup2, o_if, o_icmp, o_switch, o_sw, o_get, o_put, o_iald, o_iast, o_zald, o_zast, o_aald, o_aast, o_len, ob_s, ob_n, o_call, o_max, o_min, o_copy, o_obj, o_lpush, o_ladd, o_lcmp, o_iret, o_lret, o_vret, i1_c, l1_c, r1_c, st_g0, st_g1, st_g2, st_g3, st_g4, st_g5, st_g6, st_g7, st_g8, st_g9, st_s0, st_s1, st_s2, st_s3, st_s4, st_s5, st_s6, st_s7, st_s8, st_s9, List.length_cons, List.length_nil, List.take_succ_cons, List.take_zero, List.drop_succ_cons, List.drop_zero, List.reverse_cons, List.reverse_nil, List.nil_append, List.cons_append, List.all_cons, List.all_nil, ms_nl, Bool.and_true, Nat.reduceLeDiff, Nat.reduceAdd, Nat.reduceLT, Nat.reduceEqDiff, if_true, if_false, true_and, and_true, ms_rt, List.cons.injEq, exists_eq_left, exists_eq_right, exists_and_left, exists_and_right, ms_one, ite_true, ite_false, reduceIte, imp_self, Nat.zero_add, Nat.add_zero, zero_le_any, Nat.le_refl, Int.zero_add, true_or, or_true, false_implies, Int.reduceLE, Int.reduceLT, Int.reduceNeg, Int.reduceAdd, Int.reduceSub, Int.reduceMul, Int.reduceEq, not_true, not_false_iff, and_self, implies_true, false_and, and_false, or_false, false_or, bX5_widest_0, bX5_widest_1, bX5_widest_2, bX5_widest_3, bX5_widest_100, lX5_widest_0, lX5_widest_1, lX5_widest_2, lX5_widest_3, lX5_widest_100, qX5_widest, sh_b]
    refine m_wet hv (by omega) ?_
    simp only [sq_c, jp_s, jp_c, rc_0, rc_s, ms_ex, o_iload, o_aload, o_istore, o_astore, o_iinc, o_bin, o_div, o_rem, o_neg, o_and, o_shl, o_shr, o_dup, o_pop, o_dup2, o_if, o_icmp, o_switch, o_sw, o_get, o_put, o_iald, o_iast, o_zald, o_zast, o_aald, o_aast, o_len, ob_s, ob_n, o_call, o_max, o_min, o_copy, o_obj, o_lpush, o_ladd, o_lcmp, o_iret, o_lret, o_vret, i1_c, l1_c, r1_c, st_g0, st_g1, st_g2, st_g3, st_g4, st_g5, st_g6, st_g7, st_g8, st_g9, st_s0, st_s1, st_s2, st_s3, st_s4, st_s5, st_s6, st_s7, st_s8, st_s9, List.length_cons, List.length_nil, List.take_succ_cons, List.take_zero, List.drop_succ_cons, List.drop_zero, List.reverse_cons, List.reverse_nil, List.nil_append, List.cons_append, List.all_cons, List.all_nil, ms_nl, Bool.and_true, Nat.reduceLeDiff, Nat.reduceAdd, Nat.reduceLT, Nat.reduceEqDiff, if_true, if_false, true_and, and_true, ms_rt, List.cons.injEq, exists_eq_left, exists_eq_right, exists_and_left, exists_and_right, ms_one, ite_true, ite_false, reduceIte, imp_self, Nat.zero_add, Nat.add_zero, zero_le_any, Nat.le_refl, Int.zero_add, true_or, or_true, false_implies, Int.reduceLE, Int.reduceLT, Int.reduceNeg, Int.reduceAdd, Int.reduceSub, Int.reduceMul, Int.reduceEq, not_true, not_false_iff, and_self, implies_true, false_and, and_false, or_false, false_or, bX5_widest_0, bX5_widest_1, bX5_widest_2, bX5_widest_3, bX5_widest_100, lX5_widest_0, lX5_widest_1, lX5_widest_2, lX5_widest_3, lX5_widest_100, qX5_widest, sh_b]
    unfold mxm at ih'
    refine ⟨rg_of (by omega) (by omega), fun h2 => ⟨rg_of (by omega) (by omega), ?_⟩, fun h2 => ⟨rg_of (by omega) (by omega), ?_⟩⟩
    · rw [if_neg (by omega)] at ih'
      exact ih'
    · rw [if_pos (by omega)] at ih'
      exact ih'
theorem m_widest {d : Nat} {h : ms_H} {Q : ms_Q} (hv : MV h) (q : Q (some (mI (mWide h))) SH h) : ms_Ok ms_P (d + 6) 131 [mR 38] SH (h) Q := by
  refine ok_in (k := 30) MX5_widest rfl rfl ?_
  show sq (ms_Ok ms_P (d + 5)) ms_X1 MX5_widest Q 30 (M_bl MX5_widest 0) [mR 38, mL 0, mL 0, mL 0] [] (SH, 0, 0) (h)
  have hb := hv.2.1.1
  simp only [sq_c, jp_s, jp_c, rc_0, rc_s, ms_ex, o_iload, o_aload, o_istore, o_astore, o_iinc, o_bin, o_div, o_rem, o_neg, o_and, o_shl, o_shr, o_dup, o_pop, o_dup2, o_if, o_icmp, o_switch, o_sw, o_get, o_put, o_iald, o_iast, o_zald, o_zast, o_aald, o_aast, o_len, ob_s, ob_n, o_call, o_max, o_min, o_copy, o_obj, o_lpush, o_ladd, o_lcmp, o_iret, o_lret, o_vret, i1_c, l1_c, r1_c, st_g0, st_g1, st_g2, st_g3, st_g4, st_g5, st_g6, st_g7, st_g8, st_g9, st_s0, st_s1, st_s2, st_s3, st_s4, st_s5, st_s6, st_s7, st_s8, st_s9, List.length_cons, List.length_nil, List.take_succ_cons, List.take_zero, List.drop_succ_cons, List.drop_zero, List.reverse_cons, List.reverse_nil, List.nil_append, List.cons_append, List.all_cons, List.all_nil, ms_nl, Bool.and_true, Nat.reduceLeDiff, Nat.reduceAdd, Nat.reduceLT, Nat.reduceEqDiff, if_true, if_false, true_and, and_true, ms_rt, List.cons.injEq, exists_eq_left, exists_eq_right, exists_and_left, exists_and_right, ms_one, ite_true, ite_false, reduceIte, imp_self, Nat.zero_add, Nat.add_zero, zero_le_any, Nat.le_refl, Int.zero_add, true_or, or_true, false_implies, Int.reduceLE, Int.reduceLT, Int.reduceNeg, Int.reduceAdd, Int.reduceSub, Int.reduceMul, Int.reduceEq, not_true, not_false_iff, and_self, implies_true, false_and, and_false, or_false, false_or, bX5_widest_0, bX5_widest_1, bX5_widest_2, bX5_widest_3, bX5_widest_100, lX5_widest_0, lX5_widest_1, lX5_widest_2, lX5_widest_3, lX5_widest_100, qX5_widest, sh_b]
  exact m_widest_lp hv q (h 38 0).toNat 0 _ (by omega)
def mStk (h : ms_H) : Nat → Int := sm (fun c => if 0 < h 46 c then 1 else 0)
theorem m_stakeMany_lp {d : Nat} {h : ms_H} {Q : ms_Q} (hv : MV h) (q : Q (some (mI (mStk h (h 38 0).toNat))) SH h) : ∀ (j k : Nat), k + j = (h 38 0).toNat → ms_at (ms_Ok ms_P (d)) ms_X1 MX5_stakeMany Q 100 [mR 38, mI (mStk h k), mI k] [] (SH, 0, 0) (h) := by
  have hb := hv.2.1.1
  have hR := hv.1
  unfold RM at hR
  intro j
  induction j with
  | zero =>
    intro k hk
    refine sq_at (ms_Ok_m ms_P _) 30 100 ?_
    simp only [sq_c, jp_s, jp_c, rc_0, rc_s, ms_ex, o_iload, o_aload, o_istore, o_astore, o_iinc, o_bin, o_div, o_rem, o_neg, o_and, o_shl, o_shr, o_dup, o_pop, o_dup2, o_if, o_icmp, o_switch, o_sw, o_get, o_put, o_iald, o_iast, o_zald, o_zast, o_aald, o_aast, o_len, ob_s, ob_n, o_call, o_max, o_min, o_copy, o_obj, o_lpush, o_ladd, o_lcmp, o_iret, o_lret, o_vret, i1_c, l1_c, r1_c, st_g0, st_g1, st_g2, st_g3, st_g4, st_g5, st_g6, st_g7, st_g8, st_g9, st_s0, st_s1, st_s2, st_s3, st_s4, st_s5, st_s6, st_s7, st_s8, st_s9, List.length_cons, List.length_nil, List.take_succ_cons, List.take_zero, List.drop_succ_cons, List.drop_zero, List.reverse_cons, List.reverse_nil, List.nil_append, List.cons_append, List.all_cons, List.all_nil, ms_nl, Bool.and_true, Nat.reduceLeDiff, Nat.reduceAdd, Nat.reduceLT, Nat.reduceEqDiff, if_true, if_false, true_and, and_true, ms_rt, List.cons.injEq, exists_eq_left, exists_eq_right, exists_and_left, exists_and_right, ms_one, ite_true, ite_false, reduceIte, imp_self, Nat.zero_add, Nat.add_zero, zero_le_any, Nat.le_refl, Int.zero_add, true_or, or_true, false_implies, Int.reduceLE, Int.reduceLT, Int.reduceNeg, Int.reduceAdd, Int.reduceSub, Int.reduceMul, Int.reduceEq, not_true, not_false_iff, and_self, implies_true, false_and, and_false, or_false, false_or, bX5_stakeMany_0, bX5_stakeMany_1, bX5_stakeMany_2, bX5_stakeMany_3, bX5_stakeMany_100, lX5_stakeMany_0, lX5_stakeMany_1, lX5_stakeMany_2, lX5_stakeMany_3, lX5_stakeMany_100, qX5_stakeMany, sh_b, hR, ar_46]
    refine ⟨fun _ => ?_, fun h1 => by omega⟩
    rw [show k = (h 38 0).toNat by omega]
    exact q
  | succ j ih =>
    intro k hk
    have ih' := ih (k + 1) (by omega)
    have hsb := sm_b (g := fun c => if 0 < h 46 c then 1 else 0) (lo := 0) (hi := 1) k (fun i h0 h1 => by split <;> omega)
    have e0 : mStk h k = sm (fun c => if 0 < h 46 c then 1 else 0) k := rfl
    refine sq_at (ms_Ok_m ms_P _) 30 100 ?_
    simp only [sq_c, jp_s, jp_c, rc_0, rc_s, ms_ex, o_iload, o_aload, o_istore, o_astore, o_iinc, o_bin, o_div, o_rem, o_neg, o_and, o_shl, o_shr, o_dup, o_pop, o_dup2, o_if, o_icmp, o_switch, o_sw, o_get, o_put, o_iald, o_iast, o_zald, o_zast, o_aald, o_aast, o_len, ob_s, ob_n, o_call, o_max, o_min, o_copy, o_obj, o_lpush, o_ladd, o_lcmp, o_iret, o_lret, o_vret, i1_c, l1_c, r1_c, st_g0, st_g1, st_g2, st_g3, st_g4, st_g5, st_g6, st_g7, st_g8, st_g9, st_s0, st_s1, st_s2, st_s3, st_s4, st_s5, st_s6, st_s7, st_s8, st_s9, List.length_cons, List.length_nil, List.take_succ_cons, List.take_zero, List.drop_succ_cons, List.drop_zero, List.reverse_cons, List.reverse_nil, List.nil_append, List.cons_append, List.all_cons, List.all_nil, ms_nl, Bool.and_true, Nat.reduceLeDiff, Nat.reduceAdd, Nat.reduceLT, Nat.reduceEqDiff, if_true, if_false, true_and, and_true, ms_rt, List.cons.injEq, exists_eq_left, exists_eq_right, exists_and_left, exists_and_right, ms_one, ite_true, ite_false, reduceIte, imp_self, Nat.zero_add, Nat.add_zero, zero_le_any, Nat.le_refl, Int.zero_add, true_or, or_true, false_implies, Int.reduceLE, Int.reduceLT, Int.reduceNeg, Int.reduceAdd, Int.reduceSub, Int.reduceMul, Int.reduceEq, not_true, not_false_iff, and_self, implies_true, false_and, and_false, or_false, false_or, bX5_stakeMany_0, bX5_stakeMany_1, bX5_stakeMany_2, bX5_stakeMany_3, bX5_stakeMany_100, lX5_stakeMany_0, lX5_stakeMany_1, lX5_stakeMany_2, lX5_stakeMany_3, lX5_stakeMany_100, qX5_stakeMany, sh_b, hR, ar_46]
    have e : mStk h (k + 1) = mStk h k + (if 0 < h 46 k then 1 else 0) := rfl
    refine ⟨fun h1 => by omega, fun h1 => ⟨by omega, by omega, fun h2 => ⟨rg_of (by omega) (by omega), rg_of (by omega) (by omega), ?_⟩, fun h2 => ⟨rg_of (by omega) (by omega), rg_of (by omega) (by omega), ?_⟩⟩⟩
    · rw [e, if_neg (by omega)] at ih'
      exact ih'
    · rw [e, if_pos (by omega)] at ih'
      exact ih'
theorem m_stakeMany {d : Nat} {h : ms_H} {Q : ms_Q} (hv : MV h) (q : Q (some (mI (mStk h (h 38 0).toNat))) SH h) : ms_Ok ms_P (d + 1) 132 [mR 38] SH (h) Q := by
  refine ok_in (k := 30) MX5_stakeMany rfl rfl ?_
  show sq (ms_Ok ms_P (d)) ms_X1 MX5_stakeMany Q 30 (M_bl MX5_stakeMany 0) [mR 38, mL 0, mL 0] [] (SH, 0, 0) (h)
  have hb := hv.2.1.1
  simp only [sq_c, jp_s, jp_c, rc_0, rc_s, ms_ex, o_iload, o_aload, o_istore, o_astore, o_iinc, o_bin, o_div, o_rem, o_neg, o_and, o_shl, o_shr, o_dup, o_pop, o_dup2, o_if, o_icmp, o_switch, o_sw, o_get, o_put, o_iald, o_iast, o_zald, o_zast, o_aald, o_aast, o_len, ob_s, ob_n, o_call, o_max, o_min, o_copy, o_obj, o_lpush, o_ladd, o_lcmp, o_iret, o_lret, o_vret, i1_c, l1_c, r1_c, st_g0, st_g1, st_g2, st_g3, st_g4, st_g5, st_g6, st_g7, st_g8, st_g9, st_s0, st_s1, st_s2, st_s3, st_s4, st_s5, st_s6, st_s7, st_s8, st_s9, List.length_cons, List.length_nil, List.take_succ_cons, List.take_zero, List.drop_succ_cons, List.drop_zero, List.reverse_cons, List.reverse_nil, List.nil_append, List.cons_append, List.all_cons, List.all_nil, ms_nl, Bool.and_true, Nat.reduceLeDiff, Nat.reduceAdd, Nat.reduceLT, Nat.reduceEqDiff, if_true, if_false, true_and, and_true, ms_rt, List.cons.injEq, exists_eq_left, exists_eq_right, exists_and_left, exists_and_right, ms_one, ite_true, ite_false, reduceIte, imp_self, Nat.zero_add, Nat.add_zero, zero_le_any, Nat.le_refl, Int.zero_add, true_or, or_true, false_implies, Int.reduceLE, Int.reduceLT, Int.reduceNeg, Int.reduceAdd, Int.reduceSub, Int.reduceMul, Int.reduceEq, not_true, not_false_iff, and_self, implies_true, false_and, and_false, or_false, false_or, bX5_stakeMany_0, bX5_stakeMany_1, bX5_stakeMany_2, bX5_stakeMany_3, bX5_stakeMany_100, lX5_stakeMany_0, lX5_stakeMany_1, lX5_stakeMany_2, lX5_stakeMany_3, lX5_stakeMany_100, qX5_stakeMany, sh_b]
  exact m_stakeMany_lp hv q (h 38 0).toNat 0 (by omega)
/-- the vote -/
def vt (w t : Int → Int) : Nat → Int := sm (fun v => if t v = 1 then w v else -w v)
theorem m_vote_lp {d : Nat} {h : ms_H} {Q : ms_Q} (hv : MV h) (q : Q (some (mI (vt (h 43) (h 44) (h 38 1).toNat))) SH h) : ∀ (j k : Nat), k + j = (h 38 1).toNat → ms_at (ms_Ok ms_P (d)) ms_X1 MX5_vote Q 100 [mR 38, mI (vt (h 43) (h 44) k), mI k] [] (SH, 0, 0) (h) := by
  have hb := hv.2.1.2.1
  have hw := hv.2.2.2.2.1
  have hR := hv.1
  unfold RM at hR
  intro j
  induction j with
  | zero =>
    intro k hk
    refine sq_at (ms_Ok_m ms_P _) 30 100 ?_
    simp only [sq_c, jp_s, jp_c, rc_0, rc_s, ms_ex, o_iload, o_aload, o_istore, o_astore, o_iinc, o_bin, o_div, o_rem, o_neg, o_and, o_shl, o_shr, o_dup, o_pop, o_dup2, o_if, o_icmp, o_switch, o_sw, o_get, o_put, o_iald, o_iast, o_zald, o_zast, o_aald, o_aast, o_len, ob_s, ob_n, o_call, o_max, o_min, o_copy, o_obj, o_lpush, o_ladd, o_lcmp, o_iret, o_lret, o_vret, i1_c, l1_c, r1_c, st_g0, st_g1, st_g2, st_g3, st_g4, st_g5, st_g6, st_g7, st_g8, st_g9, st_s0, st_s1, st_s2, st_s3, st_s4, st_s5, st_s6, st_s7, st_s8, st_s9, List.length_cons, List.length_nil, List.take_succ_cons, List.take_zero, List.drop_succ_cons, List.drop_zero, List.reverse_cons, List.reverse_nil, List.nil_append, List.cons_append, List.all_cons, List.all_nil, ms_nl, Bool.and_true, Nat.reduceLeDiff, Nat.reduceAdd, Nat.reduceLT, Nat.reduceEqDiff, if_true, if_false, true_and, and_true, ms_rt, List.cons.injEq, exists_eq_left, exists_eq_right, exists_and_left, exists_and_right, ms_one, ite_true, ite_false, reduceIte, imp_self, Nat.zero_add, Nat.add_zero, zero_le_any, Nat.le_refl, Int.zero_add, true_or, or_true, false_implies, Int.reduceLE, Int.reduceLT, Int.reduceNeg, Int.reduceAdd, Int.reduceSub, Int.reduceMul, Int.reduceEq, not_true, not_false_iff, and_self, implies_true, false_and, and_false, or_false, false_or, bX5_vote_0, bX5_vote_1, bX5_vote_2, bX5_vote_3, bX5_vote_100, lX5_vote_0, lX5_vote_1, lX5_vote_2, lX5_vote_3, lX5_vote_100, qX5_vote, sh_b, hR, ar_43, ar_44]
    refine ⟨fun _ => ?_, fun h1 => by omega⟩
    rw [show k = (h 38 1).toNat by omega]
    exact q
  | succ j ih =>
    intro k hk
    have ih' := ih (k + 1) (by omega)
    have hwk := hw k (by omega) (by omega)
    have hsb := sm_b (g := fun v => if h 44 v = 1 then h 43 v else -h 43 v) (lo := -9) (hi := 9) k (fun i h0 h1 => by
      have := hw i h0 (by omega)
      split <;> omega)
    have e0 : vt (h 43) (h 44) k = sm (fun v => if h 44 v = 1 then h 43 v else -h 43 v) k := rfl
    refine sq_at (ms_Ok_m ms_P _) 30 100 ?_
    simp only [sq_c, jp_s, jp_c, rc_0, rc_s, ms_ex, o_iload, o_aload, o_istore, o_astore, o_iinc, o_bin, o_div, o_rem, o_neg, o_and, o_shl, o_shr, o_dup, o_pop, o_dup2, o_if, o_icmp, o_switch, o_sw, o_get, o_put, o_iald, o_iast, o_zald, o_zast, o_aald, o_aast, o_len, ob_s, ob_n, o_call, o_max, o_min, o_copy, o_obj, o_lpush, o_ladd, o_lcmp, o_iret, o_lret, o_vret, i1_c, l1_c, r1_c, st_g0, st_g1, st_g2, st_g3, st_g4, st_g5, st_g6, st_g7, st_g8, st_g9, st_s0, st_s1, st_s2, st_s3, st_s4, st_s5, st_s6, st_s7, st_s8, st_s9, List.length_cons, List.length_nil, List.take_succ_cons, List.take_zero, List.drop_succ_cons, List.drop_zero, List.reverse_cons, List.reverse_nil, List.nil_append, List.cons_append, List.all_cons, List.all_nil, ms_nl, Bool.and_true, Nat.reduceLeDiff, Nat.reduceAdd, Nat.reduceLT, Nat.reduceEqDiff, if_true, if_false, true_and, and_true, ms_rt, List.cons.injEq, exists_eq_left, exists_eq_right, exists_and_left, exists_and_right, ms_one, ite_true, ite_false, reduceIte, imp_self, Nat.zero_add, Nat.add_zero, zero_le_any, Nat.le_refl, Int.zero_add, true_or, or_true, false_implies, Int.reduceLE, Int.reduceLT, Int.reduceNeg, Int.reduceAdd, Int.reduceSub, Int.reduceMul, Int.reduceEq, not_true, not_false_iff, and_self, implies_true, false_and, and_false, or_false, false_or, bX5_vote_0, bX5_vote_1, bX5_vote_2, bX5_vote_3, bX5_vote_100, lX5_vote_0, lX5_vote_1, lX5_vote_2, lX5_vote_3, lX5_vote_100, qX5_vote, sh_b, hR, ar_43, ar_44]
    have e : vt (h 43) (h 44) (k + 1) = vt (h 43) (h 44) k + (if h 44 k = 1 then h 43 k else -h 43 k) := rfl
    refine ⟨fun h1 => by omega, fun h1 => ⟨by omega, by omega, fun h2 => ⟨by omega, by omega, rg_of (by omega) (by omega), rg_of (by omega) (by omega), rg_of (by omega) (by omega), ?_⟩, fun h2 => ⟨by omega, by omega, rg_of (by omega) (by omega), rg_of (by omega) (by omega), ?_⟩⟩⟩
    · rw [e, if_neg (by omega)] at ih'
      exact ih'
    · rw [e, if_pos (by omega)] at ih'
      exact ih'
theorem m_vote {d : Nat} {h : ms_H} {Q : ms_Q} (hv : MV h) (q : Q (some (mI (vt (h 43) (h 44) (h 38 1).toNat))) SH h) : ms_Ok ms_P (d + 1) 133 [mR 38] SH (h) Q := by
  refine ok_in (k := 30) MX5_vote rfl rfl ?_
  show sq (ms_Ok ms_P (d)) ms_X1 MX5_vote Q 30 (M_bl MX5_vote 0) [mR 38, mL 0, mL 0] [] (SH, 0, 0) (h)
  have hb := hv.2.1.2.1
  simp only [sq_c, jp_s, jp_c, rc_0, rc_s, ms_ex, o_iload, o_aload, o_istore, o_astore, o_iinc, o_bin, o_div, o_rem, o_neg, o_and, o_shl, o_shr, o_dup, o_pop, o_dup2, o_if, o_icmp, o_switch, o_sw, o_get, o_put, o_iald, o_iast, o_zald, o_zast, o_aald, o_aast, o_len, ob_s, ob_n, o_call, o_max, o_min, o_copy, o_obj, o_lpush, o_ladd, o_lcmp, o_iret, o_lret, o_vret, i1_c, l1_c, r1_c, st_g0, st_g1, st_g2, st_g3, st_g4, st_g5, st_g6, st_g7, st_g8, st_g9, st_s0, st_s1, st_s2, st_s3, st_s4, st_s5, st_s6, st_s7, st_s8, st_s9, List.length_cons, List.length_nil, List.take_succ_cons, List.take_zero, List.drop_succ_cons, List.drop_zero, List.reverse_cons, List.reverse_nil, List.nil_append, List.cons_append, List.all_cons, List.all_nil, ms_nl, Bool.and_true, Nat.reduceLeDiff, Nat.reduceAdd, Nat.reduceLT, Nat.reduceEqDiff, if_true, if_false, true_and, and_true, ms_rt, List.cons.injEq, exists_eq_left, exists_eq_right, exists_and_left, exists_and_right, ms_one, ite_true, ite_false, reduceIte, imp_self, Nat.zero_add, Nat.add_zero, zero_le_any, Nat.le_refl, Int.zero_add, true_or, or_true, false_implies, Int.reduceLE, Int.reduceLT, Int.reduceNeg, Int.reduceAdd, Int.reduceSub, Int.reduceMul, Int.reduceEq, not_true, not_false_iff, and_self, implies_true, false_and, and_false, or_false, false_or, bX5_vote_0, bX5_vote_1, bX5_vote_2, bX5_vote_3, bX5_vote_100, lX5_vote_0, lX5_vote_1, lX5_vote_2, lX5_vote_3, lX5_vote_100, qX5_vote, sh_b]
  exact m_vote_lp hv q (h 38 1).toNat 0 (by omega)
def mNow (h : ms_H) (w : Int) : Int := if w = 0 then h 38 11 else if w = 1 then sW (h 38 2) (h 45) (h 38 11) else if w = 2 then h 38 12 else if w = 3 then fm h 2 else if w = 4 then fm h 0 else if w = 5 then mWide h else if w = 6 then mStk h (h 38 0).toNat else vt (h 43) (h 44) (h 38 1).toNat
theorem m_now {d : Nat} {w : Int} {h : ms_H} {Q : ms_Q} (hv : MV h) (q1 : ¬ (0 ≤ w ∧ w ≤ 7) → Q (some (mI (-1000000))) SH h) (q2 : (0 ≤ w ∧ w ≤ 7) → Q (some (mI (mNow h w))) SH h) : ms_Ok ms_P (d + 7) 134 [mR 38, mI w] SH (h) Q := by
  refine ok_in (k := 30) MX5_now rfl rfl ?_
  show sq (ms_Ok ms_P (d + 6)) ms_X1 MX5_now Q 30 (M_bl MX5_now 0) [mR 38, mI w] [] (SH, 0, 0) (h)
  have hR := hv.1
  have hb := hv.2.1
  unfold MB at hb
  unfold RM at hR
  simp only [sq_c, jp_s, jp_c, rc_0, rc_s, ms_ex, o_iload, o_aload, o_istore, o_astore, o_iinc, o_bin, o_div, o_rem, o_neg, o_and, o_shl, o_shr, o_dup, o_pop, o_dup2, o_if, o_icmp, o_switch, o_sw, o_get, o_put, o_iald, o_iast, o_zald, o_zast, o_aald, o_aast, o_len, ob_s, ob_n, o_call, o_max, o_min, o_copy, o_obj, o_lpush, o_ladd, o_lcmp, o_iret, o_lret, o_vret, i1_c, l1_c, r1_c, st_g0, st_g1, st_g2, st_g3, st_g4, st_g5, st_g6, st_g7, st_g8, st_g9, st_s0, st_s1, st_s2, st_s3, st_s4, st_s5, st_s6, st_s7, st_s8, st_s9, List.length_cons, List.length_nil, List.take_succ_cons, List.take_zero, List.drop_succ_cons, List.drop_zero, List.reverse_cons, List.reverse_nil, List.nil_append, List.cons_append, List.all_cons, List.all_nil, ms_nl, Bool.and_true, Nat.reduceLeDiff, Nat.reduceAdd, Nat.reduceLT, Nat.reduceEqDiff, if_true, if_false, true_and, and_true, ms_rt, List.cons.injEq, exists_eq_left, exists_eq_right, exists_and_left, exists_and_right, ms_one, ite_true, ite_false, reduceIte, imp_self, Nat.zero_add, Nat.add_zero, zero_le_any, Nat.le_refl, Int.zero_add, true_or, or_true, false_implies, Int.reduceLE, Int.reduceLT, Int.reduceNeg, Int.reduceAdd, Int.reduceSub, Int.reduceMul, Int.reduceEq, not_true, not_false_iff, and_self, implies_true, false_and, and_false, or_false, false_or, bX5_now_0, bX5_now_1, bX5_now_2, bX5_now_3, bX5_now_4, bX5_now_5, bX5_now_6, bX5_now_7, bX5_now_8, bX5_now_9, lX5_now_0, lX5_now_1, lX5_now_2, lX5_now_3, lX5_now_4, lX5_now_5, lX5_now_6, lX5_now_7, lX5_now_8, lX5_now_9, qX5_now, sh_b, hR]
  refine m_in (fun r hr => ?_)
  simp only [sq_c, jp_s, jp_c, rc_0, rc_s, ms_ex, o_iload, o_aload, o_istore, o_astore, o_iinc, o_bin, o_div, o_rem, o_neg, o_and, o_shl, o_shr, o_dup, o_pop, o_dup2, o_if, o_icmp, o_switch, o_sw, o_get, o_put, o_iald, o_iast, o_zald, o_zast, o_aald, o_aast, o_len, ob_s, ob_n, o_call, o_max, o_min, o_copy, o_obj, o_lpush, o_ladd, o_lcmp, o_iret, o_lret, o_vret, i1_c, l1_c, r1_c, st_g0, st_g1, st_g2, st_g3, st_g4, st_g5, st_g6, st_g7, st_g8, st_g9, st_s0, st_s1, st_s2, st_s3, st_s4, st_s5, st_s6, st_s7, st_s8, st_s9, List.length_cons, List.length_nil, List.take_succ_cons, List.take_zero, List.drop_succ_cons, List.drop_zero, List.reverse_cons, List.reverse_nil, List.nil_append, List.cons_append, List.all_cons, List.all_nil, ms_nl, Bool.and_true, Nat.reduceLeDiff, Nat.reduceAdd, Nat.reduceLT, Nat.reduceEqDiff, if_true, if_false, true_and, and_true, ms_rt, List.cons.injEq, exists_eq_left, exists_eq_right, exists_and_left, exists_and_right, ms_one, ite_true, ite_false, reduceIte, imp_self, Nat.zero_add, Nat.add_zero, zero_le_any, Nat.le_refl, Int.zero_add, true_or, or_true, false_implies, Int.reduceLE, Int.reduceLT, Int.reduceNeg, Int.reduceAdd, Int.reduceSub, Int.reduceMul, Int.reduceEq, not_true, not_false_iff, and_self, implies_true, false_and, and_false, or_false, false_or, bX5_now_0, bX5_now_1, bX5_now_2, bX5_now_3, bX5_now_4, bX5_now_5, bX5_now_6, bX5_now_7, bX5_now_8, bX5_now_9, lX5_now_0, lX5_now_1, lX5_now_2, lX5_now_3, lX5_now_4, lX5_now_5, lX5_now_6, lX5_now_7, lX5_now_8, lX5_now_9, qX5_now, sh_b, hR]
  refine ⟨fun h1 => ?_, fun h1 => q1 (bf hr h1)⟩
  have hw := bt hr h1
  have q2 := q2 hw
  refine ⟨fun e => ?_, fun e0 => ⟨fun e => ?_, fun e1 => ⟨fun e => ?_, fun e2 => ⟨fun e => ?_, fun e3 => ⟨fun e => ?_, fun e4 => ⟨fun e => ?_, fun e5 => ⟨fun e => ?_, fun e6 => ?_⟩⟩⟩⟩⟩⟩⟩
  · subst e; exact q2
  · subst e
    refine m_warmAt hv (by omega) ?_
    simp only [sq_c, jp_s, jp_c, rc_0, rc_s, ms_ex, o_iload, o_aload, o_istore, o_astore, o_iinc, o_bin, o_div, o_rem, o_neg, o_and, o_shl, o_shr, o_dup, o_pop, o_dup2, o_if, o_icmp, o_switch, o_sw, o_get, o_put, o_iald, o_iast, o_zald, o_zast, o_aald, o_aast, o_len, ob_s, ob_n, o_call, o_max, o_min, o_copy, o_obj, o_lpush, o_ladd, o_lcmp, o_iret, o_lret, o_vret, i1_c, l1_c, r1_c, st_g0, st_g1, st_g2, st_g3, st_g4, st_g5, st_g6, st_g7, st_g8, st_g9, st_s0, st_s1, st_s2, st_s3, st_s4, st_s5, st_s6, st_s7, st_s8, st_s9, List.length_cons, List.length_nil, List.take_succ_cons, List.take_zero, List.drop_succ_cons, List.drop_zero, List.reverse_cons, List.reverse_nil, List.nil_append, List.cons_append, List.all_cons, List.all_nil, ms_nl, Bool.and_true, Nat.reduceLeDiff, Nat.reduceAdd, Nat.reduceLT, Nat.reduceEqDiff, if_true, if_false, true_and, and_true, ms_rt, List.cons.injEq, exists_eq_left, exists_eq_right, exists_and_left, exists_and_right, ms_one, ite_true, ite_false, reduceIte, imp_self, Nat.zero_add, Nat.add_zero, zero_le_any, Nat.le_refl, Int.zero_add, true_or, or_true, false_implies, Int.reduceLE, Int.reduceLT, Int.reduceNeg, Int.reduceAdd, Int.reduceSub, Int.reduceMul, Int.reduceEq, not_true, not_false_iff, and_self, implies_true, false_and, and_false, or_false, false_or, bX5_now_0, bX5_now_1, bX5_now_2, bX5_now_3, bX5_now_4, bX5_now_5, bX5_now_6, bX5_now_7, bX5_now_8, bX5_now_9, lX5_now_0, lX5_now_1, lX5_now_2, lX5_now_3, lX5_now_4, lX5_now_5, lX5_now_6, lX5_now_7, lX5_now_8, lX5_now_9, qX5_now, sh_b, hR]
    exact q2
  · subst e; exact q2
  · subst e
    refine m_fallMany hv ?_
    simp only [sq_c, jp_s, jp_c, rc_0, rc_s, ms_ex, o_iload, o_aload, o_istore, o_astore, o_iinc, o_bin, o_div, o_rem, o_neg, o_and, o_shl, o_shr, o_dup, o_pop, o_dup2, o_if, o_icmp, o_switch, o_sw, o_get, o_put, o_iald, o_iast, o_zald, o_zast, o_aald, o_aast, o_len, ob_s, ob_n, o_call, o_max, o_min, o_copy, o_obj, o_lpush, o_ladd, o_lcmp, o_iret, o_lret, o_vret, i1_c, l1_c, r1_c, st_g0, st_g1, st_g2, st_g3, st_g4, st_g5, st_g6, st_g7, st_g8, st_g9, st_s0, st_s1, st_s2, st_s3, st_s4, st_s5, st_s6, st_s7, st_s8, st_s9, List.length_cons, List.length_nil, List.take_succ_cons, List.take_zero, List.drop_succ_cons, List.drop_zero, List.reverse_cons, List.reverse_nil, List.nil_append, List.cons_append, List.all_cons, List.all_nil, ms_nl, Bool.and_true, Nat.reduceLeDiff, Nat.reduceAdd, Nat.reduceLT, Nat.reduceEqDiff, if_true, if_false, true_and, and_true, ms_rt, List.cons.injEq, exists_eq_left, exists_eq_right, exists_and_left, exists_and_right, ms_one, ite_true, ite_false, reduceIte, imp_self, Nat.zero_add, Nat.add_zero, zero_le_any, Nat.le_refl, Int.zero_add, true_or, or_true, false_implies, Int.reduceLE, Int.reduceLT, Int.reduceNeg, Int.reduceAdd, Int.reduceSub, Int.reduceMul, Int.reduceEq, not_true, not_false_iff, and_self, implies_true, false_and, and_false, or_false, false_or, bX5_now_0, bX5_now_1, bX5_now_2, bX5_now_3, bX5_now_4, bX5_now_5, bX5_now_6, bX5_now_7, bX5_now_8, bX5_now_9, lX5_now_0, lX5_now_1, lX5_now_2, lX5_now_3, lX5_now_4, lX5_now_5, lX5_now_6, lX5_now_7, lX5_now_8, lX5_now_9, qX5_now, sh_b, hR]
    exact q2
  · subst e
    refine m_fallMany hv ?_
    simp only [sq_c, jp_s, jp_c, rc_0, rc_s, ms_ex, o_iload, o_aload, o_istore, o_astore, o_iinc, o_bin, o_div, o_rem, o_neg, o_and, o_shl, o_shr, o_dup, o_pop, o_dup2, o_if, o_icmp, o_switch, o_sw, o_get, o_put, o_iald, o_iast, o_zald, o_zast, o_aald, o_aast, o_len, ob_s, ob_n, o_call, o_max, o_min, o_copy, o_obj, o_lpush, o_ladd, o_lcmp, o_iret, o_lret, o_vret, i1_c, l1_c, r1_c, st_g0, st_g1, st_g2, st_g3, st_g4, st_g5, st_g6, st_g7, st_g8, st_g9, st_s0, st_s1, st_s2, st_s3, st_s4, st_s5, st_s6, st_s7, st_s8, st_s9, List.length_cons, List.length_nil, List.take_succ_cons, List.take_zero, List.drop_succ_cons, List.drop_zero, List.reverse_cons, List.reverse_nil, List.nil_append, List.cons_append, List.all_cons, List.all_nil, ms_nl, Bool.and_true, Nat.reduceLeDiff, Nat.reduceAdd, Nat.reduceLT, Nat.reduceEqDiff, if_true, if_false, true_and, and_true, ms_rt, List.cons.injEq, exists_eq_left, exists_eq_right, exists_and_left, exists_and_right, ms_one, ite_true, ite_false, reduceIte, imp_self, Nat.zero_add, Nat.add_zero, zero_le_any, Nat.le_refl, Int.zero_add, true_or, or_true, false_implies, Int.reduceLE, Int.reduceLT, Int.reduceNeg, Int.reduceAdd, Int.reduceSub, Int.reduceMul, Int.reduceEq, not_true, not_false_iff, and_self, implies_true, false_and, and_false, or_false, false_or, bX5_now_0, bX5_now_1, bX5_now_2, bX5_now_3, bX5_now_4, bX5_now_5, bX5_now_6, bX5_now_7, bX5_now_8, bX5_now_9, lX5_now_0, lX5_now_1, lX5_now_2, lX5_now_3, lX5_now_4, lX5_now_5, lX5_now_6, lX5_now_7, lX5_now_8, lX5_now_9, qX5_now, sh_b, hR]
    exact q2
  · subst e
    refine m_widest hv ?_
    simp only [sq_c, jp_s, jp_c, rc_0, rc_s, ms_ex, o_iload, o_aload, o_istore, o_astore, o_iinc, o_bin, o_div, o_rem, o_neg, o_and, o_shl, o_shr, o_dup, o_pop, o_dup2, o_if, o_icmp, o_switch, o_sw, o_get, o_put, o_iald, o_iast, o_zald, o_zast, o_aald, o_aast, o_len, ob_s, ob_n, o_call, o_max, o_min, o_copy, o_obj, o_lpush, o_ladd, o_lcmp, o_iret, o_lret, o_vret, i1_c, l1_c, r1_c, st_g0, st_g1, st_g2, st_g3, st_g4, st_g5, st_g6, st_g7, st_g8, st_g9, st_s0, st_s1, st_s2, st_s3, st_s4, st_s5, st_s6, st_s7, st_s8, st_s9, List.length_cons, List.length_nil, List.take_succ_cons, List.take_zero, List.drop_succ_cons, List.drop_zero, List.reverse_cons, List.reverse_nil, List.nil_append, List.cons_append, List.all_cons, List.all_nil, ms_nl, Bool.and_true, Nat.reduceLeDiff, Nat.reduceAdd, Nat.reduceLT, Nat.reduceEqDiff, if_true, if_false, true_and, and_true, ms_rt, List.cons.injEq, exists_eq_left, exists_eq_right, exists_and_left, exists_and_right, ms_one, ite_true, ite_false, reduceIte, imp_self, Nat.zero_add, Nat.add_zero, zero_le_any, Nat.le_refl, Int.zero_add, true_or, or_true, false_implies, Int.reduceLE, Int.reduceLT, Int.reduceNeg, Int.reduceAdd, Int.reduceSub, Int.reduceMul, Int.reduceEq, not_true, not_false_iff, and_self, implies_true, false_and, and_false, or_false, false_or, bX5_now_0, bX5_now_1, bX5_now_2, bX5_now_3, bX5_now_4, bX5_now_5, bX5_now_6, bX5_now_7, bX5_now_8, bX5_now_9, lX5_now_0, lX5_now_1, lX5_now_2, lX5_now_3, lX5_now_4, lX5_now_5, lX5_now_6, lX5_now_7, lX5_now_8, lX5_now_9, qX5_now, sh_b, hR]
    exact q2
  · subst e
    refine m_stakeMany hv ?_
    simp only [sq_c, jp_s, jp_c, rc_0, rc_s, ms_ex, o_iload, o_aload, o_istore, o_astore, o_iinc, o_bin, o_div, o_rem, o_neg, o_and, o_shl, o_shr, o_dup, o_pop, o_dup2, o_if, o_icmp, o_switch, o_sw, o_get, o_put, o_iald, o_iast, o_zald, o_zast, o_aald, o_aast, o_len, ob_s, ob_n, o_call, o_max, o_min, o_copy, o_obj, o_lpush, o_ladd, o_lcmp, o_iret, o_lret, o_vret, i1_c, l1_c, r1_c, st_g0, st_g1, st_g2, st_g3, st_g4, st_g5, st_g6, st_g7, st_g8, st_g9, st_s0, st_s1, st_s2, st_s3, st_s4, st_s5, st_s6, st_s7, st_s8, st_s9, List.length_cons, List.length_nil, List.take_succ_cons, List.take_zero, List.drop_succ_cons, List.drop_zero, List.reverse_cons, List.reverse_nil, List.nil_append, List.cons_append, List.all_cons, List.all_nil, ms_nl, Bool.and_true, Nat.reduceLeDiff, Nat.reduceAdd, Nat.reduceLT, Nat.reduceEqDiff, if_true, if_false, true_and, and_true, ms_rt, List.cons.injEq, exists_eq_left, exists_eq_right, exists_and_left, exists_and_right, ms_one, ite_true, ite_false, reduceIte, imp_self, Nat.zero_add, Nat.add_zero, zero_le_any, Nat.le_refl, Int.zero_add, true_or, or_true, false_implies, Int.reduceLE, Int.reduceLT, Int.reduceNeg, Int.reduceAdd, Int.reduceSub, Int.reduceMul, Int.reduceEq, not_true, not_false_iff, and_self, implies_true, false_and, and_false, or_false, false_or, bX5_now_0, bX5_now_1, bX5_now_2, bX5_now_3, bX5_now_4, bX5_now_5, bX5_now_6, bX5_now_7, bX5_now_8, bX5_now_9, lX5_now_0, lX5_now_1, lX5_now_2, lX5_now_3, lX5_now_4, lX5_now_5, lX5_now_6, lX5_now_7, lX5_now_8, lX5_now_9, qX5_now, sh_b, hR]
    exact q2
  · have e : w = 7 := by omega
    subst e
    refine m_vote hv ?_
    simp only [sq_c, jp_s, jp_c, rc_0, rc_s, ms_ex, o_iload, o_aload, o_istore, o_astore, o_iinc, o_bin, o_div, o_rem, o_neg, o_and, o_shl, o_shr, o_dup, o_pop, o_dup2, o_if, o_icmp, o_switch, o_sw, o_get, o_put, o_iald, o_iast, o_zald, o_zast, o_aald, o_aast, o_len, ob_s, ob_n, o_call, o_max, o_min, o_copy, o_obj, o_lpush, o_ladd, o_lcmp, o_iret, o_lret, o_vret, i1_c, l1_c, r1_c, st_g0, st_g1, st_g2, st_g3, st_g4, st_g5, st_g6, st_g7, st_g8, st_g9, st_s0, st_s1, st_s2, st_s3, st_s4, st_s5, st_s6, st_s7, st_s8, st_s9, List.length_cons, List.length_nil, List.take_succ_cons, List.take_zero, List.drop_succ_cons, List.drop_zero, List.reverse_cons, List.reverse_nil, List.nil_append, List.cons_append, List.all_cons, List.all_nil, ms_nl, Bool.and_true, Nat.reduceLeDiff, Nat.reduceAdd, Nat.reduceLT, Nat.reduceEqDiff, if_true, if_false, true_and, and_true, ms_rt, List.cons.injEq, exists_eq_left, exists_eq_right, exists_and_left, exists_and_right, ms_one, ite_true, ite_false, reduceIte, imp_self, Nat.zero_add, Nat.add_zero, zero_le_any, Nat.le_refl, Int.zero_add, true_or, or_true, false_implies, Int.reduceLE, Int.reduceLT, Int.reduceNeg, Int.reduceAdd, Int.reduceSub, Int.reduceMul, Int.reduceEq, not_true, not_false_iff, and_self, implies_true, false_and, and_false, or_false, false_or, bX5_now_0, bX5_now_1, bX5_now_2, bX5_now_3, bX5_now_4, bX5_now_5, bX5_now_6, bX5_now_7, bX5_now_8, bX5_now_9, lX5_now_0, lX5_now_1, lX5_now_2, lX5_now_3, lX5_now_4, lX5_now_5, lX5_now_6, lX5_now_7, lX5_now_8, lX5_now_9, qX5_now, sh_b, hR]
    exact q2
def mG (h : ms_H) (c f : Int) (k : Int) : Int := sW (h 38 2) (h 45) (h 38 11 + k) + h 38 12 - h 40 c - f
theorem m_first_lp {d : Nat} {h : ms_H} {Q : ms_Q} {c f : Int} (hv : MV h) (hc : 0 ≤ c ∧ c < h 38 0) (hf : 0 ≤ f ∧ f ≤ 7) {R : Int} (q : Q (some (mI R)) SH h) : ∀ (j : Nat) (k : Int), k + j = 100 → 0 ≤ k → fst0 (mG h c f) j k = R → ms_at (ms_Ok ms_P (d + 3)) ms_X1 MX5_first Q 100 [mR 38, mI c, mI f, mI k] [] (SH, 0, 0) (h) := by
  have hb := hv.2.1
  unfold MB at hb
  intro j
  induction j with
  | zero =>
    intro k hk h0 he
    refine sq_at (ms_Ok_m ms_P _) 30 100 ?_
    simp only [sq_c, jp_s, jp_c, rc_0, rc_s, ms_ex, o_iload, o_aload, o_istore, o_astore, o_iinc, o_bin, o_div, o_rem, o_neg, o_and, o_shl, o_shr, o_dup, o_pop, o_dup2, o_if, o_icmp, o_switch, o_sw, o_get, o_put, o_iald, o_iast, o_zald, o_zast, o_aald, o_aast, o_len, ob_s, ob_n, o_call, o_max, o_min, o_copy, o_obj, o_lpush, o_ladd, o_lcmp, o_iret, o_lret, o_vret, i1_c, l1_c, r1_c, st_g0, st_g1, st_g2, st_g3, st_g4, st_g5, st_g6, st_g7, st_g8, st_g9, st_s0, st_s1, st_s2, st_s3, st_s4, st_s5, st_s6, st_s7, st_s8, st_s9, List.length_cons, List.length_nil, List.take_succ_cons, List.take_zero, List.drop_succ_cons, List.drop_zero, List.reverse_cons, List.reverse_nil, List.nil_append, List.cons_append, List.all_cons, List.all_nil, ms_nl, Bool.and_true, Nat.reduceLeDiff, Nat.reduceAdd, Nat.reduceLT, Nat.reduceEqDiff, if_true, if_false, true_and, and_true, ms_rt, List.cons.injEq, exists_eq_left, exists_eq_right, exists_and_left, exists_and_right, ms_one, ite_true, ite_false, reduceIte, imp_self, Nat.zero_add, Nat.add_zero, zero_le_any, Nat.le_refl, Int.zero_add, true_or, or_true, false_implies, Int.reduceLE, Int.reduceLT, Int.reduceNeg, Int.reduceAdd, Int.reduceSub, Int.reduceMul, Int.reduceEq, not_true, not_false_iff, and_self, implies_true, false_and, and_false, or_false, false_or, bX5_first_0, bX5_first_1, bX5_first_2, bX5_first_3, bX5_first_4, bX5_first_100, lX5_first_0, lX5_first_1, lX5_first_2, lX5_first_3, lX5_first_4, lX5_first_100, qX5_first, sh_b]
    refine ⟨fun _ => ?_, fun h1 => by omega⟩
    rw [← he] at q
    exact q
  | succ j ih =>
    intro k hk h0 he
    have hwm := MV_warm hv (n := h 38 11 + k)
    refine sq_at (ms_Ok_m ms_P _) 30 100 ?_
    simp only [sq_c, jp_s, jp_c, rc_0, rc_s, ms_ex, o_iload, o_aload, o_istore, o_astore, o_iinc, o_bin, o_div, o_rem, o_neg, o_and, o_shl, o_shr, o_dup, o_pop, o_dup2, o_if, o_icmp, o_switch, o_sw, o_get, o_put, o_iald, o_iast, o_zald, o_zast, o_aald, o_aast, o_len, ob_s, ob_n, o_call, o_max, o_min, o_copy, o_obj, o_lpush, o_ladd, o_lcmp, o_iret, o_lret, o_vret, i1_c, l1_c, r1_c, st_g0, st_g1, st_g2, st_g3, st_g4, st_g5, st_g6, st_g7, st_g8, st_g9, st_s0, st_s1, st_s2, st_s3, st_s4, st_s5, st_s6, st_s7, st_s8, st_s9, List.length_cons, List.length_nil, List.take_succ_cons, List.take_zero, List.drop_succ_cons, List.drop_zero, List.reverse_cons, List.reverse_nil, List.nil_append, List.cons_append, List.all_cons, List.all_nil, ms_nl, Bool.and_true, Nat.reduceLeDiff, Nat.reduceAdd, Nat.reduceLT, Nat.reduceEqDiff, if_true, if_false, true_and, and_true, ms_rt, List.cons.injEq, exists_eq_left, exists_eq_right, exists_and_left, exists_and_right, ms_one, ite_true, ite_false, reduceIte, imp_self, Nat.zero_add, Nat.add_zero, zero_le_any, Nat.le_refl, Int.zero_add, true_or, or_true, false_implies, Int.reduceLE, Int.reduceLT, Int.reduceNeg, Int.reduceAdd, Int.reduceSub, Int.reduceMul, Int.reduceEq, not_true, not_false_iff, and_self, implies_true, false_and, and_false, or_false, false_or, bX5_first_0, bX5_first_1, bX5_first_2, bX5_first_3, bX5_first_4, bX5_first_100, lX5_first_0, lX5_first_1, lX5_first_2, lX5_first_3, lX5_first_4, lX5_first_100, qX5_first, sh_b]
    refine ⟨fun h1 => by omega, fun h1 => ⟨rg_of (by omega) (by omega), ?_⟩⟩
    refine m_warmAt hv (by omega) ?_
    simp only [sq_c, jp_s, jp_c, rc_0, rc_s, ms_ex, o_iload, o_aload, o_istore, o_astore, o_iinc, o_bin, o_div, o_rem, o_neg, o_and, o_shl, o_shr, o_dup, o_pop, o_dup2, o_if, o_icmp, o_switch, o_sw, o_get, o_put, o_iald, o_iast, o_zald, o_zast, o_aald, o_aast, o_len, ob_s, ob_n, o_call, o_max, o_min, o_copy, o_obj, o_lpush, o_ladd, o_lcmp, o_iret, o_lret, o_vret, i1_c, l1_c, r1_c, st_g0, st_g1, st_g2, st_g3, st_g4, st_g5, st_g6, st_g7, st_g8, st_g9, st_s0, st_s1, st_s2, st_s3, st_s4, st_s5, st_s6, st_s7, st_s8, st_s9, List.length_cons, List.length_nil, List.take_succ_cons, List.take_zero, List.drop_succ_cons, List.drop_zero, List.reverse_cons, List.reverse_nil, List.nil_append, List.cons_append, List.all_cons, List.all_nil, ms_nl, Bool.and_true, Nat.reduceLeDiff, Nat.reduceAdd, Nat.reduceLT, Nat.reduceEqDiff, if_true, if_false, true_and, and_true, ms_rt, List.cons.injEq, exists_eq_left, exists_eq_right, exists_and_left, exists_and_right, ms_one, ite_true, ite_false, reduceIte, imp_self, Nat.zero_add, Nat.add_zero, zero_le_any, Nat.le_refl, Int.zero_add, true_or, or_true, false_implies, Int.reduceLE, Int.reduceLT, Int.reduceNeg, Int.reduceAdd, Int.reduceSub, Int.reduceMul, Int.reduceEq, not_true, not_false_iff, and_self, implies_true, false_and, and_false, or_false, false_or, bX5_first_0, bX5_first_1, bX5_first_2, bX5_first_3, bX5_first_4, bX5_first_100, lX5_first_0, lX5_first_1, lX5_first_2, lX5_first_3, lX5_first_4, lX5_first_100, qX5_first, sh_b]
    refine ⟨rg_of (by omega) (by omega), ?_⟩
    refine m_mildBy hv (by omega) hc (by omega) ?_
    simp only [sq_c, jp_s, jp_c, rc_0, rc_s, ms_ex, o_iload, o_aload, o_istore, o_astore, o_iinc, o_bin, o_div, o_rem, o_neg, o_and, o_shl, o_shr, o_dup, o_pop, o_dup2, o_if, o_icmp, o_switch, o_sw, o_get, o_put, o_iald, o_iast, o_zald, o_zast, o_aald, o_aast, o_len, ob_s, ob_n, o_call, o_max, o_min, o_copy, o_obj, o_lpush, o_ladd, o_lcmp, o_iret, o_lret, o_vret, i1_c, l1_c, r1_c, st_g0, st_g1, st_g2, st_g3, st_g4, st_g5, st_g6, st_g7, st_g8, st_g9, st_s0, st_s1, st_s2, st_s3, st_s4, st_s5, st_s6, st_s7, st_s8, st_s9, List.length_cons, List.length_nil, List.take_succ_cons, List.take_zero, List.drop_succ_cons, List.drop_zero, List.reverse_cons, List.reverse_nil, List.nil_append, List.cons_append, List.all_cons, List.all_nil, ms_nl, Bool.and_true, Nat.reduceLeDiff, Nat.reduceAdd, Nat.reduceLT, Nat.reduceEqDiff, if_true, if_false, true_and, and_true, ms_rt, List.cons.injEq, exists_eq_left, exists_eq_right, exists_and_left, exists_and_right, ms_one, ite_true, ite_false, reduceIte, imp_self, Nat.zero_add, Nat.add_zero, zero_le_any, Nat.le_refl, Int.zero_add, true_or, or_true, false_implies, Int.reduceLE, Int.reduceLT, Int.reduceNeg, Int.reduceAdd, Int.reduceSub, Int.reduceMul, Int.reduceEq, not_true, not_false_iff, and_self, implies_true, false_and, and_false, or_false, false_or, bX5_first_0, bX5_first_1, bX5_first_2, bX5_first_3, bX5_first_4, bX5_first_100, lX5_first_0, lX5_first_1, lX5_first_2, lX5_first_3, lX5_first_4, lX5_first_100, qX5_first, sh_b]
    unfold fst0 at he
    have eg : mG h c f k = sW (h 38 2) (h 45) (h 38 11 + k) + h 38 12 - h 40 c - f := rfl
    refine ⟨fun h2 => ⟨rg_of (by omega) (by omega), ?_⟩, fun h2 => ?_⟩
    · rw [if_neg (by omega)] at he
      exact ih _ (by omega) (by omega) he
    · rw [if_pos (by omega)] at he
      rw [← he] at q
      exact q
theorem m_first {d : Nat} {c f : Int} {h : ms_H} {Q : ms_Q} (hv : MV h) (q1 : ¬ ((0 ≤ c ∧ c < h 38 0) ∧ 0 ≤ f ∧ f ≤ 7) → Q (some (mI (-1))) SH h) (q2 : (0 ≤ c ∧ c < h 38 0) → (0 ≤ f ∧ f ≤ 7) → Q (some (mI (fst0 (mG h c f) 100 0))) SH h) : ms_Ok ms_P (d + 4) 135 [mR 38, mI c, mI f] SH (h) Q := by
  refine ok_in (k := 30) MX5_first rfl rfl ?_
  show sq (ms_Ok ms_P (d + 3)) ms_X1 MX5_first Q 30 (M_bl MX5_first 0) [mR 38, mI c, mI f, mL 0] [] (SH, 0, 0) (h)
  simp only [sq_c, jp_s, jp_c, rc_0, rc_s, ms_ex, o_iload, o_aload, o_istore, o_astore, o_iinc, o_bin, o_div, o_rem, o_neg, o_and, o_shl, o_shr, o_dup, o_pop, o_dup2, o_if, o_icmp, o_switch, o_sw, o_get, o_put, o_iald, o_iast, o_zald, o_zast, o_aald, o_aast, o_len, ob_s, ob_n, o_call, o_max, o_min, o_copy, o_obj, o_lpush, o_ladd, o_lcmp, o_iret, o_lret, o_vret, i1_c, l1_c, r1_c, st_g0, st_g1, st_g2, st_g3, st_g4, st_g5, st_g6, st_g7, st_g8, st_g9, st_s0, st_s1, st_s2, st_s3, st_s4, st_s5, st_s6, st_s7, st_s8, st_s9, List.length_cons, List.length_nil, List.take_succ_cons, List.take_zero, List.drop_succ_cons, List.drop_zero, List.reverse_cons, List.reverse_nil, List.nil_append, List.cons_append, List.all_cons, List.all_nil, ms_nl, Bool.and_true, Nat.reduceLeDiff, Nat.reduceAdd, Nat.reduceLT, Nat.reduceEqDiff, if_true, if_false, true_and, and_true, ms_rt, List.cons.injEq, exists_eq_left, exists_eq_right, exists_and_left, exists_and_right, ms_one, ite_true, ite_false, reduceIte, imp_self, Nat.zero_add, Nat.add_zero, zero_le_any, Nat.le_refl, Int.zero_add, true_or, or_true, false_implies, Int.reduceLE, Int.reduceLT, Int.reduceNeg, Int.reduceAdd, Int.reduceSub, Int.reduceMul, Int.reduceEq, not_true, not_false_iff, and_self, implies_true, false_and, and_false, or_false, false_or, bX5_first_0, bX5_first_1, bX5_first_2, bX5_first_3, bX5_first_4, bX5_first_100, lX5_first_0, lX5_first_1, lX5_first_2, lX5_first_3, lX5_first_4, lX5_first_100, qX5_first, sh_b]
  refine m_isColumn hv (fun r hr => ?_)
  simp only [sq_c, jp_s, jp_c, rc_0, rc_s, ms_ex, o_iload, o_aload, o_istore, o_astore, o_iinc, o_bin, o_div, o_rem, o_neg, o_and, o_shl, o_shr, o_dup, o_pop, o_dup2, o_if, o_icmp, o_switch, o_sw, o_get, o_put, o_iald, o_iast, o_zald, o_zast, o_aald, o_aast, o_len, ob_s, ob_n, o_call, o_max, o_min, o_copy, o_obj, o_lpush, o_ladd, o_lcmp, o_iret, o_lret, o_vret, i1_c, l1_c, r1_c, st_g0, st_g1, st_g2, st_g3, st_g4, st_g5, st_g6, st_g7, st_g8, st_g9, st_s0, st_s1, st_s2, st_s3, st_s4, st_s5, st_s6, st_s7, st_s8, st_s9, List.length_cons, List.length_nil, List.take_succ_cons, List.take_zero, List.drop_succ_cons, List.drop_zero, List.reverse_cons, List.reverse_nil, List.nil_append, List.cons_append, List.all_cons, List.all_nil, ms_nl, Bool.and_true, Nat.reduceLeDiff, Nat.reduceAdd, Nat.reduceLT, Nat.reduceEqDiff, if_true, if_false, true_and, and_true, ms_rt, List.cons.injEq, exists_eq_left, exists_eq_right, exists_and_left, exists_and_right, ms_one, ite_true, ite_false, reduceIte, imp_self, Nat.zero_add, Nat.add_zero, zero_le_any, Nat.le_refl, Int.zero_add, true_or, or_true, false_implies, Int.reduceLE, Int.reduceLT, Int.reduceNeg, Int.reduceAdd, Int.reduceSub, Int.reduceMul, Int.reduceEq, not_true, not_false_iff, and_self, implies_true, false_and, and_false, or_false, false_or, bX5_first_0, bX5_first_1, bX5_first_2, bX5_first_3, bX5_first_4, bX5_first_100, lX5_first_0, lX5_first_1, lX5_first_2, lX5_first_3, lX5_first_4, lX5_first_100, qX5_first, sh_b]
  refine ⟨fun h1 => q1 (fun z => bf hr h1 z.1), fun h1 => ?_⟩
  refine m_isField (fun r2 hr2 => ?_)
  simp only [sq_c, jp_s, jp_c, rc_0, rc_s, ms_ex, o_iload, o_aload, o_istore, o_astore, o_iinc, o_bin, o_div, o_rem, o_neg, o_and, o_shl, o_shr, o_dup, o_pop, o_dup2, o_if, o_icmp, o_switch, o_sw, o_get, o_put, o_iald, o_iast, o_zald, o_zast, o_aald, o_aast, o_len, ob_s, ob_n, o_call, o_max, o_min, o_copy, o_obj, o_lpush, o_ladd, o_lcmp, o_iret, o_lret, o_vret, i1_c, l1_c, r1_c, st_g0, st_g1, st_g2, st_g3, st_g4, st_g5, st_g6, st_g7, st_g8, st_g9, st_s0, st_s1, st_s2, st_s3, st_s4, st_s5, st_s6, st_s7, st_s8, st_s9, List.length_cons, List.length_nil, List.take_succ_cons, List.take_zero, List.drop_succ_cons, List.drop_zero, List.reverse_cons, List.reverse_nil, List.nil_append, List.cons_append, List.all_cons, List.all_nil, ms_nl, Bool.and_true, Nat.reduceLeDiff, Nat.reduceAdd, Nat.reduceLT, Nat.reduceEqDiff, if_true, if_false, true_and, and_true, ms_rt, List.cons.injEq, exists_eq_left, exists_eq_right, exists_and_left, exists_and_right, ms_one, ite_true, ite_false, reduceIte, imp_self, Nat.zero_add, Nat.add_zero, zero_le_any, Nat.le_refl, Int.zero_add, true_or, or_true, false_implies, Int.reduceLE, Int.reduceLT, Int.reduceNeg, Int.reduceAdd, Int.reduceSub, Int.reduceMul, Int.reduceEq, not_true, not_false_iff, and_self, implies_true, false_and, and_false, or_false, false_or, bX5_first_0, bX5_first_1, bX5_first_2, bX5_first_3, bX5_first_4, bX5_first_100, lX5_first_0, lX5_first_1, lX5_first_2, lX5_first_3, lX5_first_4, lX5_first_100, qX5_first, sh_b]
  refine ⟨fun h2 => ?_, fun h2 => q1 (fun z => bf hr2 h2 z.2)⟩
  exact m_first_lp (R := fst0 (mG h c f) 100 0) hv (bt hr h1) (bt hr2 h2) (q2 (bt hr h1) (bt hr2 h2)) 100 0 (by omega) (by omega) rfl
end
section
/-! The model: notes, days, warmth, stakes, what is undone. -/
def snap (h : ms_H) (j : Int) : Int := if j = 0 then h 38 11 else if j = 1 then h 38 12 else h 46 (j - 2)
def wrP (h : ms_H) (z at_ m : Int) : ms_H := fun a b => if a = z ∧ at_ ≤ b ∧ b < at_ + m then snap h (b - at_) else h a b
def wrH (h : ms_H) (z at_ : Int) : ms_H := wrP h z at_ 10
theorem wrP_v (h : ms_H) (z at_ m a b : Int) : wrP h z at_ m a b = if a = z ∧ at_ ≤ b ∧ b < at_ + m then snap h (b - at_) else h a b := rfl
theorem wrH_v (h : ms_H) (z at_ a b : Int) : wrH h z at_ a b = if a = z ∧ at_ ≤ b ∧ b < at_ + 10 then snap h (b - at_) else h a b := rfl
theorem wrP_0 {h : ms_H} {z at_ : Int} : hs (hs h z at_ (h 38 11)) z (at_ + 1) (h 38 12) = wrP h z at_ 2 := by
  funext a b
  unfold hs wrP snap
  by_cases h1 : a = z
  · by_cases h2 : b = at_
    · rw [if_neg (by omega), if_pos ⟨h1, h2⟩, if_pos (by omega), if_pos (by omega)]
    · by_cases h3 : b = at_ + 1
      · rw [if_pos ⟨h1, h3⟩, if_pos (by omega), if_neg (by omega), if_pos (by omega)]
      · rw [if_neg (by omega), if_neg (by omega), if_neg (by omega)]
  · rw [if_neg (by omega), if_neg (by omega), if_neg (by omega)]
theorem wrP_s {h : ms_H} {z at_ c : Int} (h0 : 0 ≤ c) : hs (wrP h z at_ (2 + c)) z (at_ + 2 + c) (h 46 c) = wrP h z at_ (2 + (c + 1)) := by
  funext a b
  unfold hs wrP
  by_cases h1 : a = z
  · by_cases h2 : b = at_ + 2 + c
    · rw [if_pos ⟨h1, h2⟩, if_pos (by omega)]
      unfold snap
      rw [if_neg (by omega), if_neg (by omega)]
      congr 1
      omega
    · rw [if_neg (by omega)]
      by_cases h3 : at_ ≤ b ∧ b < at_ + (2 + c)
      · rw [if_pos ⟨h1, h3⟩, if_pos (by omega)]
      · rw [if_neg (fun q => h3 q.2), if_neg (by omega)]
  · rw [if_neg (by omega), if_neg (by omega), if_neg (by omega)]
theorem m_writes_lp {d : Nat} {h : ms_H} {Q : ms_Q} {z at_ N : Int} (hR : RM h) (har : ∀ i k, ms_ar SH z 10 i k = (0 ≤ i ∧ i < N ∧ k)) (hz : ¬ 38 = z ∧ ¬ 46 = z) (ha : 0 ≤ at_ ∧ at_ + 10 ≤ N ∧ N ≤ 1000) (q : Q none SH (wrH h z at_)) : ∀ (j : Nat) (c : Int), c + j = 8 → 0 ≤ c → ms_at (ms_Ok ms_P (d)) ms_X1 MX5_writes Q 100 [mR 38, mR z, mI at_, mI c] [] (SH, 0, 0) (wrP h z at_ (2 + c)) := by
  unfold RM at hR
  intro j
  induction j with
  | zero =>
    intro c hc h0
    have : c = 8 := by omega
    subst this
    refine sq_at (ms_Ok_m ms_P _) 30 100 ?_
    simp only [sq_c, jp_s, jp_c, rc_0, rc_s, ms_ex, o_iload, o_aload, o_istore, o_astore, o_iinc, o_bin, o_div, o_rem, o_neg, o_and, o_shl, o_shr, o_dup, o_pop, o_dup2, o_if, o_icmp, o_switch, o_sw, o_get, o_put, o_iald, o_iast, o_zald, o_zast, o_aald, o_aast, o_len, ob_s, ob_n, o_call, o_max, o_min, o_copy, o_obj, o_lpush, o_ladd, o_lcmp, o_iret, o_lret, o_vret, i1_c, l1_c, r1_c, st_g0, st_g1, st_g2, st_g3, st_g4, st_g5, st_g6, st_g7, st_g8, st_g9, st_s0, st_s1, st_s2, st_s3, st_s4, st_s5, st_s6, st_s7, st_s8, st_s9, List.length_cons, List.length_nil, List.take_succ_cons, List.take_zero, List.drop_succ_cons, List.drop_zero, List.reverse_cons, List.reverse_nil, List.nil_append, List.cons_append, List.all_cons, List.all_nil, ms_nl, Bool.and_true, Nat.reduceLeDiff, Nat.reduceAdd, Nat.reduceLT, Nat.reduceEqDiff, if_true, if_false, true_and, and_true, ms_rt, List.cons.injEq, exists_eq_left, exists_eq_right, exists_and_left, exists_and_right, ms_one, ite_true, ite_false, reduceIte, imp_self, Nat.zero_add, Nat.add_zero, zero_le_any, Nat.le_refl, Int.zero_add, true_or, or_true, false_implies, Int.reduceLE, Int.reduceLT, Int.reduceNeg, Int.reduceAdd, Int.reduceSub, Int.reduceMul, Int.reduceEq, not_true, not_false_iff, and_self, implies_true, false_and, and_false, or_false, false_or, bX5_writes_0, bX5_writes_1, bX5_writes_100, lX5_writes_0, lX5_writes_1, lX5_writes_100, qX5_writes, sh_b, hR, wrP_v, hz]
    exact q
  | succ j ih =>
    intro c hc h0
    have ih' := ih (c + 1) (by omega) (by omega)
    refine sq_at (ms_Ok_m ms_P _) 30 100 ?_
    simp only [sq_c, jp_s, jp_c, rc_0, rc_s, ms_ex, o_iload, o_aload, o_istore, o_astore, o_iinc, o_bin, o_div, o_rem, o_neg, o_and, o_shl, o_shr, o_dup, o_pop, o_dup2, o_if, o_icmp, o_switch, o_sw, o_get, o_put, o_iald, o_iast, o_zald, o_zast, o_aald, o_aast, o_len, ob_s, ob_n, o_call, o_max, o_min, o_copy, o_obj, o_lpush, o_ladd, o_lcmp, o_iret, o_lret, o_vret, i1_c, l1_c, r1_c, st_g0, st_g1, st_g2, st_g3, st_g4, st_g5, st_g6, st_g7, st_g8, st_g9, st_s0, st_s1, st_s2, st_s3, st_s4, st_s5, st_s6, st_s7, st_s8, st_s9, List.length_cons, List.length_nil, List.take_succ_cons, List.take_zero, List.drop_succ_cons, List.drop_zero, List.reverse_cons, List.reverse_nil, List.nil_append, List.cons_append, List.all_cons, List.all_nil, ms_nl, Bool.and_true, Nat.reduceLeDiff, Nat.reduceAdd, Nat.reduceLT, Nat.reduceEqDiff, if_true, if_false, true_and, and_true, ms_rt, List.cons.injEq, exists_eq_left, exists_eq_right, exists_and_left, exists_and_right, ms_one, ite_true, ite_false, reduceIte, imp_self, Nat.zero_add, Nat.add_zero, zero_le_any, Nat.le_refl, Int.zero_add, true_or, or_true, false_implies, Int.reduceLE, Int.reduceLT, Int.reduceNeg, Int.reduceAdd, Int.reduceSub, Int.reduceMul, Int.reduceEq, not_true, not_false_iff, and_self, implies_true, false_and, and_false, or_false, false_or, bX5_writes_0, bX5_writes_1, bX5_writes_100, lX5_writes_0, lX5_writes_1, lX5_writes_100, qX5_writes, sh_b, hR, wrP_v, hz, har, ar_46]
    refine ⟨fun h1 => by omega, fun h1 => ⟨rg_of (by omega) (by omega), rg_of (by omega) (by omega), by omega, by omega, by omega, by omega, rg_of (by omega) (by omega), ?_⟩⟩
    rw [wrP_s h0]
    exact ih'
theorem m_writes {d : Nat} {h : ms_H} {Q : ms_Q} {z at_ N : Int} (hR : RM h) (har : ∀ i k, ms_ar SH z 10 i k = (0 ≤ i ∧ i < N ∧ k)) (hz : ¬ 38 = z ∧ ¬ 46 = z) (ha : 0 ≤ at_ ∧ at_ + 10 ≤ N ∧ N ≤ 1000) (q : Q none SH (wrH h z at_)) : ms_Ok ms_P (d + 1) 123 [mR 38, mR z, mI at_] SH (h) Q := by
  refine ok_in (k := 30) MX5_writes rfl rfl ?_
  show sq (ms_Ok ms_P (d)) ms_X1 MX5_writes Q 30 (M_bl MX5_writes 0) [mR 38, mR z, mI at_, mL 0] [] (SH, 0, 0) (h)
  have hR2 := hR
  unfold RM at hR2
  simp only [sq_c, jp_s, jp_c, rc_0, rc_s, ms_ex, o_iload, o_aload, o_istore, o_astore, o_iinc, o_bin, o_div, o_rem, o_neg, o_and, o_shl, o_shr, o_dup, o_pop, o_dup2, o_if, o_icmp, o_switch, o_sw, o_get, o_put, o_iald, o_iast, o_zald, o_zast, o_aald, o_aast, o_len, ob_s, ob_n, o_call, o_max, o_min, o_copy, o_obj, o_lpush, o_ladd, o_lcmp, o_iret, o_lret, o_vret, i1_c, l1_c, r1_c, st_g0, st_g1, st_g2, st_g3, st_g4, st_g5, st_g6, st_g7, st_g8, st_g9, st_s0, st_s1, st_s2, st_s3, st_s4, st_s5, st_s6, st_s7, st_s8, st_s9, List.length_cons, List.length_nil, List.take_succ_cons, List.take_zero, List.drop_succ_cons, List.drop_zero, List.reverse_cons, List.reverse_nil, List.nil_append, List.cons_append, List.all_cons, List.all_nil, ms_nl, Bool.and_true, Nat.reduceLeDiff, Nat.reduceAdd, Nat.reduceLT, Nat.reduceEqDiff, if_true, if_false, true_and, and_true, ms_rt, List.cons.injEq, exists_eq_left, exists_eq_right, exists_and_left, exists_and_right, ms_one, ite_true, ite_false, reduceIte, imp_self, Nat.zero_add, Nat.add_zero, zero_le_any, Nat.le_refl, Int.zero_add, true_or, or_true, false_implies, Int.reduceLE, Int.reduceLT, Int.reduceNeg, Int.reduceAdd, Int.reduceSub, Int.reduceMul, Int.reduceEq, not_true, not_false_iff, and_self, implies_true, false_and, and_false, or_false, false_or, bX5_writes_0, bX5_writes_1, bX5_writes_100, lX5_writes_0, lX5_writes_1, lX5_writes_100, qX5_writes, sh_b, hR2, har, hs_v, hz]
  refine ⟨by omega, by omega, rg_of (by omega) (by omega), by omega, by omega, ?_⟩
  rw [wrP_0]
  exact m_writes_lp hR har hz ha q 8 0 (by omega) (by omega)
def rbP (h : ms_H) (z at_ m : Int) : ms_H := fun a b => if a = 38 ∧ b = 11 then h z at_ else if a = 38 ∧ b = 12 then h z (at_ + 1) else if a = 46 ∧ 0 ≤ b ∧ b < m then h z (at_ + 2 + b) else h a b
def rbH (h : ms_H) (z at_ : Int) : ms_H := rbP h z at_ 8
theorem rbP_v (h : ms_H) (z at_ m a b : Int) : rbP h z at_ m a b = if a = 38 ∧ b = 11 then h z at_ else if a = 38 ∧ b = 12 then h z (at_ + 1) else if a = 46 ∧ 0 ≤ b ∧ b < m then h z (at_ + 2 + b) else h a b := rfl
theorem rbH_v (h : ms_H) (z at_ a b : Int) : rbH h z at_ a b = if a = 38 ∧ b = 11 then h z at_ else if a = 38 ∧ b = 12 then h z (at_ + 1) else if a = 46 ∧ 0 ≤ b ∧ b < 8 then h z (at_ + 2 + b) else h a b := rfl
theorem rbP_0 {h : ms_H} {z at_ : Int} : hs (hs h 38 11 (h z at_)) 38 12 (h z (at_ + 1)) = rbP h z at_ 0 := by
  funext a b
  unfold hs rbP
  by_cases h1 : a = 38 ∧ b = 11
  · rw [if_neg (by omega), if_pos h1, if_pos h1]
  · rw [if_neg h1, if_neg h1]
    by_cases h2 : a = 38 ∧ b = 12
    · rw [if_pos h2, if_pos h2]
    · rw [if_neg h2, if_neg h2, if_neg (by omega)]
theorem rbP_s {h : ms_H} {z at_ c : Int} (h0 : 0 ≤ c) : hs (rbP h z at_ c) 46 c (h z (at_ + 2 + c)) = rbP h z at_ (c + 1) := by
  funext a b
  unfold hs rbP
  by_cases h1 : a = 46 ∧ b = c
  · rw [if_pos h1, if_neg (by omega), if_neg (by omega), if_pos (by omega), h1.2]
  · rw [if_neg h1]
    by_cases h2 : a = 46 ∧ 0 ≤ b ∧ b < c
    · rw [if_neg (by omega), if_neg (by omega), if_pos h2, if_neg (by omega), if_neg (by omega), if_pos (by omega)]
    · rw [if_neg h2, if_neg (show ¬ (a = 46 ∧ 0 ≤ b ∧ b < c + 1) by omega)]
theorem m_readsBack_lp {d : Nat} {h : ms_H} {Q : ms_Q} {z at_ N : Int} (hR : RM h) (har : ∀ i k, ms_ar SH z 10 i k = (0 ≤ i ∧ i < N ∧ k)) (hz : ¬ z = 38 ∧ ¬ z = 46) (ha : 0 ≤ at_ ∧ at_ + 10 ≤ N ∧ N ≤ 1000) (q : Q none SH (rbH h z at_)) : ∀ (j : Nat) (c : Int), c + j = 8 → 0 ≤ c → ms_at (ms_Ok ms_P (d)) ms_X1 MX5_readsBack Q 100 [mR 38, mR z, mI at_, mI c] [] (SH, 0, 0) (rbP h z at_ c) := by
  unfold RM at hR
  intro j
  induction j with
  | zero =>
    intro c hc h0
    have : c = 8 := by omega
    subst this
    refine sq_at (ms_Ok_m ms_P _) 30 100 ?_
    simp only [sq_c, jp_s, jp_c, rc_0, rc_s, ms_ex, o_iload, o_aload, o_istore, o_astore, o_iinc, o_bin, o_div, o_rem, o_neg, o_and, o_shl, o_shr, o_dup, o_pop, o_dup2, o_if, o_icmp, o_switch, o_sw, o_get, o_put, o_iald, o_iast, o_zald, o_zast, o_aald, o_aast, o_len, ob_s, ob_n, o_call, o_max, o_min, o_copy, o_obj, o_lpush, o_ladd, o_lcmp, o_iret, o_lret, o_vret, i1_c, l1_c, r1_c, st_g0, st_g1, st_g2, st_g3, st_g4, st_g5, st_g6, st_g7, st_g8, st_g9, st_s0, st_s1, st_s2, st_s3, st_s4, st_s5, st_s6, st_s7, st_s8, st_s9, List.length_cons, List.length_nil, List.take_succ_cons, List.take_zero, List.drop_succ_cons, List.drop_zero, List.reverse_cons, List.reverse_nil, List.nil_append, List.cons_append, List.all_cons, List.all_nil, ms_nl, Bool.and_true, Nat.reduceLeDiff, Nat.reduceAdd, Nat.reduceLT, Nat.reduceEqDiff, if_true, if_false, true_and, and_true, ms_rt, List.cons.injEq, exists_eq_left, exists_eq_right, exists_and_left, exists_and_right, ms_one, ite_true, ite_false, reduceIte, imp_self, Nat.zero_add, Nat.add_zero, zero_le_any, Nat.le_refl, Int.zero_add, true_or, or_true, false_implies, Int.reduceLE, Int.reduceLT, Int.reduceNeg, Int.reduceAdd, Int.reduceSub, Int.reduceMul, Int.reduceEq, not_true, not_false_iff, and_self, implies_true, false_and, and_false, or_false, false_or, bX5_readsBack_0, bX5_readsBack_1, bX5_readsBack_100, lX5_readsBack_0, lX5_readsBack_1, lX5_readsBack_100, qX5_readsBack, sh_b, hR, rbP_v, hz]
    exact q
  | succ j ih =>
    intro c hc h0
    have ih' := ih (c + 1) (by omega) (by omega)
    refine sq_at (ms_Ok_m ms_P _) 30 100 ?_
    simp only [sq_c, jp_s, jp_c, rc_0, rc_s, ms_ex, o_iload, o_aload, o_istore, o_astore, o_iinc, o_bin, o_div, o_rem, o_neg, o_and, o_shl, o_shr, o_dup, o_pop, o_dup2, o_if, o_icmp, o_switch, o_sw, o_get, o_put, o_iald, o_iast, o_zald, o_zast, o_aald, o_aast, o_len, ob_s, ob_n, o_call, o_max, o_min, o_copy, o_obj, o_lpush, o_ladd, o_lcmp, o_iret, o_lret, o_vret, i1_c, l1_c, r1_c, st_g0, st_g1, st_g2, st_g3, st_g4, st_g5, st_g6, st_g7, st_g8, st_g9, st_s0, st_s1, st_s2, st_s3, st_s4, st_s5, st_s6, st_s7, st_s8, st_s9, List.length_cons, List.length_nil, List.take_succ_cons, List.take_zero, List.drop_succ_cons, List.drop_zero, List.reverse_cons, List.reverse_nil, List.nil_append, List.cons_append, List.all_cons, List.all_nil, ms_nl, Bool.and_true, Nat.reduceLeDiff, Nat.reduceAdd, Nat.reduceLT, Nat.reduceEqDiff, if_true, if_false, true_and, and_true, ms_rt, List.cons.injEq, exists_eq_left, exists_eq_right, exists_and_left, exists_and_right, ms_one, ite_true, ite_false, reduceIte, imp_self, Nat.zero_add, Nat.add_zero, zero_le_any, Nat.le_refl, Int.zero_add, true_or, or_true, false_implies, Int.reduceLE, Int.reduceLT, Int.reduceNeg, Int.reduceAdd, Int.reduceSub, Int.reduceMul, Int.reduceEq, not_true, not_false_iff, and_self, implies_true, false_and, and_false, or_false, false_or, bX5_readsBack_0, bX5_readsBack_1, bX5_readsBack_100, lX5_readsBack_0, lX5_readsBack_1, lX5_readsBack_100, qX5_readsBack, sh_b, hR, rbP_v, hz, har, ar_46]
    refine ⟨fun h1 => by omega, fun h1 => ⟨rg_of (by omega) (by omega), rg_of (by omega) (by omega), by omega, by omega, by omega, by omega, rg_of (by omega) (by omega), ?_⟩⟩
    rw [rbP_s h0]
    exact ih'
theorem m_readsBack {d : Nat} {h : ms_H} {Q : ms_Q} {z at_ N : Int} (hR : RM h) (har : ∀ i k, ms_ar SH z 10 i k = (0 ≤ i ∧ i < N ∧ k)) (hz : ¬ z = 38 ∧ ¬ z = 46) (ha : 0 ≤ at_ ∧ at_ + 10 ≤ N ∧ N ≤ 1000) (q : Q none SH (rbH h z at_)) : ms_Ok ms_P (d + 1) 124 [mR 38, mR z, mI at_] SH (h) Q := by
  refine ok_in (k := 30) MX5_readsBack rfl rfl ?_
  show sq (ms_Ok ms_P (d)) ms_X1 MX5_readsBack Q 30 (M_bl MX5_readsBack 0) [mR 38, mR z, mI at_, mL 0] [] (SH, 0, 0) (h)
  have hR2 := hR
  unfold RM at hR2
  simp only [sq_c, jp_s, jp_c, rc_0, rc_s, ms_ex, o_iload, o_aload, o_istore, o_astore, o_iinc, o_bin, o_div, o_rem, o_neg, o_and, o_shl, o_shr, o_dup, o_pop, o_dup2, o_if, o_icmp, o_switch, o_sw, o_get, o_put, o_iald, o_iast, o_zald, o_zast, o_aald, o_aast, o_len, ob_s, ob_n, o_call, o_max, o_min, o_copy, o_obj, o_lpush, o_ladd, o_lcmp, o_iret, o_lret, o_vret, i1_c, l1_c, r1_c, st_g0, st_g1, st_g2, st_g3, st_g4, st_g5, st_g6, st_g7, st_g8, st_g9, st_s0, st_s1, st_s2, st_s3, st_s4, st_s5, st_s6, st_s7, st_s8, st_s9, List.length_cons, List.length_nil, List.take_succ_cons, List.take_zero, List.drop_succ_cons, List.drop_zero, List.reverse_cons, List.reverse_nil, List.nil_append, List.cons_append, List.all_cons, List.all_nil, ms_nl, Bool.and_true, Nat.reduceLeDiff, Nat.reduceAdd, Nat.reduceLT, Nat.reduceEqDiff, if_true, if_false, true_and, and_true, ms_rt, List.cons.injEq, exists_eq_left, exists_eq_right, exists_and_left, exists_and_right, ms_one, ite_true, ite_false, reduceIte, imp_self, Nat.zero_add, Nat.add_zero, zero_le_any, Nat.le_refl, Int.zero_add, true_or, or_true, false_implies, Int.reduceLE, Int.reduceLT, Int.reduceNeg, Int.reduceAdd, Int.reduceSub, Int.reduceMul, Int.reduceEq, not_true, not_false_iff, and_self, implies_true, false_and, and_false, or_false, false_or, bX5_readsBack_0, bX5_readsBack_1, bX5_readsBack_100, lX5_readsBack_0, lX5_readsBack_1, lX5_readsBack_100, qX5_readsBack, sh_b, hR2, har, hs_v, hz]
  refine ⟨by omega, by omega, rg_of (by omega) (by omega), by omega, by omega, ?_⟩
  rw [rbP_0]
  exact m_readsBack_lp hR har hz ha q 8 0 (by omega) (by omega)
def shH (h : ms_H) (m : Int) : ms_H := fun a b => if a = 53 ∧ 0 ≤ b ∧ b < m then h 53 (b + 10) else h a b
theorem shH_v (h : ms_H) (m a b : Int) : shH h m a b = if a = 53 ∧ 0 ≤ b ∧ b < m then h 53 (b + 10) else h a b := rfl
theorem shH_0 (h : ms_H) : shH h 0 = h := by
  funext a b
  unfold shH
  rw [if_neg (by omega)]
theorem shH_s {h : ms_H} {c : Int} (h0 : 0 ≤ c) : hs (shH h c) 53 c (h 53 (c + 10)) = shH h (c + 1) := by
  funext a b
  unfold hs shH
  by_cases h1 : a = 53 ∧ b = c
  · rw [if_pos h1, if_pos (by omega), h1.2]
  · rw [if_neg h1]
    by_cases h2 : a = 53 ∧ 0 ≤ b ∧ b < c
    · rw [if_pos h2, if_pos (by omega)]
    · rw [if_neg h2, if_neg (by omega)]
def ntH (h : ms_H) : ms_H := if h 38 32 = 10 then hs (wrH (hs (shH h 90) 38 32 9) 53 90) 38 32 10 else hs (wrH h 53 (10 * h 38 32)) 38 32 (h 38 32 + 1)
theorem m_notes_lp {d : Nat} {h : ms_H} {Q : ms_Q} (hR : RM h) (hu : h 38 32 = 10) (q : Q none SH (hs (wrH (hs (shH h 90) 38 32 9) 53 90) 38 32 10)) : ∀ (j : Nat) (k : Int), k + j = 90 → 0 ≤ k → ms_at (ms_Ok ms_P (d + 1)) ms_X1 MX5_notes Q 100 [mR 38, mI k] [] (SH, 0, 0) (shH h k) := by
  have hR0 := hR
  unfold RM at hR
  intro j
  induction j with
  | zero =>
    intro k hk h0
    have : k = 90 := by omega
    subst this
    refine sq_at (ms_Ok_m ms_P _) 30 100 ?_
    simp only [sq_c, jp_s, jp_c, rc_0, rc_s, ms_ex, o_iload, o_aload, o_istore, o_astore, o_iinc, o_bin, o_div, o_rem, o_neg, o_and, o_shl, o_shr, o_dup, o_pop, o_dup2, o_if, o_icmp, o_switch, o_sw, o_get, o_put, o_iald, o_iast, o_zald, o_zast, o_aald, o_aast, o_len, ob_s, ob_n, o_call, o_max, o_min, o_copy, o_obj, o_lpush, o_ladd, o_lcmp, o_iret, o_lret, o_vret, i1_c, l1_c, r1_c, st_g0, st_g1, st_g2, st_g3, st_g4, st_g5, st_g6, st_g7, st_g8, st_g9, st_s0, st_s1, st_s2, st_s3, st_s4, st_s5, st_s6, st_s7, st_s8, st_s9, List.length_cons, List.length_nil, List.take_succ_cons, List.take_zero, List.drop_succ_cons, List.drop_zero, List.reverse_cons, List.reverse_nil, List.nil_append, List.cons_append, List.all_cons, List.all_nil, ms_nl, Bool.and_true, Nat.reduceLeDiff, Nat.reduceAdd, Nat.reduceLT, Nat.reduceEqDiff, if_true, if_false, true_and, and_true, ms_rt, List.cons.injEq, exists_eq_left, exists_eq_right, exists_and_left, exists_and_right, ms_one, ite_true, ite_false, reduceIte, imp_self, Nat.zero_add, Nat.add_zero, zero_le_any, Nat.le_refl, Int.zero_add, true_or, or_true, false_implies, Int.reduceLE, Int.reduceLT, Int.reduceNeg, Int.reduceAdd, Int.reduceSub, Int.reduceMul, Int.reduceEq, not_true, not_false_iff, and_self, implies_true, false_and, and_false, or_false, false_or, bX5_notes_0, bX5_notes_1, bX5_notes_2, bX5_notes_100, lX5_notes_0, lX5_notes_1, lX5_notes_2, lX5_notes_100, qX5_notes, sh_b, hR, shH_v, hu, hs_v]
    refine ⟨rg_of (by omega) (by omega), rg_of (by omega) (by omega), ?_⟩
    refine m_writes (N := 100) ?_ ar_53 (by decide) (by omega) ?_
    · unfold RM
      simp only [hs_v, shH_v, hR, Int.reduceEq, false_and, and_false, if_false, and_self]
    · simp only [sq_c, jp_s, jp_c, rc_0, rc_s, ms_ex, o_iload, o_aload, o_istore, o_astore, o_iinc, o_bin, o_div, o_rem, o_neg, o_and, o_shl, o_shr, o_dup, o_pop, o_dup2, o_if, o_icmp, o_switch, o_sw, o_get, o_put, o_iald, o_iast, o_zald, o_zast, o_aald, o_aast, o_len, ob_s, ob_n, o_call, o_max, o_min, o_copy, o_obj, o_lpush, o_ladd, o_lcmp, o_iret, o_lret, o_vret, i1_c, l1_c, r1_c, st_g0, st_g1, st_g2, st_g3, st_g4, st_g5, st_g6, st_g7, st_g8, st_g9, st_s0, st_s1, st_s2, st_s3, st_s4, st_s5, st_s6, st_s7, st_s8, st_s9, List.length_cons, List.length_nil, List.take_succ_cons, List.take_zero, List.drop_succ_cons, List.drop_zero, List.reverse_cons, List.reverse_nil, List.nil_append, List.cons_append, List.all_cons, List.all_nil, ms_nl, Bool.and_true, Nat.reduceLeDiff, Nat.reduceAdd, Nat.reduceLT, Nat.reduceEqDiff, if_true, if_false, true_and, and_true, ms_rt, List.cons.injEq, exists_eq_left, exists_eq_right, exists_and_left, exists_and_right, ms_one, ite_true, ite_false, reduceIte, imp_self, Nat.zero_add, Nat.add_zero, zero_le_any, Nat.le_refl, Int.zero_add, true_or, or_true, false_implies, Int.reduceLE, Int.reduceLT, Int.reduceNeg, Int.reduceAdd, Int.reduceSub, Int.reduceMul, Int.reduceEq, not_true, not_false_iff, and_self, implies_true, false_and, and_false, or_false, false_or, bX5_notes_0, bX5_notes_1, bX5_notes_2, bX5_notes_100, lX5_notes_0, lX5_notes_1, lX5_notes_2, lX5_notes_100, qX5_notes, sh_b, hR, shH_v, hu, hs_v, wrH_v, hs_hs]
      exact ⟨rg_of (by omega) (by omega), q⟩
  | succ j ih =>
    intro k hk h0
    have ih' := ih (k + 1) (by omega) (by omega)
    refine sq_at (ms_Ok_m ms_P _) 30 100 ?_
    simp only [sq_c, jp_s, jp_c, rc_0, rc_s, ms_ex, o_iload, o_aload, o_istore, o_astore, o_iinc, o_bin, o_div, o_rem, o_neg, o_and, o_shl, o_shr, o_dup, o_pop, o_dup2, o_if, o_icmp, o_switch, o_sw, o_get, o_put, o_iald, o_iast, o_zald, o_zast, o_aald, o_aast, o_len, ob_s, ob_n, o_call, o_max, o_min, o_copy, o_obj, o_lpush, o_ladd, o_lcmp, o_iret, o_lret, o_vret, i1_c, l1_c, r1_c, st_g0, st_g1, st_g2, st_g3, st_g4, st_g5, st_g6, st_g7, st_g8, st_g9, st_s0, st_s1, st_s2, st_s3, st_s4, st_s5, st_s6, st_s7, st_s8, st_s9, List.length_cons, List.length_nil, List.take_succ_cons, List.take_zero, List.drop_succ_cons, List.drop_zero, List.reverse_cons, List.reverse_nil, List.nil_append, List.cons_append, List.all_cons, List.all_nil, ms_nl, Bool.and_true, Nat.reduceLeDiff, Nat.reduceAdd, Nat.reduceLT, Nat.reduceEqDiff, if_true, if_false, true_and, and_true, ms_rt, List.cons.injEq, exists_eq_left, exists_eq_right, exists_and_left, exists_and_right, ms_one, ite_true, ite_false, reduceIte, imp_self, Nat.zero_add, Nat.add_zero, zero_le_any, Nat.le_refl, Int.zero_add, true_or, or_true, false_implies, Int.reduceLE, Int.reduceLT, Int.reduceNeg, Int.reduceAdd, Int.reduceSub, Int.reduceMul, Int.reduceEq, not_true, not_false_iff, and_self, implies_true, false_and, and_false, or_false, false_or, bX5_notes_0, bX5_notes_1, bX5_notes_2, bX5_notes_100, lX5_notes_0, lX5_notes_1, lX5_notes_2, lX5_notes_100, qX5_notes, sh_b, hR, shH_v, ar_53]
    refine ⟨fun h1 => by omega, fun h1 => ⟨rg_of (by omega) (by omega), by omega, by omega, by omega, by omega, rg_of (by omega) (by omega), ?_⟩⟩
    rw [if_neg (by omega), shH_s h0]
    exact ih'
theorem m_notes {d : Nat} {h : ms_H} {Q : ms_Q} (hR : RM h) (hu : 0 ≤ h 38 32 ∧ h 38 32 ≤ 10) (q : Q none SH (ntH h)) : ms_Ok ms_P (d + 2) 125 [mR 38] SH (h) Q := by
  refine ok_in (k := 30) MX5_notes rfl rfl ?_
  show sq (ms_Ok ms_P (d + 1)) ms_X1 MX5_notes Q 30 (M_bl MX5_notes 0) [mR 38, mL 0] [] (SH, 0, 0) (h)
  have hR0 := hR
  unfold RM at hR
  unfold ntH at q
  simp only [sq_c, jp_s, jp_c, rc_0, rc_s, ms_ex, o_iload, o_aload, o_istore, o_astore, o_iinc, o_bin, o_div, o_rem, o_neg, o_and, o_shl, o_shr, o_dup, o_pop, o_dup2, o_if, o_icmp, o_switch, o_sw, o_get, o_put, o_iald, o_iast, o_zald, o_zast, o_aald, o_aast, o_len, ob_s, ob_n, o_call, o_max, o_min, o_copy, o_obj, o_lpush, o_ladd, o_lcmp, o_iret, o_lret, o_vret, i1_c, l1_c, r1_c, st_g0, st_g1, st_g2, st_g3, st_g4, st_g5, st_g6, st_g7, st_g8, st_g9, st_s0, st_s1, st_s2, st_s3, st_s4, st_s5, st_s6, st_s7, st_s8, st_s9, List.length_cons, List.length_nil, List.take_succ_cons, List.take_zero, List.drop_succ_cons, List.drop_zero, List.reverse_cons, List.reverse_nil, List.nil_append, List.cons_append, List.all_cons, List.all_nil, ms_nl, Bool.and_true, Nat.reduceLeDiff, Nat.reduceAdd, Nat.reduceLT, Nat.reduceEqDiff, if_true, if_false, true_and, and_true, ms_rt, List.cons.injEq, exists_eq_left, exists_eq_right, exists_and_left, exists_and_right, ms_one, ite_true, ite_false, reduceIte, imp_self, Nat.zero_add, Nat.add_zero, zero_le_any, Nat.le_refl, Int.zero_add, true_or, or_true, false_implies, Int.reduceLE, Int.reduceLT, Int.reduceNeg, Int.reduceAdd, Int.reduceSub, Int.reduceMul, Int.reduceEq, not_true, not_false_iff, and_self, implies_true, false_and, and_false, or_false, false_or, bX5_notes_0, bX5_notes_1, bX5_notes_2, bX5_notes_100, lX5_notes_0, lX5_notes_1, lX5_notes_2, lX5_notes_100, qX5_notes, sh_b, hR]
  refine ⟨fun h1 => ?_, fun h1 => ?_⟩
  · rw [if_neg h1] at q
    refine ⟨rg_of (by omega) (by omega), ?_⟩
    refine m_writes (N := 100) hR0 ar_53 (by decide) (by omega) ?_
    simp only [sq_c, jp_s, jp_c, rc_0, rc_s, ms_ex, o_iload, o_aload, o_istore, o_astore, o_iinc, o_bin, o_div, o_rem, o_neg, o_and, o_shl, o_shr, o_dup, o_pop, o_dup2, o_if, o_icmp, o_switch, o_sw, o_get, o_put, o_iald, o_iast, o_zald, o_zast, o_aald, o_aast, o_len, ob_s, ob_n, o_call, o_max, o_min, o_copy, o_obj, o_lpush, o_ladd, o_lcmp, o_iret, o_lret, o_vret, i1_c, l1_c, r1_c, st_g0, st_g1, st_g2, st_g3, st_g4, st_g5, st_g6, st_g7, st_g8, st_g9, st_s0, st_s1, st_s2, st_s3, st_s4, st_s5, st_s6, st_s7, st_s8, st_s9, List.length_cons, List.length_nil, List.take_succ_cons, List.take_zero, List.drop_succ_cons, List.drop_zero, List.reverse_cons, List.reverse_nil, List.nil_append, List.cons_append, List.all_cons, List.all_nil, ms_nl, Bool.and_true, Nat.reduceLeDiff, Nat.reduceAdd, Nat.reduceLT, Nat.reduceEqDiff, if_true, if_false, true_and, and_true, ms_rt, List.cons.injEq, exists_eq_left, exists_eq_right, exists_and_left, exists_and_right, ms_one, ite_true, ite_false, reduceIte, imp_self, Nat.zero_add, Nat.add_zero, zero_le_any, Nat.le_refl, Int.zero_add, true_or, or_true, false_implies, Int.reduceLE, Int.reduceLT, Int.reduceNeg, Int.reduceAdd, Int.reduceSub, Int.reduceMul, Int.reduceEq, not_true, not_false_iff, and_self, implies_true, false_and, and_false, or_false, false_or, bX5_notes_0, bX5_notes_1, bX5_notes_2, bX5_notes_100, lX5_notes_0, lX5_notes_1, lX5_notes_2, lX5_notes_100, qX5_notes, sh_b, hR, hs_v, wrH_v, hs_hs]
    exact ⟨rg_of (by omega) (by omega), q⟩
  · rw [if_pos h1] at q
    have := m_notes_lp (d := d) hR0 h1 q 90 0 (by omega) (by omega)
    rw [shH_0] at this
    exact this
end
section
/-! The model: what is done. -/
def mu (k : Int) : Prop := k = 11 ∨ k = 12 ∨ k = 14 ∨ k = 16 ∨ (18 ≤ k ∧ k ≤ 25) ∨ k = 30 ∨ k = 32
theorem MV_chg {h h' : ms_H} (hv : MV h) (e38 : ∀ k, ¬ mu k → h' 38 k = h 38 k) (e : ∀ z, 39 ≤ z → z ≤ 45 → h' z = h z) (hn : 0 ≤ h' 38 11 ∧ h' 38 11 ≤ 9999) (hx : -9 ≤ h' 38 12 ∧ h' 38 12 ≤ 9) : MV h' := by
  have e38' : ∀ k, (k < 11 ∨ k = 13 ∨ k = 15 ∨ k = 17 ∨ (26 ≤ k ∧ k ≤ 29) ∨ k = 31 ∨ 33 ≤ k) → h' 38 k = h 38 k := fun k hk => e38 k (by unfold mu; omega)
  obtain ⟨hR, hB, hA⟩ := hv
  refine ⟨?_, ?_, ?_⟩
  · unfold RM at hR ⊢
    rw [e38' 4 (by omega), e38' 5 (by omega), e38' 6 (by omega), e38' 7 (by omega), e38' 8 (by omega), e38' 9 (by omega), e38' 10 (by omega), e38' 13 (by omega), e38' 15 (by omega), e38' 17 (by omega), e38' 26 (by omega), e38' 27 (by omega), e38' 28 (by omega), e38' 29 (by omega), e38' 31 (by omega), e38' 33 (by omega), e38' 34 (by omega), e38' 35 (by omega), e38' 36 (by omega)]
    exact hR
  · unfold MB at hB ⊢
    rw [e38' 0 (by omega), e38' 1 (by omega), e38' 2 (by omega), e38' 3 (by omega)]
    exact ⟨hB.1, hB.2.1, hB.2.2.1, hB.2.2.2.1, hn, hx⟩
  · unfold MA at hA ⊢
    rw [e38' 0 (by omega), e38' 1 (by omega), e38' 2 (by omega), e 39 (by omega) (by omega), e 40 (by omega) (by omega), e 41 (by omega) (by omega), e 42 (by omega) (by omega), e 43 (by omega) (by omega), e 44 (by omega) (by omega), e 45 (by omega) (by omega)]
    exact hA
theorem MV_hs {h : ms_H} (hv : MV h) {k v : Int} (hk : k = 14 ∨ k = 16 ∨ (18 ≤ k ∧ k ≤ 25) ∨ k = 30 ∨ k = 32) : MV (hs h 38 k v) := by
  have hb := hv.2.1
  unfold MB at hb
  refine MV_chg hv (fun k' hk' => ?_) (fun z h1 h2 => ?_) ?_ ?_
  · rw [hs_v, if_neg (fun q => hk' (by unfold mu; omega))]
  · funext b; rw [hs_v, if_neg (by omega)]
  · rw [hs_v, if_neg (by omega)]; exact hb.2.2.2.2.1
  · rw [hs_v, if_neg (by omega)]; exact hb.2.2.2.2.2
theorem nt_38 (h : ms_H) {k : Int} (hk : k ≠ 32) : ntH h 38 k = h 38 k := by
  unfold ntH
  split
  · rw [hs_v, if_neg (by omega), wrH_v, if_neg (by omega), hs_v, if_neg (by omega), shH_v, if_neg (by omega)]
  · rw [hs_v, if_neg (by omega), wrH_v, if_neg (by omega)]
theorem nt_z (h : ms_H) {z : Int} (h1 : z ≠ 38) (h2 : z ≠ 53) : ntH h z = h z := by
  funext b
  unfold ntH
  split
  · rw [hs_v, if_neg (by omega), wrH_v, if_neg (by omega), hs_v, if_neg (by omega), shH_v, if_neg (by omega)]
  · rw [hs_v, if_neg (by omega), wrH_v, if_neg (by omega)]
theorem MV_nt {h : ms_H} (hv : MV h) : MV (ntH h) := by
  have hb := hv.2.1
  unfold MB at hb
  refine MV_chg hv (fun k' hk' => nt_38 h (fun q => hk' (by unfold mu; omega))) (fun z h1 h2 => nt_z h (by omega) (by omega)) ?_ ?_
  · rw [nt_38 h (by omega)]; exact hb.2.2.2.2.1
  · rw [nt_38 h (by omega)]; exact hb.2.2.2.2.2
theorem MV_nx {h : ms_H} (hv : MV h) {k v : Int} (hk : (k = 11 ∧ 0 ≤ v ∧ v ≤ 9999) ∨ (k = 12 ∧ -9 ≤ v ∧ v ≤ 9)) : MV (hs h 38 k v) := by
  have hb := hv.2.1
  unfold MB at hb
  refine MV_chg hv (fun k' hk' => ?_) (fun z h1 h2 => ?_) ?_ ?_
  · rw [hs_v, if_neg (fun q => hk' (by unfold mu; omega))]
  · funext b; rw [hs_v, if_neg (by omega)]
  · rw [hs_v]; split <;> omega
  · rw [hs_v]; split <;> omega
theorem m_days {d : Nat} {n : Int} {h : ms_H} {Q : ms_Q} (hv : MV h) (hu : 0 ≤ h 38 32 ∧ h 38 32 ≤ 10) (q1 : ¬ (1 ≤ n ∧ n ≤ 9) → Q (some (mI (-1))) SH h) (q2 : (1 ≤ n ∧ n ≤ 9) → 9999 < h 38 11 + n → Q (some (mI (-2))) SH h) (q3 : (1 ≤ n ∧ n ≤ 9) → h 38 11 + n ≤ 9999 → Q (some (mI (sW (h 38 2) (h 45) (h 38 11 + n)))) SH (hs (ntH h) 38 11 (h 38 11 + n))) : ms_Ok ms_P (d + 3) 126 [mR 38, mI n] SH (h) Q := by
  refine ok_in (k := 30) MX5_days rfl rfl ?_
  show sq (ms_Ok ms_P (d + 2)) ms_X1 MX5_days Q 30 (M_bl MX5_days 0) [mR 38, mI n] [] (SH, 0, 0) (h)
  have hb := hv.2.1
  unfold MB at hb
  simp only [sq_c, jp_s, jp_c, rc_0, rc_s, ms_ex, o_iload, o_aload, o_istore, o_astore, o_iinc, o_bin, o_div, o_rem, o_neg, o_and, o_shl, o_shr, o_dup, o_pop, o_dup2, o_if, o_icmp, o_switch, o_sw, o_get, o_put, o_iald, o_iast, o_zald, o_zast, o_aald, o_aast, o_len, ob_s, ob_n, o_call, o_max, o_min, o_copy, o_obj, o_lpush, o_ladd, o_lcmp, o_iret, o_lret, o_vret, i1_c, l1_c, r1_c, st_g0, st_g1, st_g2, st_g3, st_g4, st_g5, st_g6, st_g7, st_g8, st_g9, st_s0, st_s1, st_s2, st_s3, st_s4, st_s5, st_s6, st_s7, st_s8, st_s9, List.length_cons, List.length_nil, List.take_succ_cons, List.take_zero, List.drop_succ_cons, List.drop_zero, List.reverse_cons, List.reverse_nil, List.nil_append, List.cons_append, List.all_cons, List.all_nil, ms_nl, Bool.and_true, Nat.reduceLeDiff, Nat.reduceAdd, Nat.reduceLT, Nat.reduceEqDiff, if_true, if_false, true_and, and_true, ms_rt, List.cons.injEq, exists_eq_left, exists_eq_right, exists_and_left, exists_and_right, ms_one, ite_true, ite_false, reduceIte, imp_self, Nat.zero_add, Nat.add_zero, zero_le_any, Nat.le_refl, Int.zero_add, true_or, or_true, false_implies, Int.reduceLE, Int.reduceLT, Int.reduceNeg, Int.reduceAdd, Int.reduceSub, Int.reduceMul, Int.reduceEq, not_true, not_false_iff, and_self, implies_true, false_and, and_false, or_false, false_or, bX5_days_0, bX5_days_1, bX5_days_2, lX5_days_0, lX5_days_1, lX5_days_2, qX5_days, sh_b]
  refine m_in (fun r hr => ?_)
  simp only [sq_c, jp_s, jp_c, rc_0, rc_s, ms_ex, o_iload, o_aload, o_istore, o_astore, o_iinc, o_bin, o_div, o_rem, o_neg, o_and, o_shl, o_shr, o_dup, o_pop, o_dup2, o_if, o_icmp, o_switch, o_sw, o_get, o_put, o_iald, o_iast, o_zald, o_zast, o_aald, o_aast, o_len, ob_s, ob_n, o_call, o_max, o_min, o_copy, o_obj, o_lpush, o_ladd, o_lcmp, o_iret, o_lret, o_vret, i1_c, l1_c, r1_c, st_g0, st_g1, st_g2, st_g3, st_g4, st_g5, st_g6, st_g7, st_g8, st_g9, st_s0, st_s1, st_s2, st_s3, st_s4, st_s5, st_s6, st_s7, st_s8, st_s9, List.length_cons, List.length_nil, List.take_succ_cons, List.take_zero, List.drop_succ_cons, List.drop_zero, List.reverse_cons, List.reverse_nil, List.nil_append, List.cons_append, List.all_cons, List.all_nil, ms_nl, Bool.and_true, Nat.reduceLeDiff, Nat.reduceAdd, Nat.reduceLT, Nat.reduceEqDiff, if_true, if_false, true_and, and_true, ms_rt, List.cons.injEq, exists_eq_left, exists_eq_right, exists_and_left, exists_and_right, ms_one, ite_true, ite_false, reduceIte, imp_self, Nat.zero_add, Nat.add_zero, zero_le_any, Nat.le_refl, Int.zero_add, true_or, or_true, false_implies, Int.reduceLE, Int.reduceLT, Int.reduceNeg, Int.reduceAdd, Int.reduceSub, Int.reduceMul, Int.reduceEq, not_true, not_false_iff, and_self, implies_true, false_and, and_false, or_false, false_or, bX5_days_0, bX5_days_1, bX5_days_2, lX5_days_0, lX5_days_1, lX5_days_2, qX5_days, sh_b]
  refine ⟨fun h1 => ?_, fun h1 => q1 (bf hr h1)⟩
  have hn := bt hr h1
  refine ⟨rg_of (by omega) (by omega), fun h2 => ?_, fun h2 => q2 hn (by omega)⟩
  refine m_notes hv.1 hu ?_
  simp only [sq_c, jp_s, jp_c, rc_0, rc_s, ms_ex, o_iload, o_aload, o_istore, o_astore, o_iinc, o_bin, o_div, o_rem, o_neg, o_and, o_shl, o_shr, o_dup, o_pop, o_dup2, o_if, o_icmp, o_switch, o_sw, o_get, o_put, o_iald, o_iast, o_zald, o_zast, o_aald, o_aast, o_len, ob_s, ob_n, o_call, o_max, o_min, o_copy, o_obj, o_lpush, o_ladd, o_lcmp, o_iret, o_lret, o_vret, i1_c, l1_c, r1_c, st_g0, st_g1, st_g2, st_g3, st_g4, st_g5, st_g6, st_g7, st_g8, st_g9, st_s0, st_s1, st_s2, st_s3, st_s4, st_s5, st_s6, st_s7, st_s8, st_s9, List.length_cons, List.length_nil, List.take_succ_cons, List.take_zero, List.drop_succ_cons, List.drop_zero, List.reverse_cons, List.reverse_nil, List.nil_append, List.cons_append, List.all_cons, List.all_nil, ms_nl, Bool.and_true, Nat.reduceLeDiff, Nat.reduceAdd, Nat.reduceLT, Nat.reduceEqDiff, if_true, if_false, true_and, and_true, ms_rt, List.cons.injEq, exists_eq_left, exists_eq_right, exists_and_left, exists_and_right, ms_one, ite_true, ite_false, reduceIte, imp_self, Nat.zero_add, Nat.add_zero, zero_le_any, Nat.le_refl, Int.zero_add, true_or, or_true, false_implies, Int.reduceLE, Int.reduceLT, Int.reduceNeg, Int.reduceAdd, Int.reduceSub, Int.reduceMul, Int.reduceEq, not_true, not_false_iff, and_self, implies_true, false_and, and_false, or_false, false_or, bX5_days_0, bX5_days_1, bX5_days_2, lX5_days_0, lX5_days_1, lX5_days_2, qX5_days, sh_b, hs_v]
  rw [nt_38 h (show (11 : Int) ≠ 32 by omega)]
  refine ⟨rg_of (by omega) (by omega), ?_⟩
  refine m_warmAt (MV_nx (MV_nt hv) (Or.inl ⟨rfl, by omega, by omega⟩)) (by omega) ?_
  simp only [sq_c, jp_s, jp_c, rc_0, rc_s, ms_ex, o_iload, o_aload, o_istore, o_astore, o_iinc, o_bin, o_div, o_rem, o_neg, o_and, o_shl, o_shr, o_dup, o_pop, o_dup2, o_if, o_icmp, o_switch, o_sw, o_get, o_put, o_iald, o_iast, o_zald, o_zast, o_aald, o_aast, o_len, ob_s, ob_n, o_call, o_max, o_min, o_copy, o_obj, o_lpush, o_ladd, o_lcmp, o_iret, o_lret, o_vret, i1_c, l1_c, r1_c, st_g0, st_g1, st_g2, st_g3, st_g4, st_g5, st_g6, st_g7, st_g8, st_g9, st_s0, st_s1, st_s2, st_s3, st_s4, st_s5, st_s6, st_s7, st_s8, st_s9, List.length_cons, List.length_nil, List.take_succ_cons, List.take_zero, List.drop_succ_cons, List.drop_zero, List.reverse_cons, List.reverse_nil, List.nil_append, List.cons_append, List.all_cons, List.all_nil, ms_nl, Bool.and_true, Nat.reduceLeDiff, Nat.reduceAdd, Nat.reduceLT, Nat.reduceEqDiff, if_true, if_false, true_and, and_true, ms_rt, List.cons.injEq, exists_eq_left, exists_eq_right, exists_and_left, exists_and_right, ms_one, ite_true, ite_false, reduceIte, imp_self, Nat.zero_add, Nat.add_zero, zero_le_any, Nat.le_refl, Int.zero_add, true_or, or_true, false_implies, Int.reduceLE, Int.reduceLT, Int.reduceNeg, Int.reduceAdd, Int.reduceSub, Int.reduceMul, Int.reduceEq, not_true, not_false_iff, and_self, implies_true, false_and, and_false, or_false, false_or, bX5_days_0, bX5_days_1, bX5_days_2, lX5_days_0, lX5_days_1, lX5_days_2, qX5_days, sh_b, hs_v]
  have e1 : hs (ntH h) 38 11 (h 38 11 + n) 45 = h 45 := by
    funext b; rw [hs_v, if_neg (by omega), nt_z h (by omega) (by omega)]
  rw [e1, nt_38 h (show (2 : Int) ≠ 32 by omega)]
  exact q3 hn h2
theorem m_warms {d : Nat} {n : Int} {h : ms_H} {Q : ms_Q} (hv : MV h) (hu : 0 ≤ h 38 32 ∧ h 38 32 ≤ 10) (q1 : ¬ ((-3 ≤ n ∧ n ≤ 3) ∧ ¬ n = 0) → Q (some (mI (-1))) SH h) (q2 : (-3 ≤ n ∧ n ≤ 3) → ¬ n = 0 → ¬ (-9 ≤ h 38 12 + n ∧ h 38 12 + n ≤ 9) → Q (some (mI (-2))) SH h) (q3 : (-3 ≤ n ∧ n ≤ 3) → ¬ n = 0 → (-9 ≤ h 38 12 + n ∧ h 38 12 + n ≤ 9) → Q (some (mI (fm (hs (ntH h) 38 12 (h 38 12 + n)) 2))) SH (hs (ntH h) 38 12 (h 38 12 + n))) : ms_Ok ms_P (d + 6) 127 [mR 38, mI n] SH (h) Q := by
  refine ok_in (k := 30) MX5_warms rfl rfl ?_
  show sq (ms_Ok ms_P (d + 5)) ms_X1 MX5_warms Q 30 (M_bl MX5_warms 0) [mR 38, mI n] [] (SH, 0, 0) (h)
  have hb := hv.2.1
  unfold MB at hb
  simp only [sq_c, jp_s, jp_c, rc_0, rc_s, ms_ex, o_iload, o_aload, o_istore, o_astore, o_iinc, o_bin, o_div, o_rem, o_neg, o_and, o_shl, o_shr, o_dup, o_pop, o_dup2, o_if, o_icmp, o_switch, o_sw, o_get, o_put, o_iald, o_iast, o_zald, o_zast, o_aald, o_aast, o_len, ob_s, ob_n, o_call, o_max, o_min, o_copy, o_obj, o_lpush, o_ladd, o_lcmp, o_iret, o_lret, o_vret, i1_c, l1_c, r1_c, st_g0, st_g1, st_g2, st_g3, st_g4, st_g5, st_g6, st_g7, st_g8, st_g9, st_s0, st_s1, st_s2, st_s3, st_s4, st_s5, st_s6, st_s7, st_s8, st_s9, List.length_cons, List.length_nil, List.take_succ_cons, List.take_zero, List.drop_succ_cons, List.drop_zero, List.reverse_cons, List.reverse_nil, List.nil_append, List.cons_append, List.all_cons, List.all_nil, ms_nl, Bool.and_true, Nat.reduceLeDiff, Nat.reduceAdd, Nat.reduceLT, Nat.reduceEqDiff, if_true, if_false, true_and, and_true, ms_rt, List.cons.injEq, exists_eq_left, exists_eq_right, exists_and_left, exists_and_right, ms_one, ite_true, ite_false, reduceIte, imp_self, Nat.zero_add, Nat.add_zero, zero_le_any, Nat.le_refl, Int.zero_add, true_or, or_true, false_implies, Int.reduceLE, Int.reduceLT, Int.reduceNeg, Int.reduceAdd, Int.reduceSub, Int.reduceMul, Int.reduceEq, not_true, not_false_iff, and_self, implies_true, false_and, and_false, or_false, false_or, bX5_warms_0, bX5_warms_1, bX5_warms_2, bX5_warms_3, lX5_warms_0, lX5_warms_1, lX5_warms_2, lX5_warms_3, qX5_warms, sh_b]
  refine m_in (fun r hr => ?_)
  simp only [sq_c, jp_s, jp_c, rc_0, rc_s, ms_ex, o_iload, o_aload, o_istore, o_astore, o_iinc, o_bin, o_div, o_rem, o_neg, o_and, o_shl, o_shr, o_dup, o_pop, o_dup2, o_if, o_icmp, o_switch, o_sw, o_get, o_put, o_iald, o_iast, o_zald, o_zast, o_aald, o_aast, o_len, ob_s, ob_n, o_call, o_max, o_min, o_copy, o_obj, o_lpush, o_ladd, o_lcmp, o_iret, o_lret, o_vret, i1_c, l1_c, r1_c, st_g0, st_g1, st_g2, st_g3, st_g4, st_g5, st_g6, st_g7, st_g8, st_g9, st_s0, st_s1, st_s2, st_s3, st_s4, st_s5, st_s6, st_s7, st_s8, st_s9, List.length_cons, List.length_nil, List.take_succ_cons, List.take_zero, List.drop_succ_cons, List.drop_zero, List.reverse_cons, List.reverse_nil, List.nil_append, List.cons_append, List.all_cons, List.all_nil, ms_nl, Bool.and_true, Nat.reduceLeDiff, Nat.reduceAdd, Nat.reduceLT, Nat.reduceEqDiff, if_true, if_false, true_and, and_true, ms_rt, List.cons.injEq, exists_eq_left, exists_eq_right, exists_and_left, exists_and_right, ms_one, ite_true, ite_false, reduceIte, imp_self, Nat.zero_add, Nat.add_zero, zero_le_any, Nat.le_refl, Int.zero_add, true_or, or_true, false_implies, Int.reduceLE, Int.reduceLT, Int.reduceNeg, Int.reduceAdd, Int.reduceSub, Int.reduceMul, Int.reduceEq, not_true, not_false_iff, and_self, implies_true, false_and, and_false, or_false, false_or, bX5_warms_0, bX5_warms_1, bX5_warms_2, bX5_warms_3, lX5_warms_0, lX5_warms_1, lX5_warms_2, lX5_warms_3, qX5_warms, sh_b]
  refine ⟨fun h1 => q1 (fun z => bf hr h1 z.1), fun h1 => ?_⟩
  have hn := bt hr h1
  refine ⟨fun h2 => ⟨rg_of (by omega) (by omega), ?_⟩, fun h2 => q1 (fun z => z.2 h2)⟩
  refine m_in (fun r2 hr2 => ?_)
  simp only [sq_c, jp_s, jp_c, rc_0, rc_s, ms_ex, o_iload, o_aload, o_istore, o_astore, o_iinc, o_bin, o_div, o_rem, o_neg, o_and, o_shl, o_shr, o_dup, o_pop, o_dup2, o_if, o_icmp, o_switch, o_sw, o_get, o_put, o_iald, o_iast, o_zald, o_zast, o_aald, o_aast, o_len, ob_s, ob_n, o_call, o_max, o_min, o_copy, o_obj, o_lpush, o_ladd, o_lcmp, o_iret, o_lret, o_vret, i1_c, l1_c, r1_c, st_g0, st_g1, st_g2, st_g3, st_g4, st_g5, st_g6, st_g7, st_g8, st_g9, st_s0, st_s1, st_s2, st_s3, st_s4, st_s5, st_s6, st_s7, st_s8, st_s9, List.length_cons, List.length_nil, List.take_succ_cons, List.take_zero, List.drop_succ_cons, List.drop_zero, List.reverse_cons, List.reverse_nil, List.nil_append, List.cons_append, List.all_cons, List.all_nil, ms_nl, Bool.and_true, Nat.reduceLeDiff, Nat.reduceAdd, Nat.reduceLT, Nat.reduceEqDiff, if_true, if_false, true_and, and_true, ms_rt, List.cons.injEq, exists_eq_left, exists_eq_right, exists_and_left, exists_and_right, ms_one, ite_true, ite_false, reduceIte, imp_self, Nat.zero_add, Nat.add_zero, zero_le_any, Nat.le_refl, Int.zero_add, true_or, or_true, false_implies, Int.reduceLE, Int.reduceLT, Int.reduceNeg, Int.reduceAdd, Int.reduceSub, Int.reduceMul, Int.reduceEq, not_true, not_false_iff, and_self, implies_true, false_and, and_false, or_false, false_or, bX5_warms_0, bX5_warms_1, bX5_warms_2, bX5_warms_3, lX5_warms_0, lX5_warms_1, lX5_warms_2, lX5_warms_3, qX5_warms, sh_b]
  refine ⟨fun h3 => ?_, fun h3 => q2 hn h2 (bf hr2 h3)⟩
  have hx := bt hr2 h3
  refine m_notes hv.1 hu ?_
  simp only [sq_c, jp_s, jp_c, rc_0, rc_s, ms_ex, o_iload, o_aload, o_istore, o_astore, o_iinc, o_bin, o_div, o_rem, o_neg, o_and, o_shl, o_shr, o_dup, o_pop, o_dup2, o_if, o_icmp, o_switch, o_sw, o_get, o_put, o_iald, o_iast, o_zald, o_zast, o_aald, o_aast, o_len, ob_s, ob_n, o_call, o_max, o_min, o_copy, o_obj, o_lpush, o_ladd, o_lcmp, o_iret, o_lret, o_vret, i1_c, l1_c, r1_c, st_g0, st_g1, st_g2, st_g3, st_g4, st_g5, st_g6, st_g7, st_g8, st_g9, st_s0, st_s1, st_s2, st_s3, st_s4, st_s5, st_s6, st_s7, st_s8, st_s9, List.length_cons, List.length_nil, List.take_succ_cons, List.take_zero, List.drop_succ_cons, List.drop_zero, List.reverse_cons, List.reverse_nil, List.nil_append, List.cons_append, List.all_cons, List.all_nil, ms_nl, Bool.and_true, Nat.reduceLeDiff, Nat.reduceAdd, Nat.reduceLT, Nat.reduceEqDiff, if_true, if_false, true_and, and_true, ms_rt, List.cons.injEq, exists_eq_left, exists_eq_right, exists_and_left, exists_and_right, ms_one, ite_true, ite_false, reduceIte, imp_self, Nat.zero_add, Nat.add_zero, zero_le_any, Nat.le_refl, Int.zero_add, true_or, or_true, false_implies, Int.reduceLE, Int.reduceLT, Int.reduceNeg, Int.reduceAdd, Int.reduceSub, Int.reduceMul, Int.reduceEq, not_true, not_false_iff, and_self, implies_true, false_and, and_false, or_false, false_or, bX5_warms_0, bX5_warms_1, bX5_warms_2, bX5_warms_3, lX5_warms_0, lX5_warms_1, lX5_warms_2, lX5_warms_3, qX5_warms, sh_b, hs_v]
  rw [nt_38 h (show (12 : Int) ≠ 32 by omega)]
  refine ⟨rg_of (by omega) (by omega), ?_⟩
  refine m_fallMany (MV_nx (MV_nt hv) (Or.inr ⟨rfl, by omega, by omega⟩)) ?_
  simp only [sq_c, jp_s, jp_c, rc_0, rc_s, ms_ex, o_iload, o_aload, o_istore, o_astore, o_iinc, o_bin, o_div, o_rem, o_neg, o_and, o_shl, o_shr, o_dup, o_pop, o_dup2, o_if, o_icmp, o_switch, o_sw, o_get, o_put, o_iald, o_iast, o_zald, o_zast, o_aald, o_aast, o_len, ob_s, ob_n, o_call, o_max, o_min, o_copy, o_obj, o_lpush, o_ladd, o_lcmp, o_iret, o_lret, o_vret, i1_c, l1_c, r1_c, st_g0, st_g1, st_g2, st_g3, st_g4, st_g5, st_g6, st_g7, st_g8, st_g9, st_s0, st_s1, st_s2, st_s3, st_s4, st_s5, st_s6, st_s7, st_s8, st_s9, List.length_cons, List.length_nil, List.take_succ_cons, List.take_zero, List.drop_succ_cons, List.drop_zero, List.reverse_cons, List.reverse_nil, List.nil_append, List.cons_append, List.all_cons, List.all_nil, ms_nl, Bool.and_true, Nat.reduceLeDiff, Nat.reduceAdd, Nat.reduceLT, Nat.reduceEqDiff, if_true, if_false, true_and, and_true, ms_rt, List.cons.injEq, exists_eq_left, exists_eq_right, exists_and_left, exists_and_right, ms_one, ite_true, ite_false, reduceIte, imp_self, Nat.zero_add, Nat.add_zero, zero_le_any, Nat.le_refl, Int.zero_add, true_or, or_true, false_implies, Int.reduceLE, Int.reduceLT, Int.reduceNeg, Int.reduceAdd, Int.reduceSub, Int.reduceMul, Int.reduceEq, not_true, not_false_iff, and_self, implies_true, false_and, and_false, or_false, false_or, bX5_warms_0, bX5_warms_1, bX5_warms_2, bX5_warms_3, lX5_warms_0, lX5_warms_1, lX5_warms_2, lX5_warms_3, qX5_warms, sh_b, hs_v]
  exact q3 hn h2 hx
theorem hv_b : ∀ n a b k, (0 ≤ a ∧ a ≤ 8) → (0 ≤ b ∧ b ≤ 8) → (0 ≤ (hv n a b k).1 ∧ (hv n a b k).1 ≤ 8) ∧ k ≤ (hv n a b k).2 ∧ (hv n a b k).2 ≤ k + n
  | 0, a, b, k, ha, hb => ⟨ha, by show k ≤ k; omega, by show k ≤ k + 0; omega⟩
  | n + 1, a, b, k, ha, hb => by
    unfold hv
    split
    · exact ⟨ha, by show k ≤ k; omega, by show k ≤ _; omega⟩
    · split
      · have := hv_b n (a + gh (b - a)) b (k + 1) (by unfold gh; split <;> omega) hb
        omega
      · have := hv_b n a (b + gh (a - b)) (k + 1) ha (by unfold gh; split <;> omega)
        omega
theorem mH_b (h : ms_H) (c : Int) : (0 ≤ (mH h c).1 ∧ (mH h c).1 ≤ 8) ∧ 0 ≤ (mH h c).2 ∧ (mH h c).2 ≤ 4 := by
  have := hv_b 4 (cl (mT h - h 40 c - h 39 0)) (cl (mT h - h 40 c - h 39 1)) 0 (cl_b _) (cl_b _)
  unfold mH
  omega
theorem m_stakes {d : Nat} {c : Int} {h : ms_H} {Q : ms_Q} (hv : MV h) (hu : 0 ≤ h 38 32 ∧ h 38 32 ≤ 10) (hst : ∀ i, 0 ≤ i → i < 8 → 0 ≤ h 46 i ∧ h 46 i ≤ 9) (q1 : ¬ (0 ≤ c ∧ c < h 38 0) → Q (some (mI (-1))) SH h) (q2 : (0 ≤ c ∧ c < h 38 0) → h 46 c = (mH h c).1 + 1 → Q (some (mI (-2))) SH (hs h 38 30 (mH h c).2)) (q3 : (0 ≤ c ∧ c < h 38 0) → ¬ h 46 c = (mH h c).1 + 1 → Q (some (mI (mH h c).1)) SH (hs (ntH (hs h 38 30 (mH h c).2)) 46 c ((mH h c).1 + 1))) : ms_Ok ms_P (d + 6) 128 [mR 38, mI c] SH (h) Q := by
  refine ok_in (k := 30) MX5_stakes rfl rfl ?_
  show sq (ms_Ok ms_P (d + 5)) ms_X1 MX5_stakes Q 30 (M_bl MX5_stakes 0) [mR 38, mI c, mL 0] [] (SH, 0, 0) (h)
  have hb := hv.2.1
  have hR := hv.1
  unfold MB at hb
  unfold RM at hR
  have hmb := mH_b h c
  simp only [sq_c, jp_s, jp_c, rc_0, rc_s, ms_ex, o_iload, o_aload, o_istore, o_astore, o_iinc, o_bin, o_div, o_rem, o_neg, o_and, o_shl, o_shr, o_dup, o_pop, o_dup2, o_if, o_icmp, o_switch, o_sw, o_get, o_put, o_iald, o_iast, o_zald, o_zast, o_aald, o_aast, o_len, ob_s, ob_n, o_call, o_max, o_min, o_copy, o_obj, o_lpush, o_ladd, o_lcmp, o_iret, o_lret, o_vret, i1_c, l1_c, r1_c, st_g0, st_g1, st_g2, st_g3, st_g4, st_g5, st_g6, st_g7, st_g8, st_g9, st_s0, st_s1, st_s2, st_s3, st_s4, st_s5, st_s6, st_s7, st_s8, st_s9, List.length_cons, List.length_nil, List.take_succ_cons, List.take_zero, List.drop_succ_cons, List.drop_zero, List.reverse_cons, List.reverse_nil, List.nil_append, List.cons_append, List.all_cons, List.all_nil, ms_nl, Bool.and_true, Nat.reduceLeDiff, Nat.reduceAdd, Nat.reduceLT, Nat.reduceEqDiff, if_true, if_false, true_and, and_true, ms_rt, List.cons.injEq, exists_eq_left, exists_eq_right, exists_and_left, exists_and_right, ms_one, ite_true, ite_false, reduceIte, imp_self, Nat.zero_add, Nat.add_zero, zero_le_any, Nat.le_refl, Int.zero_add, true_or, or_true, false_implies, Int.reduceLE, Int.reduceLT, Int.reduceNeg, Int.reduceAdd, Int.reduceSub, Int.reduceMul, Int.reduceEq, not_true, not_false_iff, and_self, implies_true, false_and, and_false, or_false, false_or, bX5_stakes_0, bX5_stakes_1, bX5_stakes_2, lX5_stakes_0, lX5_stakes_1, lX5_stakes_2, qX5_stakes, sh_b]
  refine m_isColumn hv (fun r hr => ?_)
  simp only [sq_c, jp_s, jp_c, rc_0, rc_s, ms_ex, o_iload, o_aload, o_istore, o_astore, o_iinc, o_bin, o_div, o_rem, o_neg, o_and, o_shl, o_shr, o_dup, o_pop, o_dup2, o_if, o_icmp, o_switch, o_sw, o_get, o_put, o_iald, o_iast, o_zald, o_zast, o_aald, o_aast, o_len, ob_s, ob_n, o_call, o_max, o_min, o_copy, o_obj, o_lpush, o_ladd, o_lcmp, o_iret, o_lret, o_vret, i1_c, l1_c, r1_c, st_g0, st_g1, st_g2, st_g3, st_g4, st_g5, st_g6, st_g7, st_g8, st_g9, st_s0, st_s1, st_s2, st_s3, st_s4, st_s5, st_s6, st_s7, st_s8, st_s9, List.length_cons, List.length_nil, List.take_succ_cons, List.take_zero, List.drop_succ_cons, List.drop_zero, List.reverse_cons, List.reverse_nil, List.nil_append, List.cons_append, List.all_cons, List.all_nil, ms_nl, Bool.and_true, Nat.reduceLeDiff, Nat.reduceAdd, Nat.reduceLT, Nat.reduceEqDiff, if_true, if_false, true_and, and_true, ms_rt, List.cons.injEq, exists_eq_left, exists_eq_right, exists_and_left, exists_and_right, ms_one, ite_true, ite_false, reduceIte, imp_self, Nat.zero_add, Nat.add_zero, zero_le_any, Nat.le_refl, Int.zero_add, true_or, or_true, false_implies, Int.reduceLE, Int.reduceLT, Int.reduceNeg, Int.reduceAdd, Int.reduceSub, Int.reduceMul, Int.reduceEq, not_true, not_false_iff, and_self, implies_true, false_and, and_false, or_false, false_or, bX5_stakes_0, bX5_stakes_1, bX5_stakes_2, lX5_stakes_0, lX5_stakes_1, lX5_stakes_2, qX5_stakes, sh_b]
  refine ⟨fun h1 => ?_, fun h1 => q1 (bf hr h1)⟩
  have hc := bt hr h1
  refine m_halves hv hc ?_
  simp only [sq_c, jp_s, jp_c, rc_0, rc_s, ms_ex, o_iload, o_aload, o_istore, o_astore, o_iinc, o_bin, o_div, o_rem, o_neg, o_and, o_shl, o_shr, o_dup, o_pop, o_dup2, o_if, o_icmp, o_switch, o_sw, o_get, o_put, o_iald, o_iast, o_zald, o_zast, o_aald, o_aast, o_len, ob_s, ob_n, o_call, o_max, o_min, o_copy, o_obj, o_lpush, o_ladd, o_lcmp, o_iret, o_lret, o_vret, i1_c, l1_c, r1_c, st_g0, st_g1, st_g2, st_g3, st_g4, st_g5, st_g6, st_g7, st_g8, st_g9, st_s0, st_s1, st_s2, st_s3, st_s4, st_s5, st_s6, st_s7, st_s8, st_s9, List.length_cons, List.length_nil, List.take_succ_cons, List.take_zero, List.drop_succ_cons, List.drop_zero, List.reverse_cons, List.reverse_nil, List.nil_append, List.cons_append, List.all_cons, List.all_nil, ms_nl, Bool.and_true, Nat.reduceLeDiff, Nat.reduceAdd, Nat.reduceLT, Nat.reduceEqDiff, if_true, if_false, true_and, and_true, ms_rt, List.cons.injEq, exists_eq_left, exists_eq_right, exists_and_left, exists_and_right, ms_one, ite_true, ite_false, reduceIte, imp_self, Nat.zero_add, Nat.add_zero, zero_le_any, Nat.le_refl, Int.zero_add, true_or, or_true, false_implies, Int.reduceLE, Int.reduceLT, Int.reduceNeg, Int.reduceAdd, Int.reduceSub, Int.reduceMul, Int.reduceEq, not_true, not_false_iff, and_self, implies_true, false_and, and_false, or_false, false_or, bX5_stakes_0, bX5_stakes_1, bX5_stakes_2, lX5_stakes_0, lX5_stakes_1, lX5_stakes_2, qX5_stakes, sh_b, hs_v, hR, ar_46]
  refine ⟨by omega, by omega, rg_of (by omega) (by omega), fun h2 => ?_, fun h2 => q2 hc h2⟩
  refine m_notes (MV_hs hv (by omega)).1 (by rw [hs_v, if_neg (by omega)]; exact hu) ?_
  have e1 : ntH (hs h 38 30 (mH h c).2) 38 13 = 46 := by
    rw [nt_38 _ (by omega), hs_v, if_neg (by omega)]; exact hR.2.2.2.2.2.2.2.1
  simp only [sq_c, jp_s, jp_c, rc_0, rc_s, ms_ex, o_iload, o_aload, o_istore, o_astore, o_iinc, o_bin, o_div, o_rem, o_neg, o_and, o_shl, o_shr, o_dup, o_pop, o_dup2, o_if, o_icmp, o_switch, o_sw, o_get, o_put, o_iald, o_iast, o_zald, o_zast, o_aald, o_aast, o_len, ob_s, ob_n, o_call, o_max, o_min, o_copy, o_obj, o_lpush, o_ladd, o_lcmp, o_iret, o_lret, o_vret, i1_c, l1_c, r1_c, st_g0, st_g1, st_g2, st_g3, st_g4, st_g5, st_g6, st_g7, st_g8, st_g9, st_s0, st_s1, st_s2, st_s3, st_s4, st_s5, st_s6, st_s7, st_s8, st_s9, List.length_cons, List.length_nil, List.take_succ_cons, List.take_zero, List.drop_succ_cons, List.drop_zero, List.reverse_cons, List.reverse_nil, List.nil_append, List.cons_append, List.all_cons, List.all_nil, ms_nl, Bool.and_true, Nat.reduceLeDiff, Nat.reduceAdd, Nat.reduceLT, Nat.reduceEqDiff, if_true, if_false, true_and, and_true, ms_rt, List.cons.injEq, exists_eq_left, exists_eq_right, exists_and_left, exists_and_right, ms_one, ite_true, ite_false, reduceIte, imp_self, Nat.zero_add, Nat.add_zero, zero_le_any, Nat.le_refl, Int.zero_add, true_or, or_true, false_implies, Int.reduceLE, Int.reduceLT, Int.reduceNeg, Int.reduceAdd, Int.reduceSub, Int.reduceMul, Int.reduceEq, not_true, not_false_iff, and_self, implies_true, false_and, and_false, or_false, false_or, bX5_stakes_0, bX5_stakes_1, bX5_stakes_2, lX5_stakes_0, lX5_stakes_1, lX5_stakes_2, qX5_stakes, sh_b, hs_v, e1, ar_46]
  exact ⟨rg_of (by omega) (by omega), by omega, by omega, q3 hc h2⟩
theorem m_pulls {d : Nat} {c : Int} {h : ms_H} {Q : ms_Q} (hv : MV h) (hu : 0 ≤ h 38 32 ∧ h 38 32 ≤ 10) (hst : ∀ i, 0 ≤ i → i < 8 → 0 ≤ h 46 i ∧ h 46 i ≤ 9) (q1 : ¬ (0 ≤ c ∧ c < h 38 0) → Q (some (mI (-1))) SH h) (q2 : (0 ≤ c ∧ c < h 38 0) → h 46 c = 0 → Q (some (mI (-2))) SH h) (q3 : (0 ≤ c ∧ c < h 38 0) → ¬ h 46 c = 0 → Q (some (mI (h 46 c - 1))) SH (hs (ntH h) 46 c 0)) : ms_Ok ms_P (d + 3) 129 [mR 38, mI c] SH (h) Q := by
  refine ok_in (k := 30) MX5_pulls rfl rfl ?_
  show sq (ms_Ok ms_P (d + 2)) ms_X1 MX5_pulls Q 30 (M_bl MX5_pulls 0) [mR 38, mI c, mL 0] [] (SH, 0, 0) (h)
  have hb := hv.2.1
  have hR := hv.1
  unfold MB at hb
  unfold RM at hR
  simp only [sq_c, jp_s, jp_c, rc_0, rc_s, ms_ex, o_iload, o_aload, o_istore, o_astore, o_iinc, o_bin, o_div, o_rem, o_neg, o_and, o_shl, o_shr, o_dup, o_pop, o_dup2, o_if, o_icmp, o_switch, o_sw, o_get, o_put, o_iald, o_iast, o_zald, o_zast, o_aald, o_aast, o_len, ob_s, ob_n, o_call, o_max, o_min, o_copy, o_obj, o_lpush, o_ladd, o_lcmp, o_iret, o_lret, o_vret, i1_c, l1_c, r1_c, st_g0, st_g1, st_g2, st_g3, st_g4, st_g5, st_g6, st_g7, st_g8, st_g9, st_s0, st_s1, st_s2, st_s3, st_s4, st_s5, st_s6, st_s7, st_s8, st_s9, List.length_cons, List.length_nil, List.take_succ_cons, List.take_zero, List.drop_succ_cons, List.drop_zero, List.reverse_cons, List.reverse_nil, List.nil_append, List.cons_append, List.all_cons, List.all_nil, ms_nl, Bool.and_true, Nat.reduceLeDiff, Nat.reduceAdd, Nat.reduceLT, Nat.reduceEqDiff, if_true, if_false, true_and, and_true, ms_rt, List.cons.injEq, exists_eq_left, exists_eq_right, exists_and_left, exists_and_right, ms_one, ite_true, ite_false, reduceIte, imp_self, Nat.zero_add, Nat.add_zero, zero_le_any, Nat.le_refl, Int.zero_add, true_or, or_true, false_implies, Int.reduceLE, Int.reduceLT, Int.reduceNeg, Int.reduceAdd, Int.reduceSub, Int.reduceMul, Int.reduceEq, not_true, not_false_iff, and_self, implies_true, false_and, and_false, or_false, false_or, bX5_pulls_0, bX5_pulls_1, bX5_pulls_2, lX5_pulls_0, lX5_pulls_1, lX5_pulls_2, qX5_pulls, sh_b]
  refine m_isColumn hv (fun r hr => ?_)
  simp only [sq_c, jp_s, jp_c, rc_0, rc_s, ms_ex, o_iload, o_aload, o_istore, o_astore, o_iinc, o_bin, o_div, o_rem, o_neg, o_and, o_shl, o_shr, o_dup, o_pop, o_dup2, o_if, o_icmp, o_switch, o_sw, o_get, o_put, o_iald, o_iast, o_zald, o_zast, o_aald, o_aast, o_len, ob_s, ob_n, o_call, o_max, o_min, o_copy, o_obj, o_lpush, o_ladd, o_lcmp, o_iret, o_lret, o_vret, i1_c, l1_c, r1_c, st_g0, st_g1, st_g2, st_g3, st_g4, st_g5, st_g6, st_g7, st_g8, st_g9, st_s0, st_s1, st_s2, st_s3, st_s4, st_s5, st_s6, st_s7, st_s8, st_s9, List.length_cons, List.length_nil, List.take_succ_cons, List.take_zero, List.drop_succ_cons, List.drop_zero, List.reverse_cons, List.reverse_nil, List.nil_append, List.cons_append, List.all_cons, List.all_nil, ms_nl, Bool.and_true, Nat.reduceLeDiff, Nat.reduceAdd, Nat.reduceLT, Nat.reduceEqDiff, if_true, if_false, true_and, and_true, ms_rt, List.cons.injEq, exists_eq_left, exists_eq_right, exists_and_left, exists_and_right, ms_one, ite_true, ite_false, reduceIte, imp_self, Nat.zero_add, Nat.add_zero, zero_le_any, Nat.le_refl, Int.zero_add, true_or, or_true, false_implies, Int.reduceLE, Int.reduceLT, Int.reduceNeg, Int.reduceAdd, Int.reduceSub, Int.reduceMul, Int.reduceEq, not_true, not_false_iff, and_self, implies_true, false_and, and_false, or_false, false_or, bX5_pulls_0, bX5_pulls_1, bX5_pulls_2, lX5_pulls_0, lX5_pulls_1, lX5_pulls_2, qX5_pulls, sh_b, hR, ar_46]
  refine ⟨fun h1 => ?_, fun h1 => q1 (bf hr h1)⟩
  have hc := bt hr h1
  have hs0 := hst c hc.1 (by omega)
  refine ⟨by omega, by omega, rg_of (by omega) (by omega), fun h2 => ?_, fun h2 => q2 hc (by omega)⟩
  refine m_notes hv.1 hu ?_
  have e1 : ntH h 38 13 = 46 := by
    rw [nt_38 _ (by omega)]; exact hR.2.2.2.2.2.2.2.1
  simp only [sq_c, jp_s, jp_c, rc_0, rc_s, ms_ex, o_iload, o_aload, o_istore, o_astore, o_iinc, o_bin, o_div, o_rem, o_neg, o_and, o_shl, o_shr, o_dup, o_pop, o_dup2, o_if, o_icmp, o_switch, o_sw, o_get, o_put, o_iald, o_iast, o_zald, o_zast, o_aald, o_aast, o_len, ob_s, ob_n, o_call, o_max, o_min, o_copy, o_obj, o_lpush, o_ladd, o_lcmp, o_iret, o_lret, o_vret, i1_c, l1_c, r1_c, st_g0, st_g1, st_g2, st_g3, st_g4, st_g5, st_g6, st_g7, st_g8, st_g9, st_s0, st_s1, st_s2, st_s3, st_s4, st_s5, st_s6, st_s7, st_s8, st_s9, List.length_cons, List.length_nil, List.take_succ_cons, List.take_zero, List.drop_succ_cons, List.drop_zero, List.reverse_cons, List.reverse_nil, List.nil_append, List.cons_append, List.all_cons, List.all_nil, ms_nl, Bool.and_true, Nat.reduceLeDiff, Nat.reduceAdd, Nat.reduceLT, Nat.reduceEqDiff, if_true, if_false, true_and, and_true, ms_rt, List.cons.injEq, exists_eq_left, exists_eq_right, exists_and_left, exists_and_right, ms_one, ite_true, ite_false, reduceIte, imp_self, Nat.zero_add, Nat.add_zero, zero_le_any, Nat.le_refl, Int.zero_add, true_or, or_true, false_implies, Int.reduceLE, Int.reduceLT, Int.reduceNeg, Int.reduceAdd, Int.reduceSub, Int.reduceMul, Int.reduceEq, not_true, not_false_iff, and_self, implies_true, false_and, and_false, or_false, false_or, bX5_pulls_0, bX5_pulls_1, bX5_pulls_2, lX5_pulls_0, lX5_pulls_1, lX5_pulls_2, qX5_pulls, sh_b, hs_v, e1, ar_46]
  exact ⟨by omega, by omega, q3 hc (by omega)⟩
theorem m_undo {d : Nat} {h : ms_H} {Q : ms_Q} (hv : MV h) (hu : 0 ≤ h 38 32 ∧ h 38 32 ≤ 10) (q1 : h 38 32 = 0 → Q (some (mI (-2))) SH h) (q2 : ¬ h 38 32 = 0 → Q (some (mI (h 38 32 - 1))) SH (rbH (hs h 38 32 (h 38 32 - 1)) 53 (10 * (h 38 32 - 1)))) : ms_Ok ms_P (d + 2) 130 [mR 38] SH (h) Q := by
  refine ok_in (k := 30) MX5_undo rfl rfl ?_
  show sq (ms_Ok ms_P (d + 1)) ms_X1 MX5_undo Q 30 (M_bl MX5_undo 0) [mR 38] [] (SH, 0, 0) (h)
  have hR := hv.1
  unfold RM at hR
  simp only [sq_c, jp_s, jp_c, rc_0, rc_s, ms_ex, o_iload, o_aload, o_istore, o_astore, o_iinc, o_bin, o_div, o_rem, o_neg, o_and, o_shl, o_shr, o_dup, o_pop, o_dup2, o_if, o_icmp, o_switch, o_sw, o_get, o_put, o_iald, o_iast, o_zald, o_zast, o_aald, o_aast, o_len, ob_s, ob_n, o_call, o_max, o_min, o_copy, o_obj, o_lpush, o_ladd, o_lcmp, o_iret, o_lret, o_vret, i1_c, l1_c, r1_c, st_g0, st_g1, st_g2, st_g3, st_g4, st_g5, st_g6, st_g7, st_g8, st_g9, st_s0, st_s1, st_s2, st_s3, st_s4, st_s5, st_s6, st_s7, st_s8, st_s9, List.length_cons, List.length_nil, List.take_succ_cons, List.take_zero, List.drop_succ_cons, List.drop_zero, List.reverse_cons, List.reverse_nil, List.nil_append, List.cons_append, List.all_cons, List.all_nil, ms_nl, Bool.and_true, Nat.reduceLeDiff, Nat.reduceAdd, Nat.reduceLT, Nat.reduceEqDiff, if_true, if_false, true_and, and_true, ms_rt, List.cons.injEq, exists_eq_left, exists_eq_right, exists_and_left, exists_and_right, ms_one, ite_true, ite_false, reduceIte, imp_self, Nat.zero_add, Nat.add_zero, zero_le_any, Nat.le_refl, Int.zero_add, true_or, or_true, false_implies, Int.reduceLE, Int.reduceLT, Int.reduceNeg, Int.reduceAdd, Int.reduceSub, Int.reduceMul, Int.reduceEq, not_true, not_false_iff, and_self, implies_true, false_and, and_false, or_false, false_or, bX5_undo_0, bX5_undo_1, lX5_undo_0, lX5_undo_1, qX5_undo, sh_b, hs_v, hR]
  refine ⟨fun h1 => ?_, fun h1 => q1 h1⟩
  refine ⟨rg_of (by omega) (by omega), rg_of (by omega) (by omega), ?_⟩
  refine m_readsBack (N := 100) (MV_hs hv (by omega)).1 ar_53 (by decide) (by omega) ?_
  simp only [sq_c, jp_s, jp_c, rc_0, rc_s, ms_ex, o_iload, o_aload, o_istore, o_astore, o_iinc, o_bin, o_div, o_rem, o_neg, o_and, o_shl, o_shr, o_dup, o_pop, o_dup2, o_if, o_icmp, o_switch, o_sw, o_get, o_put, o_iald, o_iast, o_zald, o_zast, o_aald, o_aast, o_len, ob_s, ob_n, o_call, o_max, o_min, o_copy, o_obj, o_lpush, o_ladd, o_lcmp, o_iret, o_lret, o_vret, i1_c, l1_c, r1_c, st_g0, st_g1, st_g2, st_g3, st_g4, st_g5, st_g6, st_g7, st_g8, st_g9, st_s0, st_s1, st_s2, st_s3, st_s4, st_s5, st_s6, st_s7, st_s8, st_s9, List.length_cons, List.length_nil, List.take_succ_cons, List.take_zero, List.drop_succ_cons, List.drop_zero, List.reverse_cons, List.reverse_nil, List.nil_append, List.cons_append, List.all_cons, List.all_nil, ms_nl, Bool.and_true, Nat.reduceLeDiff, Nat.reduceAdd, Nat.reduceLT, Nat.reduceEqDiff, if_true, if_false, true_and, and_true, ms_rt, List.cons.injEq, exists_eq_left, exists_eq_right, exists_and_left, exists_and_right, ms_one, ite_true, ite_false, reduceIte, imp_self, Nat.zero_add, Nat.add_zero, zero_le_any, Nat.le_refl, Int.zero_add, true_or, or_true, false_implies, Int.reduceLE, Int.reduceLT, Int.reduceNeg, Int.reduceAdd, Int.reduceSub, Int.reduceMul, Int.reduceEq, not_true, not_false_iff, and_self, implies_true, false_and, and_false, or_false, false_or, bX5_undo_0, bX5_undo_1, lX5_undo_0, lX5_undo_1, qX5_undo, sh_b, hs_v, hR, rbH_v]
  exact q2 h1
def kpP (h : ms_H) (at_ m : Int) : ms_H := fun a b => if a = 57 ∧ at_ + 12 ≤ b ∧ b < at_ + 12 + m then h 53 (b - at_ - 12) else h a b
theorem kpP_v (h : ms_H) (at_ m a b : Int) : kpP h at_ m a b = if a = 57 ∧ at_ + 12 ≤ b ∧ b < at_ + 12 + m then h 53 (b - at_ - 12) else h a b := rfl
theorem kpP_0 (h : ms_H) (at_ : Int) : kpP h at_ 0 = h := by
  funext a b
  rw [kpP_v, if_neg (by omega)]
theorem kpP_s {h : ms_H} {at_ c : Int} (h0 : 0 ≤ c) : hs (kpP h at_ c) 57 (at_ + 12 + c) (h 53 c) = kpP h at_ (c + 1) := by
  funext a b
  rw [hs_v, kpP_v, kpP_v]
  by_cases h1 : a = 57 ∧ b = at_ + 12 + c
  · rw [if_pos h1, if_pos (by omega)]; congr 1; omega
  · rw [if_neg h1]
    by_cases h2 : a = 57 ∧ at_ + 12 ≤ b ∧ b < at_ + 12 + c
    · rw [if_pos h2, if_pos (by omega)]
    · rw [if_neg h2, if_neg (by omega)]
theorem m_keep_lp {d : Nat} {h : ms_H} {Q : ms_Q} {im at_ : Int} (hR : RM h) (ha : 0 ≤ at_ ∧ at_ ≤ 112) (q : Q (some (mI (h 38 11))) SH (kpP h at_ 100)) : ∀ (j : Nat) (k : Int), k + j = 100 → 0 ≤ k → ms_at (ms_Ok ms_P (d)) ms_X1 MX5_keep Q 100 [mR 38, mI im, mI at_, mI k] [] (SH, 0, 0) (kpP h at_ k) := by
  unfold RM at hR
  intro j
  induction j with
  | zero =>
    intro k hk h0
    have : k = 100 := by omega
    subst this
    refine sq_at (ms_Ok_m ms_P _) 30 100 ?_
    simp only [sq_c, jp_s, jp_c, rc_0, rc_s, ms_ex, o_iload, o_aload, o_istore, o_astore, o_iinc, o_bin, o_div, o_rem, o_neg, o_and, o_shl, o_shr, o_dup, o_pop, o_dup2, o_if, o_icmp, o_switch, o_sw, o_get, o_put, o_iald, o_iast, o_zald, o_zast, o_aald, o_aast, o_len, ob_s, ob_n, o_call, o_max, o_min, o_copy, o_obj, o_lpush, o_ladd, o_lcmp, o_iret, o_lret, o_vret, i1_c, l1_c, r1_c, st_g0, st_g1, st_g2, st_g3, st_g4, st_g5, st_g6, st_g7, st_g8, st_g9, st_s0, st_s1, st_s2, st_s3, st_s4, st_s5, st_s6, st_s7, st_s8, st_s9, List.length_cons, List.length_nil, List.take_succ_cons, List.take_zero, List.drop_succ_cons, List.drop_zero, List.reverse_cons, List.reverse_nil, List.nil_append, List.cons_append, List.all_cons, List.all_nil, ms_nl, Bool.and_true, Nat.reduceLeDiff, Nat.reduceAdd, Nat.reduceLT, Nat.reduceEqDiff, if_true, if_false, true_and, and_true, ms_rt, List.cons.injEq, exists_eq_left, exists_eq_right, exists_and_left, exists_and_right, ms_one, ite_true, ite_false, reduceIte, imp_self, Nat.zero_add, Nat.add_zero, zero_le_any, Nat.le_refl, Int.zero_add, true_or, or_true, false_implies, Int.reduceLE, Int.reduceLT, Int.reduceNeg, Int.reduceAdd, Int.reduceSub, Int.reduceMul, Int.reduceEq, not_true, not_false_iff, and_self, implies_true, false_and, and_false, or_false, false_or, bX5_keep_0, bX5_keep_1, bX5_keep_2, bX5_keep_100, lX5_keep_0, lX5_keep_1, lX5_keep_2, lX5_keep_100, qX5_keep, sh_b, hR, kpP_v]
    exact q
  | succ j ih =>
    intro k hk h0
    have ih' := ih (k + 1) (by omega) (by omega)
    refine sq_at (ms_Ok_m ms_P _) 30 100 ?_
    simp only [sq_c, jp_s, jp_c, rc_0, rc_s, ms_ex, o_iload, o_aload, o_istore, o_astore, o_iinc, o_bin, o_div, o_rem, o_neg, o_and, o_shl, o_shr, o_dup, o_pop, o_dup2, o_if, o_icmp, o_switch, o_sw, o_get, o_put, o_iald, o_iast, o_zald, o_zast, o_aald, o_aast, o_len, ob_s, ob_n, o_call, o_max, o_min, o_copy, o_obj, o_lpush, o_ladd, o_lcmp, o_iret, o_lret, o_vret, i1_c, l1_c, r1_c, st_g0, st_g1, st_g2, st_g3, st_g4, st_g5, st_g6, st_g7, st_g8, st_g9, st_s0, st_s1, st_s2, st_s3, st_s4, st_s5, st_s6, st_s7, st_s8, st_s9, List.length_cons, List.length_nil, List.take_succ_cons, List.take_zero, List.drop_succ_cons, List.drop_zero, List.reverse_cons, List.reverse_nil, List.nil_append, List.cons_append, List.all_cons, List.all_nil, ms_nl, Bool.and_true, Nat.reduceLeDiff, Nat.reduceAdd, Nat.reduceLT, Nat.reduceEqDiff, if_true, if_false, true_and, and_true, ms_rt, List.cons.injEq, exists_eq_left, exists_eq_right, exists_and_left, exists_and_right, ms_one, ite_true, ite_false, reduceIte, imp_self, Nat.zero_add, Nat.add_zero, zero_le_any, Nat.le_refl, Int.zero_add, true_or, or_true, false_implies, Int.reduceLE, Int.reduceLT, Int.reduceNeg, Int.reduceAdd, Int.reduceSub, Int.reduceMul, Int.reduceEq, not_true, not_false_iff, and_self, implies_true, false_and, and_false, or_false, false_or, bX5_keep_0, bX5_keep_1, bX5_keep_2, bX5_keep_100, lX5_keep_0, lX5_keep_1, lX5_keep_2, lX5_keep_100, qX5_keep, sh_b, hR, kpP_v, ar_53, ar_57]
    refine ⟨fun h1 => by omega, fun h1 => ⟨rg_of (by omega) (by omega), rg_of (by omega) (by omega), by omega, by omega, by omega, by omega, rg_of (by omega) (by omega), ?_⟩⟩
    rw [kpP_s h0]
    exact ih'
def kpH (h : ms_H) (at_ : Int) : ms_H := kpP (wrH (hs (hs h 57 at_ 1) 57 (at_ + 1) (h 38 32)) 57 (at_ + 2)) at_ 100
theorem RM_n38 {h h' : ms_H} (hR : RM h) (e : ∀ k, h' 38 k = h 38 k) : RM h' := by
  unfold RM at hR ⊢
  simp only [e]
  exact hR
theorem m_keep {d : Nat} {im : Int} {h : ms_H} {Q : ms_Q} (hv : MV h) (q1 : ¬ (0 ≤ im ∧ im ≤ 1) → Q (some (mI (-1))) SH h) (q2 : (0 ≤ im ∧ im ≤ 1) → Q (some (mI (h 38 11))) SH (kpH h (112 * im))) : ms_Ok ms_P (d + 2) 157 [mR 38, mI im] SH (h) Q := by
  refine ok_in (k := 30) MX5_keep rfl rfl ?_
  show sq (ms_Ok ms_P (d + 1)) ms_X1 MX5_keep Q 30 (M_bl MX5_keep 0) [mR 38, mI im, mL 0, mL 0] [] (SH, 0, 0) (h)
  have hR := hv.1
  unfold RM at hR
  simp only [sq_c, jp_s, jp_c, rc_0, rc_s, ms_ex, o_iload, o_aload, o_istore, o_astore, o_iinc, o_bin, o_div, o_rem, o_neg, o_and, o_shl, o_shr, o_dup, o_pop, o_dup2, o_if, o_icmp, o_switch, o_sw, o_get, o_put, o_iald, o_iast, o_zald, o_zast, o_aald, o_aast, o_len, ob_s, ob_n, o_call, o_max, o_min, o_copy, o_obj, o_lpush, o_ladd, o_lcmp, o_iret, o_lret, o_vret, i1_c, l1_c, r1_c, st_g0, st_g1, st_g2, st_g3, st_g4, st_g5, st_g6, st_g7, st_g8, st_g9, st_s0, st_s1, st_s2, st_s3, st_s4, st_s5, st_s6, st_s7, st_s8, st_s9, List.length_cons, List.length_nil, List.take_succ_cons, List.take_zero, List.drop_succ_cons, List.drop_zero, List.reverse_cons, List.reverse_nil, List.nil_append, List.cons_append, List.all_cons, List.all_nil, ms_nl, Bool.and_true, Nat.reduceLeDiff, Nat.reduceAdd, Nat.reduceLT, Nat.reduceEqDiff, if_true, if_false, true_and, and_true, ms_rt, List.cons.injEq, exists_eq_left, exists_eq_right, exists_and_left, exists_and_right, ms_one, ite_true, ite_false, reduceIte, imp_self, Nat.zero_add, Nat.add_zero, zero_le_any, Nat.le_refl, Int.zero_add, true_or, or_true, false_implies, Int.reduceLE, Int.reduceLT, Int.reduceNeg, Int.reduceAdd, Int.reduceSub, Int.reduceMul, Int.reduceEq, not_true, not_false_iff, and_self, implies_true, false_and, and_false, or_false, false_or, bX5_keep_0, bX5_keep_1, bX5_keep_2, bX5_keep_100, lX5_keep_0, lX5_keep_1, lX5_keep_2, lX5_keep_100, qX5_keep, sh_b, hR]
  refine m_in (fun r hr => ?_)
  simp only [sq_c, jp_s, jp_c, rc_0, rc_s, ms_ex, o_iload, o_aload, o_istore, o_astore, o_iinc, o_bin, o_div, o_rem, o_neg, o_and, o_shl, o_shr, o_dup, o_pop, o_dup2, o_if, o_icmp, o_switch, o_sw, o_get, o_put, o_iald, o_iast, o_zald, o_zast, o_aald, o_aast, o_len, ob_s, ob_n, o_call, o_max, o_min, o_copy, o_obj, o_lpush, o_ladd, o_lcmp, o_iret, o_lret, o_vret, i1_c, l1_c, r1_c, st_g0, st_g1, st_g2, st_g3, st_g4, st_g5, st_g6, st_g7, st_g8, st_g9, st_s0, st_s1, st_s2, st_s3, st_s4, st_s5, st_s6, st_s7, st_s8, st_s9, List.length_cons, List.length_nil, List.take_succ_cons, List.take_zero, List.drop_succ_cons, List.drop_zero, List.reverse_cons, List.reverse_nil, List.nil_append, List.cons_append, List.all_cons, List.all_nil, ms_nl, Bool.and_true, Nat.reduceLeDiff, Nat.reduceAdd, Nat.reduceLT, Nat.reduceEqDiff, if_true, if_false, true_and, and_true, ms_rt, List.cons.injEq, exists_eq_left, exists_eq_right, exists_and_left, exists_and_right, ms_one, ite_true, ite_false, reduceIte, imp_self, Nat.zero_add, Nat.add_zero, zero_le_any, Nat.le_refl, Int.zero_add, true_or, or_true, false_implies, Int.reduceLE, Int.reduceLT, Int.reduceNeg, Int.reduceAdd, Int.reduceSub, Int.reduceMul, Int.reduceEq, not_true, not_false_iff, and_self, implies_true, false_and, and_false, or_false, false_or, bX5_keep_0, bX5_keep_1, bX5_keep_2, bX5_keep_100, lX5_keep_0, lX5_keep_1, lX5_keep_2, lX5_keep_100, qX5_keep, sh_b, hs_v, hR, ar_57]
  refine ⟨fun h1 => ?_, fun h1 => q1 (bf hr h1)⟩
  have hi := bt hr h1
  refine ⟨rg_of (by omega) (by omega), by omega, by omega, rg_of (by omega) (by omega), by omega, by omega, rg_of (by omega) (by omega), ?_⟩
  have hR2 : RM (hs (hs h 57 (112 * im) 1) 57 (112 * im + 1) (h 38 32)) := RM_n38 hv.1 (fun k => by rw [hs_v, if_neg (by omega), hs_v, if_neg (by omega)])
  refine m_writes (N := 224) hR2 ar_57 (by decide) (by omega) ?_
  simp only [sq_c, jp_s, jp_c, rc_0, rc_s, ms_ex, o_iload, o_aload, o_istore, o_astore, o_iinc, o_bin, o_div, o_rem, o_neg, o_and, o_shl, o_shr, o_dup, o_pop, o_dup2, o_if, o_icmp, o_switch, o_sw, o_get, o_put, o_iald, o_iast, o_zald, o_zast, o_aald, o_aast, o_len, ob_s, ob_n, o_call, o_max, o_min, o_copy, o_obj, o_lpush, o_ladd, o_lcmp, o_iret, o_lret, o_vret, i1_c, l1_c, r1_c, st_g0, st_g1, st_g2, st_g3, st_g4, st_g5, st_g6, st_g7, st_g8, st_g9, st_s0, st_s1, st_s2, st_s3, st_s4, st_s5, st_s6, st_s7, st_s8, st_s9, List.length_cons, List.length_nil, List.take_succ_cons, List.take_zero, List.drop_succ_cons, List.drop_zero, List.reverse_cons, List.reverse_nil, List.nil_append, List.cons_append, List.all_cons, List.all_nil, ms_nl, Bool.and_true, Nat.reduceLeDiff, Nat.reduceAdd, Nat.reduceLT, Nat.reduceEqDiff, if_true, if_false, true_and, and_true, ms_rt, List.cons.injEq, exists_eq_left, exists_eq_right, exists_and_left, exists_and_right, ms_one, ite_true, ite_false, reduceIte, imp_self, Nat.zero_add, Nat.add_zero, zero_le_any, Nat.le_refl, Int.zero_add, true_or, or_true, false_implies, Int.reduceLE, Int.reduceLT, Int.reduceNeg, Int.reduceAdd, Int.reduceSub, Int.reduceMul, Int.reduceEq, not_true, not_false_iff, and_self, implies_true, false_and, and_false, or_false, false_or, bX5_keep_0, bX5_keep_1, bX5_keep_2, bX5_keep_100, lX5_keep_0, lX5_keep_1, lX5_keep_2, lX5_keep_100, qX5_keep, sh_b, hs_v, hR, ar_57, wrH_v]
  have hR3 : RM (wrH (hs (hs h 57 (112 * im) 1) 57 (112 * im + 1) (h 38 32)) 57 (112 * im + 2)) := RM_n38 hR2 (fun k => by rw [wrH_v, if_neg (by omega)])
  have := m_keep_lp (d := d + 1) (Q := Q) (im := im) (at_ := 112 * im) hR3 (by omega) (by rw [wrH_v, if_neg (by omega), hs_v, if_neg (by omega), hs_v, if_neg (by omega)]; exact q2 hi) 100 0 (by omega) (by omega)
  rw [kpP_0] at this
  exact this
def bkP (h : ms_H) (at_ m : Int) : ms_H := fun a b => if a = 53 ∧ 0 ≤ b ∧ b < m then h 57 (at_ + 12 + b) else h a b
theorem bkP_v (h : ms_H) (at_ m a b : Int) : bkP h at_ m a b = if a = 53 ∧ 0 ≤ b ∧ b < m then h 57 (at_ + 12 + b) else h a b := rfl
theorem bkP_0 (h : ms_H) (at_ : Int) : bkP h at_ 0 = h := by
  funext a b
  rw [bkP_v, if_neg (by omega)]
theorem bkP_s {h : ms_H} {at_ c : Int} (h0 : 0 ≤ c) : hs (bkP h at_ c) 53 c (h 57 (at_ + 12 + c)) = bkP h at_ (c + 1) := by
  funext a b
  rw [hs_v, bkP_v, bkP_v]
  by_cases h1 : a = 53 ∧ b = c
  · rw [if_pos h1, if_pos (by omega), h1.2]
  · rw [if_neg h1]
    by_cases h2 : a = 53 ∧ 0 ≤ b ∧ b < c
    · rw [if_pos h2, if_pos (by omega)]
    · rw [if_neg h2, if_neg (by omega)]
theorem m_back_lp {d : Nat} {h : ms_H} {Q : ms_Q} {im at_ : Int} (hR : RM h) (ha : 0 ≤ at_ ∧ at_ ≤ 112) (q : Q (some (mI (h 38 11))) SH (bkP h at_ 100)) : ∀ (j : Nat) (k : Int), k + j = 100 → 0 ≤ k → ms_at (ms_Ok ms_P (d)) ms_X1 MX5_back Q 100 [mR 38, mI im, mI at_, mI k] [] (SH, 0, 0) (bkP h at_ k) := by
  unfold RM at hR
  intro j
  induction j with
  | zero =>
    intro k hk h0
    have : k = 100 := by omega
    subst this
    refine sq_at (ms_Ok_m ms_P _) 30 100 ?_
    simp only [sq_c, jp_s, jp_c, rc_0, rc_s, ms_ex, o_iload, o_aload, o_istore, o_astore, o_iinc, o_bin, o_div, o_rem, o_neg, o_and, o_shl, o_shr, o_dup, o_pop, o_dup2, o_if, o_icmp, o_switch, o_sw, o_get, o_put, o_iald, o_iast, o_zald, o_zast, o_aald, o_aast, o_len, ob_s, ob_n, o_call, o_max, o_min, o_copy, o_obj, o_lpush, o_ladd, o_lcmp, o_iret, o_lret, o_vret, i1_c, l1_c, r1_c, st_g0, st_g1, st_g2, st_g3, st_g4, st_g5, st_g6, st_g7, st_g8, st_g9, st_s0, st_s1, st_s2, st_s3, st_s4, st_s5, st_s6, st_s7, st_s8, st_s9, List.length_cons, List.length_nil, List.take_succ_cons, List.take_zero, List.drop_succ_cons, List.drop_zero, List.reverse_cons, List.reverse_nil, List.nil_append, List.cons_append, List.all_cons, List.all_nil, ms_nl, Bool.and_true, Nat.reduceLeDiff, Nat.reduceAdd, Nat.reduceLT, Nat.reduceEqDiff, if_true, if_false, true_and, and_true, ms_rt, List.cons.injEq, exists_eq_left, exists_eq_right, exists_and_left, exists_and_right, ms_one, ite_true, ite_false, reduceIte, imp_self, Nat.zero_add, Nat.add_zero, zero_le_any, Nat.le_refl, Int.zero_add, true_or, or_true, false_implies, Int.reduceLE, Int.reduceLT, Int.reduceNeg, Int.reduceAdd, Int.reduceSub, Int.reduceMul, Int.reduceEq, not_true, not_false_iff, and_self, implies_true, false_and, and_false, or_false, false_or, bX5_back_0, bX5_back_1, bX5_back_2, bX5_back_3, bX5_back_100, lX5_back_0, lX5_back_1, lX5_back_2, lX5_back_3, lX5_back_100, qX5_back, sh_b, hR, bkP_v]
    exact q
  | succ j ih =>
    intro k hk h0
    have ih' := ih (k + 1) (by omega) (by omega)
    refine sq_at (ms_Ok_m ms_P _) 30 100 ?_
    simp only [sq_c, jp_s, jp_c, rc_0, rc_s, ms_ex, o_iload, o_aload, o_istore, o_astore, o_iinc, o_bin, o_div, o_rem, o_neg, o_and, o_shl, o_shr, o_dup, o_pop, o_dup2, o_if, o_icmp, o_switch, o_sw, o_get, o_put, o_iald, o_iast, o_zald, o_zast, o_aald, o_aast, o_len, ob_s, ob_n, o_call, o_max, o_min, o_copy, o_obj, o_lpush, o_ladd, o_lcmp, o_iret, o_lret, o_vret, i1_c, l1_c, r1_c, st_g0, st_g1, st_g2, st_g3, st_g4, st_g5, st_g6, st_g7, st_g8, st_g9, st_s0, st_s1, st_s2, st_s3, st_s4, st_s5, st_s6, st_s7, st_s8, st_s9, List.length_cons, List.length_nil, List.take_succ_cons, List.take_zero, List.drop_succ_cons, List.drop_zero, List.reverse_cons, List.reverse_nil, List.nil_append, List.cons_append, List.all_cons, List.all_nil, ms_nl, Bool.and_true, Nat.reduceLeDiff, Nat.reduceAdd, Nat.reduceLT, Nat.reduceEqDiff, if_true, if_false, true_and, and_true, ms_rt, List.cons.injEq, exists_eq_left, exists_eq_right, exists_and_left, exists_and_right, ms_one, ite_true, ite_false, reduceIte, imp_self, Nat.zero_add, Nat.add_zero, zero_le_any, Nat.le_refl, Int.zero_add, true_or, or_true, false_implies, Int.reduceLE, Int.reduceLT, Int.reduceNeg, Int.reduceAdd, Int.reduceSub, Int.reduceMul, Int.reduceEq, not_true, not_false_iff, and_self, implies_true, false_and, and_false, or_false, false_or, bX5_back_0, bX5_back_1, bX5_back_2, bX5_back_3, bX5_back_100, lX5_back_0, lX5_back_1, lX5_back_2, lX5_back_3, lX5_back_100, qX5_back, sh_b, hR, bkP_v, ar_53, ar_57]
    refine ⟨fun h1 => by omega, fun h1 => ⟨rg_of (by omega) (by omega), rg_of (by omega) (by omega), by omega, by omega, by omega, by omega, rg_of (by omega) (by omega), ?_⟩⟩
    rw [bkP_s h0]
    exact ih'
def bkH (h : ms_H) (at_ : Int) : ms_H := bkP (rbH (hs h 38 32 (h 57 (at_ + 1))) 57 (at_ + 2)) at_ 100
theorem m_back {d : Nat} {im : Int} {h : ms_H} {Q : ms_Q} (hv : MV h) (q1 : ¬ (0 ≤ im ∧ im ≤ 1) → Q (some (mI (-1))) SH h) (q2 : (0 ≤ im ∧ im ≤ 1) → h 57 (112 * im) = 0 → Q (some (mI (-2))) SH h) (q3 : (0 ≤ im ∧ im ≤ 1) → ¬ h 57 (112 * im) = 0 → Q (some (mI (h 57 (112 * im + 2)))) SH (bkH h (112 * im))) : ms_Ok ms_P (d + 2) 158 [mR 38, mI im] SH (h) Q := by
  refine ok_in (k := 30) MX5_back rfl rfl ?_
  show sq (ms_Ok ms_P (d + 1)) ms_X1 MX5_back Q 30 (M_bl MX5_back 0) [mR 38, mI im, mL 0, mL 0] [] (SH, 0, 0) (h)
  have hR := hv.1
  unfold RM at hR
  simp only [sq_c, jp_s, jp_c, rc_0, rc_s, ms_ex, o_iload, o_aload, o_istore, o_astore, o_iinc, o_bin, o_div, o_rem, o_neg, o_and, o_shl, o_shr, o_dup, o_pop, o_dup2, o_if, o_icmp, o_switch, o_sw, o_get, o_put, o_iald, o_iast, o_zald, o_zast, o_aald, o_aast, o_len, ob_s, ob_n, o_call, o_max, o_min, o_copy, o_obj, o_lpush, o_ladd, o_lcmp, o_iret, o_lret, o_vret, i1_c, l1_c, r1_c, st_g0, st_g1, st_g2, st_g3, st_g4, st_g5, st_g6, st_g7, st_g8, st_g9, st_s0, st_s1, st_s2, st_s3, st_s4, st_s5, st_s6, st_s7, st_s8, st_s9, List.length_cons, List.length_nil, List.take_succ_cons, List.take_zero, List.drop_succ_cons, List.drop_zero, List.reverse_cons, List.reverse_nil, List.nil_append, List.cons_append, List.all_cons, List.all_nil, ms_nl, Bool.and_true, Nat.reduceLeDiff, Nat.reduceAdd, Nat.reduceLT, Nat.reduceEqDiff, if_true, if_false, true_and, and_true, ms_rt, List.cons.injEq, exists_eq_left, exists_eq_right, exists_and_left, exists_and_right, ms_one, ite_true, ite_false, reduceIte, imp_self, Nat.zero_add, Nat.add_zero, zero_le_any, Nat.le_refl, Int.zero_add, true_or, or_true, false_implies, Int.reduceLE, Int.reduceLT, Int.reduceNeg, Int.reduceAdd, Int.reduceSub, Int.reduceMul, Int.reduceEq, not_true, not_false_iff, and_self, implies_true, false_and, and_false, or_false, false_or, bX5_back_0, bX5_back_1, bX5_back_2, bX5_back_3, bX5_back_100, lX5_back_0, lX5_back_1, lX5_back_2, lX5_back_3, lX5_back_100, qX5_back, sh_b, hR]
  refine m_in (fun r hr => ?_)
  simp only [sq_c, jp_s, jp_c, rc_0, rc_s, ms_ex, o_iload, o_aload, o_istore, o_astore, o_iinc, o_bin, o_div, o_rem, o_neg, o_and, o_shl, o_shr, o_dup, o_pop, o_dup2, o_if, o_icmp, o_switch, o_sw, o_get, o_put, o_iald, o_iast, o_zald, o_zast, o_aald, o_aast, o_len, ob_s, ob_n, o_call, o_max, o_min, o_copy, o_obj, o_lpush, o_ladd, o_lcmp, o_iret, o_lret, o_vret, i1_c, l1_c, r1_c, st_g0, st_g1, st_g2, st_g3, st_g4, st_g5, st_g6, st_g7, st_g8, st_g9, st_s0, st_s1, st_s2, st_s3, st_s4, st_s5, st_s6, st_s7, st_s8, st_s9, List.length_cons, List.length_nil, List.take_succ_cons, List.take_zero, List.drop_succ_cons, List.drop_zero, List.reverse_cons, List.reverse_nil, List.nil_append, List.cons_append, List.all_cons, List.all_nil, ms_nl, Bool.and_true, Nat.reduceLeDiff, Nat.reduceAdd, Nat.reduceLT, Nat.reduceEqDiff, if_true, if_false, true_and, and_true, ms_rt, List.cons.injEq, exists_eq_left, exists_eq_right, exists_and_left, exists_and_right, ms_one, ite_true, ite_false, reduceIte, imp_self, Nat.zero_add, Nat.add_zero, zero_le_any, Nat.le_refl, Int.zero_add, true_or, or_true, false_implies, Int.reduceLE, Int.reduceLT, Int.reduceNeg, Int.reduceAdd, Int.reduceSub, Int.reduceMul, Int.reduceEq, not_true, not_false_iff, and_self, implies_true, false_and, and_false, or_false, false_or, bX5_back_0, bX5_back_1, bX5_back_2, bX5_back_3, bX5_back_100, lX5_back_0, lX5_back_1, lX5_back_2, lX5_back_3, lX5_back_100, qX5_back, sh_b, hs_v, hR, ar_57]
  refine ⟨fun h1 => ?_, fun h1 => q1 (bf hr h1)⟩
  have hi := bt hr h1
  refine ⟨rg_of (by omega) (by omega), by omega, by omega, fun h2 => ?_, fun h2 => q2 hi h2⟩
  refine ⟨rg_of (by omega) (by omega), by omega, by omega, rg_of (by omega) (by omega), ?_⟩
  have hR2 : RM (hs h 38 32 (h 57 (112 * im + 1))) := (MV_hs hv (by omega)).1
  refine m_readsBack (N := 224) hR2 ar_57 (by decide) (by omega) ?_
  simp only [sq_c, jp_s, jp_c, rc_0, rc_s, ms_ex, o_iload, o_aload, o_istore, o_astore, o_iinc, o_bin, o_div, o_rem, o_neg, o_and, o_shl, o_shr, o_dup, o_pop, o_dup2, o_if, o_icmp, o_switch, o_sw, o_get, o_put, o_iald, o_iast, o_zald, o_zast, o_aald, o_aast, o_len, ob_s, ob_n, o_call, o_max, o_min, o_copy, o_obj, o_lpush, o_ladd, o_lcmp, o_iret, o_lret, o_vret, i1_c, l1_c, r1_c, st_g0, st_g1, st_g2, st_g3, st_g4, st_g5, st_g6, st_g7, st_g8, st_g9, st_s0, st_s1, st_s2, st_s3, st_s4, st_s5, st_s6, st_s7, st_s8, st_s9, List.length_cons, List.length_nil, List.take_succ_cons, List.take_zero, List.drop_succ_cons, List.drop_zero, List.reverse_cons, List.reverse_nil, List.nil_append, List.cons_append, List.all_cons, List.all_nil, ms_nl, Bool.and_true, Nat.reduceLeDiff, Nat.reduceAdd, Nat.reduceLT, Nat.reduceEqDiff, if_true, if_false, true_and, and_true, ms_rt, List.cons.injEq, exists_eq_left, exists_eq_right, exists_and_left, exists_and_right, ms_one, ite_true, ite_false, reduceIte, imp_self, Nat.zero_add, Nat.add_zero, zero_le_any, Nat.le_refl, Int.zero_add, true_or, or_true, false_implies, Int.reduceLE, Int.reduceLT, Int.reduceNeg, Int.reduceAdd, Int.reduceSub, Int.reduceMul, Int.reduceEq, not_true, not_false_iff, and_self, implies_true, false_and, and_false, or_false, false_or, bX5_back_0, bX5_back_1, bX5_back_2, bX5_back_3, bX5_back_100, lX5_back_0, lX5_back_1, lX5_back_2, lX5_back_3, lX5_back_100, qX5_back, sh_b, hs_v, hR, ar_57, rbH_v]
  have hR3 : RM (rbH (hs h 38 32 (h 57 (112 * im + 1))) 57 (112 * im + 2)) := by
    unfold RM
    simp only [rbH_v, hs_v, Int.reduceEq, and_false, false_and, if_false, hR, and_self]
  have := m_back_lp (d := d + 1) (Q := Q) (im := im) (at_ := 112 * im) hR3 (by omega) (by rw [rbH_v, if_pos (by omega), hs_v, if_neg (by omega)]; exact q3 hi h2) 100 0 (by omega) (by omega)
  rw [bkP_0] at this
  exact this
def mCnt (h : ms_H) (w : Int) : Int := if w = 0 then h 38 0 else if w = 1 then h 38 1 else if w = 2 then h 38 2 else if w = 3 then h 38 3 else if w = 4 then h 38 14 else if w = 5 then h 38 32 else h 38 18
theorem m_count {d : Nat} {w : Int} {h : ms_H} {Q : ms_Q} (q1 : ¬ (0 ≤ w ∧ w ≤ 6) → Q (some (mI (-1))) SH h) (q2 : (0 ≤ w ∧ w ≤ 6) → Q (some (mI (mCnt h w))) SH h) : ms_Ok ms_P (d + 2) 159 [mR 38, mI w] SH (h) Q := by
  refine ok_in (k := 30) MX5_count rfl rfl ?_
  show sq (ms_Ok ms_P (d + 1)) ms_X1 MX5_count Q 30 (M_bl MX5_count 0) [mR 38, mI w] [] (SH, 0, 0) (h)
  simp only [sq_c, jp_s, jp_c, rc_0, rc_s, ms_ex, o_iload, o_aload, o_istore, o_astore, o_iinc, o_bin, o_div, o_rem, o_neg, o_and, o_shl, o_shr, o_dup, o_pop, o_dup2, o_if, o_icmp, o_switch, o_sw, o_get, o_put, o_iald, o_iast, o_zald, o_zast, o_aald, o_aast, o_len, ob_s, ob_n, o_call, o_max, o_min, o_copy, o_obj, o_lpush, o_ladd, o_lcmp, o_iret, o_lret, o_vret, i1_c, l1_c, r1_c, st_g0, st_g1, st_g2, st_g3, st_g4, st_g5, st_g6, st_g7, st_g8, st_g9, st_s0, st_s1, st_s2, st_s3, st_s4, st_s5, st_s6, st_s7, st_s8, st_s9, List.length_cons, List.length_nil, List.take_succ_cons, List.take_zero, List.drop_succ_cons, List.drop_zero, List.reverse_cons, List.reverse_nil, List.nil_append, List.cons_append, List.all_cons, List.all_nil, ms_nl, Bool.and_true, Nat.reduceLeDiff, Nat.reduceAdd, Nat.reduceLT, Nat.reduceEqDiff, if_true, if_false, true_and, and_true, ms_rt, List.cons.injEq, exists_eq_left, exists_eq_right, exists_and_left, exists_and_right, ms_one, ite_true, ite_false, reduceIte, imp_self, Nat.zero_add, Nat.add_zero, zero_le_any, Nat.le_refl, Int.zero_add, true_or, or_true, false_implies, Int.reduceLE, Int.reduceLT, Int.reduceNeg, Int.reduceAdd, Int.reduceSub, Int.reduceMul, Int.reduceEq, not_true, not_false_iff, and_self, implies_true, false_and, and_false, or_false, false_or, bX5_count_0, bX5_count_1, bX5_count_2, bX5_count_3, bX5_count_4, bX5_count_5, bX5_count_6, bX5_count_7, bX5_count_8, lX5_count_0, lX5_count_1, lX5_count_2, lX5_count_3, lX5_count_4, lX5_count_5, lX5_count_6, lX5_count_7, lX5_count_8, qX5_count, sh_b]
  refine m_in (fun r hr => ?_)
  simp only [sq_c, jp_s, jp_c, rc_0, rc_s, ms_ex, o_iload, o_aload, o_istore, o_astore, o_iinc, o_bin, o_div, o_rem, o_neg, o_and, o_shl, o_shr, o_dup, o_pop, o_dup2, o_if, o_icmp, o_switch, o_sw, o_get, o_put, o_iald, o_iast, o_zald, o_zast, o_aald, o_aast, o_len, ob_s, ob_n, o_call, o_max, o_min, o_copy, o_obj, o_lpush, o_ladd, o_lcmp, o_iret, o_lret, o_vret, i1_c, l1_c, r1_c, st_g0, st_g1, st_g2, st_g3, st_g4, st_g5, st_g6, st_g7, st_g8, st_g9, st_s0, st_s1, st_s2, st_s3, st_s4, st_s5, st_s6, st_s7, st_s8, st_s9, List.length_cons, List.length_nil, List.take_succ_cons, List.take_zero, List.drop_succ_cons, List.drop_zero, List.reverse_cons, List.reverse_nil, List.nil_append, List.cons_append, List.all_cons, List.all_nil, ms_nl, Bool.and_true, Nat.reduceLeDiff, Nat.reduceAdd, Nat.reduceLT, Nat.reduceEqDiff, if_true, if_false, true_and, and_true, ms_rt, List.cons.injEq, exists_eq_left, exists_eq_right, exists_and_left, exists_and_right, ms_one, ite_true, ite_false, reduceIte, imp_self, Nat.zero_add, Nat.add_zero, zero_le_any, Nat.le_refl, Int.zero_add, true_or, or_true, false_implies, Int.reduceLE, Int.reduceLT, Int.reduceNeg, Int.reduceAdd, Int.reduceSub, Int.reduceMul, Int.reduceEq, not_true, not_false_iff, and_self, implies_true, false_and, and_false, or_false, false_or, bX5_count_0, bX5_count_1, bX5_count_2, bX5_count_3, bX5_count_4, bX5_count_5, bX5_count_6, bX5_count_7, bX5_count_8, lX5_count_0, lX5_count_1, lX5_count_2, lX5_count_3, lX5_count_4, lX5_count_5, lX5_count_6, lX5_count_7, lX5_count_8, qX5_count, sh_b]
  refine ⟨fun h1 => ?_, fun h1 => q1 (bf hr h1)⟩
  have q2 := q2 (bt hr h1)
  unfold mCnt at q2
  refine ⟨fun e0 => ⟨fun e1 => ⟨fun e2 => ⟨fun e3 => ⟨fun e4 => ⟨fun e5 => ?_, fun e5 => ?_⟩, fun e4 => ?_⟩, fun e3 => ?_⟩, fun e2 => ?_⟩, fun e1 => ?_⟩, fun e0 => ?_⟩
  · rw [if_neg e0, if_neg e1, if_neg e2, if_neg e3, if_neg e4, if_neg e5] at q2; exact q2
  · rw [if_neg e0, if_neg e1, if_neg e2, if_neg e3, if_neg e4, if_pos e5] at q2; exact q2
  · rw [if_neg e0, if_neg e1, if_neg e2, if_neg e3, if_pos e4] at q2; exact q2
  · rw [if_neg e0, if_neg e1, if_neg e2, if_pos e3] at q2; exact q2
  · rw [if_neg e0, if_neg e1, if_pos e2] at q2; exact q2
  · rw [if_neg e0, if_pos e1] at q2; exact q2
  · rw [if_pos e0] at q2; exact q2
theorem m_trace {d : Nat} {h : ms_H} {Q : ms_Q} (q : Q (some (mL (h 38 16))) SH h) : ms_Ok ms_P (d + 1) 160 [mR 38] SH (h) Q := by
  refine ok_in (k := 30) MX5_trace rfl rfl ?_
  show sq (ms_Ok ms_P (d)) ms_X1 MX5_trace Q 30 (M_bl MX5_trace 0) [mR 38] [] (SH, 0, 0) (h)
  simp only [sq_c, jp_s, jp_c, rc_0, rc_s, ms_ex, o_iload, o_aload, o_istore, o_astore, o_iinc, o_bin, o_div, o_rem, o_neg, o_and, o_shl, o_shr, o_dup, o_pop, o_dup2, o_if, o_icmp, o_switch, o_sw, o_get, o_put, o_iald, o_iast, o_zald, o_zast, o_aald, o_aast, o_len, ob_s, ob_n, o_call, o_max, o_min, o_copy, o_obj, o_lpush, o_ladd, o_lcmp, o_iret, o_lret, o_vret, i1_c, l1_c, r1_c, st_g0, st_g1, st_g2, st_g3, st_g4, st_g5, st_g6, st_g7, st_g8, st_g9, st_s0, st_s1, st_s2, st_s3, st_s4, st_s5, st_s6, st_s7, st_s8, st_s9, List.length_cons, List.length_nil, List.take_succ_cons, List.take_zero, List.drop_succ_cons, List.drop_zero, List.reverse_cons, List.reverse_nil, List.nil_append, List.cons_append, List.all_cons, List.all_nil, ms_nl, Bool.and_true, Nat.reduceLeDiff, Nat.reduceAdd, Nat.reduceLT, Nat.reduceEqDiff, if_true, if_false, true_and, and_true, ms_rt, List.cons.injEq, exists_eq_left, exists_eq_right, exists_and_left, exists_and_right, ms_one, ite_true, ite_false, reduceIte, imp_self, Nat.zero_add, Nat.add_zero, zero_le_any, Nat.le_refl, Int.zero_add, true_or, or_true, false_implies, Int.reduceLE, Int.reduceLT, Int.reduceNeg, Int.reduceAdd, Int.reduceSub, Int.reduceMul, Int.reduceEq, not_true, not_false_iff, and_self, implies_true, false_and, and_false, or_false, false_or, bX5_trace_0, lX5_trace_0, qX5_trace, sh_b]
  exact q
theorem m_type {d : Nat} {c : Int} {h : ms_H} {Q : ms_Q} (hR : RM h) (hs0 : 0 ≤ h 38 18 ∧ h 38 18 ≤ 140) (q1 : ¬ (0 ≤ c ∧ c ≤ 255) → Q (some (mI (-1))) SH h) (q2 : (0 ≤ c ∧ c ≤ 255) → h 38 18 = 140 → Q (some (mI (-3))) SH h) (q3 : (0 ≤ c ∧ c ≤ 255) → ¬ h 38 18 = 140 → Q (some (mI (h 38 18 + 1))) SH (hs (hs h 48 (h 38 18) c) 38 18 (h 38 18 + 1))) : ms_Ok ms_P (d + 2) 96 [mR 38, mI c] SH (h) Q := by
  refine ok_in (k := 30) MX5_type rfl rfl ?_
  show sq (ms_Ok ms_P (d + 1)) ms_X1 MX5_type Q 30 (M_bl MX5_type 0) [mR 38, mI c] [] (SH, 0, 0) (h)
  unfold RM at hR
  simp only [sq_c, jp_s, jp_c, rc_0, rc_s, ms_ex, o_iload, o_aload, o_istore, o_astore, o_iinc, o_bin, o_div, o_rem, o_neg, o_and, o_shl, o_shr, o_dup, o_pop, o_dup2, o_if, o_icmp, o_switch, o_sw, o_get, o_put, o_iald, o_iast, o_zald, o_zast, o_aald, o_aast, o_len, ob_s, ob_n, o_call, o_max, o_min, o_copy, o_obj, o_lpush, o_ladd, o_lcmp, o_iret, o_lret, o_vret, i1_c, l1_c, r1_c, st_g0, st_g1, st_g2, st_g3, st_g4, st_g5, st_g6, st_g7, st_g8, st_g9, st_s0, st_s1, st_s2, st_s3, st_s4, st_s5, st_s6, st_s7, st_s8, st_s9, List.length_cons, List.length_nil, List.take_succ_cons, List.take_zero, List.drop_succ_cons, List.drop_zero, List.reverse_cons, List.reverse_nil, List.nil_append, List.cons_append, List.all_cons, List.all_nil, ms_nl, Bool.and_true, Nat.reduceLeDiff, Nat.reduceAdd, Nat.reduceLT, Nat.reduceEqDiff, if_true, if_false, true_and, and_true, ms_rt, List.cons.injEq, exists_eq_left, exists_eq_right, exists_and_left, exists_and_right, ms_one, ite_true, ite_false, reduceIte, imp_self, Nat.zero_add, Nat.add_zero, zero_le_any, Nat.le_refl, Int.zero_add, true_or, or_true, false_implies, Int.reduceLE, Int.reduceLT, Int.reduceNeg, Int.reduceAdd, Int.reduceSub, Int.reduceMul, Int.reduceEq, not_true, not_false_iff, and_self, implies_true, false_and, and_false, or_false, false_or, bX5_type_0, bX5_type_1, bX5_type_2, lX5_type_0, lX5_type_1, lX5_type_2, qX5_type, sh_b, hR]
  refine m_in (fun r hr => ?_)
  simp only [sq_c, jp_s, jp_c, rc_0, rc_s, ms_ex, o_iload, o_aload, o_istore, o_astore, o_iinc, o_bin, o_div, o_rem, o_neg, o_and, o_shl, o_shr, o_dup, o_pop, o_dup2, o_if, o_icmp, o_switch, o_sw, o_get, o_put, o_iald, o_iast, o_zald, o_zast, o_aald, o_aast, o_len, ob_s, ob_n, o_call, o_max, o_min, o_copy, o_obj, o_lpush, o_ladd, o_lcmp, o_iret, o_lret, o_vret, i1_c, l1_c, r1_c, st_g0, st_g1, st_g2, st_g3, st_g4, st_g5, st_g6, st_g7, st_g8, st_g9, st_s0, st_s1, st_s2, st_s3, st_s4, st_s5, st_s6, st_s7, st_s8, st_s9, List.length_cons, List.length_nil, List.take_succ_cons, List.take_zero, List.drop_succ_cons, List.drop_zero, List.reverse_cons, List.reverse_nil, List.nil_append, List.cons_append, List.all_cons, List.all_nil, ms_nl, Bool.and_true, Nat.reduceLeDiff, Nat.reduceAdd, Nat.reduceLT, Nat.reduceEqDiff, if_true, if_false, true_and, and_true, ms_rt, List.cons.injEq, exists_eq_left, exists_eq_right, exists_and_left, exists_and_right, ms_one, ite_true, ite_false, reduceIte, imp_self, Nat.zero_add, Nat.add_zero, zero_le_any, Nat.le_refl, Int.zero_add, true_or, or_true, false_implies, Int.reduceLE, Int.reduceLT, Int.reduceNeg, Int.reduceAdd, Int.reduceSub, Int.reduceMul, Int.reduceEq, not_true, not_false_iff, and_self, implies_true, false_and, and_false, or_false, false_or, bX5_type_0, bX5_type_1, bX5_type_2, lX5_type_0, lX5_type_1, lX5_type_2, qX5_type, sh_b, hs_v, hR, ar_48]
  refine ⟨fun h1 => ⟨fun h2 => ⟨by omega, by omega, rg_of (by omega) (by omega), q3 (bt hr h1) h2⟩, fun h2 => q2 (bt hr h1) h2⟩, fun h1 => q1 (bf hr h1)⟩
theorem m_clear {d : Nat} {h : ms_H} {Q : ms_Q} (q : Q (some (mI (h 38 18))) SH (hs h 38 18 0)) : ms_Ok ms_P (d + 1) 97 [mR 38] SH (h) Q := by
  refine ok_in (k := 30) MX5_clear rfl rfl ?_
  show sq (ms_Ok ms_P (d)) ms_X1 MX5_clear Q 30 (M_bl MX5_clear 0) [mR 38, mL 0] [] (SH, 0, 0) (h)
  simp only [sq_c, jp_s, jp_c, rc_0, rc_s, ms_ex, o_iload, o_aload, o_istore, o_astore, o_iinc, o_bin, o_div, o_rem, o_neg, o_and, o_shl, o_shr, o_dup, o_pop, o_dup2, o_if, o_icmp, o_switch, o_sw, o_get, o_put, o_iald, o_iast, o_zald, o_zast, o_aald, o_aast, o_len, ob_s, ob_n, o_call, o_max, o_min, o_copy, o_obj, o_lpush, o_ladd, o_lcmp, o_iret, o_lret, o_vret, i1_c, l1_c, r1_c, st_g0, st_g1, st_g2, st_g3, st_g4, st_g5, st_g6, st_g7, st_g8, st_g9, st_s0, st_s1, st_s2, st_s3, st_s4, st_s5, st_s6, st_s7, st_s8, st_s9, List.length_cons, List.length_nil, List.take_succ_cons, List.take_zero, List.drop_succ_cons, List.drop_zero, List.reverse_cons, List.reverse_nil, List.nil_append, List.cons_append, List.all_cons, List.all_nil, ms_nl, Bool.and_true, Nat.reduceLeDiff, Nat.reduceAdd, Nat.reduceLT, Nat.reduceEqDiff, if_true, if_false, true_and, and_true, ms_rt, List.cons.injEq, exists_eq_left, exists_eq_right, exists_and_left, exists_and_right, ms_one, ite_true, ite_false, reduceIte, imp_self, Nat.zero_add, Nat.add_zero, zero_le_any, Nat.le_refl, Int.zero_add, true_or, or_true, false_implies, Int.reduceLE, Int.reduceLT, Int.reduceNeg, Int.reduceAdd, Int.reduceSub, Int.reduceMul, Int.reduceEq, not_true, not_false_iff, and_self, implies_true, false_and, and_false, or_false, false_or, bX5_clear_0, lX5_clear_0, qX5_clear, sh_b]
  exact q
end
section
/-! The model: what was said; marks. -/
def hrH (h : ms_H) (w c f s : Int) : ms_H := hs (hs (hs (hs (hs h 47 (4 * h 38 14) w) 47 (4 * h 38 14 + 1) c) 47 (4 * h 38 14 + 2) f) 47 (4 * h 38 14 + 3) s) 38 14 (h 38 14 + 1)
set_option maxRecDepth 50000 in
theorem m_hears {d : Nat} {w c f s : Int} {h : ms_H} {Q : ms_Q} (hv : MV h) (hn : 0 ≤ h 38 14 ∧ h 38 14 ≤ 6) (q1 : ¬ ((0 ≤ w ∧ w ≤ 1) ∧ (0 ≤ c ∧ c < h 38 0) ∧ (0 ≤ f ∧ f ≤ 7) ∧ 0 ≤ s ∧ s ≤ 1) → Q (some (mI (-1))) SH h) (q2 : ((0 ≤ w ∧ w ≤ 1) ∧ (0 ≤ c ∧ c < h 38 0) ∧ (0 ≤ f ∧ f ≤ 7) ∧ 0 ≤ s ∧ s ≤ 1) → h 38 14 = 6 → Q (some (mI (-3))) SH h) (q3 : ((0 ≤ w ∧ w ≤ 1) ∧ (0 ≤ c ∧ c < h 38 0) ∧ (0 ≤ f ∧ f ≤ 7) ∧ 0 ≤ s ∧ s ≤ 1) → ¬ h 38 14 = 6 → Q (some (mI (h 38 14 + 1))) SH (hrH h w c f s)) : ms_Ok ms_P (d + 3) 149 [mR 38, mI w, mI c, mI f, mI s] SH (h) Q := by
  refine ok_in (k := 30) MX5_hears rfl rfl ?_
  show sq (ms_Ok ms_P (d + 2)) ms_X1 MX5_hears Q 30 (M_bl MX5_hears 0) [mR 38, mI w, mI c, mI f, mI s, mL 0] [] (SH, 0, 0) (h)
  have hR := hv.1
  unfold RM at hR
  simp only [sq_c, jp_s, jp_c, rc_0, rc_s, ms_ex, o_iload, o_aload, o_istore, o_astore, o_iinc, o_bin, o_div, o_rem, o_neg, o_and, o_shl, o_shr, o_dup, o_pop, o_dup2, o_if, o_icmp, o_switch, o_sw, o_get, o_put, o_iald, o_iast, o_zald, o_zast, o_aald, o_aast, o_len, ob_s, ob_n, o_call, o_max, o_min, o_copy, o_obj, o_lpush, o_ladd, o_lcmp, o_iret, o_lret, o_vret, i1_c, l1_c, r1_c, st_g0, st_g1, st_g2, st_g3, st_g4, st_g5, st_g6, st_g7, st_g8, st_g9, st_s0, st_s1, st_s2, st_s3, st_s4, st_s5, st_s6, st_s7, st_s8, st_s9, List.length_cons, List.length_nil, List.take_succ_cons, List.take_zero, List.drop_succ_cons, List.drop_zero, List.reverse_cons, List.reverse_nil, List.nil_append, List.cons_append, List.all_cons, List.all_nil, ms_nl, Bool.and_true, Nat.reduceLeDiff, Nat.reduceAdd, Nat.reduceLT, Nat.reduceEqDiff, if_true, if_false, true_and, and_true, ms_rt, List.cons.injEq, exists_eq_left, exists_eq_right, exists_and_left, exists_and_right, ms_one, ite_true, ite_false, reduceIte, imp_self, Nat.zero_add, Nat.add_zero, zero_le_any, Nat.le_refl, Int.zero_add, true_or, or_true, false_implies, Int.reduceLE, Int.reduceLT, Int.reduceNeg, Int.reduceAdd, Int.reduceSub, Int.reduceMul, Int.reduceEq, not_true, not_false_iff, and_self, implies_true, false_and, and_false, or_false, false_or, bX5_hears_0, bX5_hears_1, bX5_hears_2, bX5_hears_3, lX5_hears_0, lX5_hears_1, lX5_hears_2, lX5_hears_3, qX5_hears, sh_b, hR]
  refine m_in (fun r1 hr1 => ?_)
  simp only [sq_c, jp_s, jp_c, rc_0, rc_s, ms_ex, o_iload, o_aload, o_istore, o_astore, o_iinc, o_bin, o_div, o_rem, o_neg, o_and, o_shl, o_shr, o_dup, o_pop, o_dup2, o_if, o_icmp, o_switch, o_sw, o_get, o_put, o_iald, o_iast, o_zald, o_zast, o_aald, o_aast, o_len, ob_s, ob_n, o_call, o_max, o_min, o_copy, o_obj, o_lpush, o_ladd, o_lcmp, o_iret, o_lret, o_vret, i1_c, l1_c, r1_c, st_g0, st_g1, st_g2, st_g3, st_g4, st_g5, st_g6, st_g7, st_g8, st_g9, st_s0, st_s1, st_s2, st_s3, st_s4, st_s5, st_s6, st_s7, st_s8, st_s9, List.length_cons, List.length_nil, List.take_succ_cons, List.take_zero, List.drop_succ_cons, List.drop_zero, List.reverse_cons, List.reverse_nil, List.nil_append, List.cons_append, List.all_cons, List.all_nil, ms_nl, Bool.and_true, Nat.reduceLeDiff, Nat.reduceAdd, Nat.reduceLT, Nat.reduceEqDiff, if_true, if_false, true_and, and_true, ms_rt, List.cons.injEq, exists_eq_left, exists_eq_right, exists_and_left, exists_and_right, ms_one, ite_true, ite_false, reduceIte, imp_self, Nat.zero_add, Nat.add_zero, zero_le_any, Nat.le_refl, Int.zero_add, true_or, or_true, false_implies, Int.reduceLE, Int.reduceLT, Int.reduceNeg, Int.reduceAdd, Int.reduceSub, Int.reduceMul, Int.reduceEq, not_true, not_false_iff, and_self, implies_true, false_and, and_false, or_false, false_or, bX5_hears_0, bX5_hears_1, bX5_hears_2, bX5_hears_3, lX5_hears_0, lX5_hears_1, lX5_hears_2, lX5_hears_3, qX5_hears, sh_b, hR]
  refine ⟨fun h1 => q1 (fun z => bf hr1 h1 z.1), fun h1 => ?_⟩
  refine m_isColumn hv (fun r2 hr2 => ?_)
  simp only [sq_c, jp_s, jp_c, rc_0, rc_s, ms_ex, o_iload, o_aload, o_istore, o_astore, o_iinc, o_bin, o_div, o_rem, o_neg, o_and, o_shl, o_shr, o_dup, o_pop, o_dup2, o_if, o_icmp, o_switch, o_sw, o_get, o_put, o_iald, o_iast, o_zald, o_zast, o_aald, o_aast, o_len, ob_s, ob_n, o_call, o_max, o_min, o_copy, o_obj, o_lpush, o_ladd, o_lcmp, o_iret, o_lret, o_vret, i1_c, l1_c, r1_c, st_g0, st_g1, st_g2, st_g3, st_g4, st_g5, st_g6, st_g7, st_g8, st_g9, st_s0, st_s1, st_s2, st_s3, st_s4, st_s5, st_s6, st_s7, st_s8, st_s9, List.length_cons, List.length_nil, List.take_succ_cons, List.take_zero, List.drop_succ_cons, List.drop_zero, List.reverse_cons, List.reverse_nil, List.nil_append, List.cons_append, List.all_cons, List.all_nil, ms_nl, Bool.and_true, Nat.reduceLeDiff, Nat.reduceAdd, Nat.reduceLT, Nat.reduceEqDiff, if_true, if_false, true_and, and_true, ms_rt, List.cons.injEq, exists_eq_left, exists_eq_right, exists_and_left, exists_and_right, ms_one, ite_true, ite_false, reduceIte, imp_self, Nat.zero_add, Nat.add_zero, zero_le_any, Nat.le_refl, Int.zero_add, true_or, or_true, false_implies, Int.reduceLE, Int.reduceLT, Int.reduceNeg, Int.reduceAdd, Int.reduceSub, Int.reduceMul, Int.reduceEq, not_true, not_false_iff, and_self, implies_true, false_and, and_false, or_false, false_or, bX5_hears_0, bX5_hears_1, bX5_hears_2, bX5_hears_3, lX5_hears_0, lX5_hears_1, lX5_hears_2, lX5_hears_3, qX5_hears, sh_b, hR]
  refine ⟨fun h2 => q1 (fun z => bf hr2 h2 z.2.1), fun h2 => ?_⟩
  refine m_isField (fun r3 hr3 => ?_)
  simp only [sq_c, jp_s, jp_c, rc_0, rc_s, ms_ex, o_iload, o_aload, o_istore, o_astore, o_iinc, o_bin, o_div, o_rem, o_neg, o_and, o_shl, o_shr, o_dup, o_pop, o_dup2, o_if, o_icmp, o_switch, o_sw, o_get, o_put, o_iald, o_iast, o_zald, o_zast, o_aald, o_aast, o_len, ob_s, ob_n, o_call, o_max, o_min, o_copy, o_obj, o_lpush, o_ladd, o_lcmp, o_iret, o_lret, o_vret, i1_c, l1_c, r1_c, st_g0, st_g1, st_g2, st_g3, st_g4, st_g5, st_g6, st_g7, st_g8, st_g9, st_s0, st_s1, st_s2, st_s3, st_s4, st_s5, st_s6, st_s7, st_s8, st_s9, List.length_cons, List.length_nil, List.take_succ_cons, List.take_zero, List.drop_succ_cons, List.drop_zero, List.reverse_cons, List.reverse_nil, List.nil_append, List.cons_append, List.all_cons, List.all_nil, ms_nl, Bool.and_true, Nat.reduceLeDiff, Nat.reduceAdd, Nat.reduceLT, Nat.reduceEqDiff, if_true, if_false, true_and, and_true, ms_rt, List.cons.injEq, exists_eq_left, exists_eq_right, exists_and_left, exists_and_right, ms_one, ite_true, ite_false, reduceIte, imp_self, Nat.zero_add, Nat.add_zero, zero_le_any, Nat.le_refl, Int.zero_add, true_or, or_true, false_implies, Int.reduceLE, Int.reduceLT, Int.reduceNeg, Int.reduceAdd, Int.reduceSub, Int.reduceMul, Int.reduceEq, not_true, not_false_iff, and_self, implies_true, false_and, and_false, or_false, false_or, bX5_hears_0, bX5_hears_1, bX5_hears_2, bX5_hears_3, lX5_hears_0, lX5_hears_1, lX5_hears_2, lX5_hears_3, qX5_hears, sh_b, hR]
  refine ⟨fun h3 => q1 (fun z => bf hr3 h3 z.2.2.1), fun h3 => ?_⟩
  refine m_in (fun r4 hr4 => ?_)
  simp only [sq_c, jp_s, jp_c, rc_0, rc_s, ms_ex, o_iload, o_aload, o_istore, o_astore, o_iinc, o_bin, o_div, o_rem, o_neg, o_and, o_shl, o_shr, o_dup, o_pop, o_dup2, o_if, o_icmp, o_switch, o_sw, o_get, o_put, o_iald, o_iast, o_zald, o_zast, o_aald, o_aast, o_len, ob_s, ob_n, o_call, o_max, o_min, o_copy, o_obj, o_lpush, o_ladd, o_lcmp, o_iret, o_lret, o_vret, i1_c, l1_c, r1_c, st_g0, st_g1, st_g2, st_g3, st_g4, st_g5, st_g6, st_g7, st_g8, st_g9, st_s0, st_s1, st_s2, st_s3, st_s4, st_s5, st_s6, st_s7, st_s8, st_s9, List.length_cons, List.length_nil, List.take_succ_cons, List.take_zero, List.drop_succ_cons, List.drop_zero, List.reverse_cons, List.reverse_nil, List.nil_append, List.cons_append, List.all_cons, List.all_nil, ms_nl, Bool.and_true, Nat.reduceLeDiff, Nat.reduceAdd, Nat.reduceLT, Nat.reduceEqDiff, if_true, if_false, true_and, and_true, ms_rt, List.cons.injEq, exists_eq_left, exists_eq_right, exists_and_left, exists_and_right, ms_one, ite_true, ite_false, reduceIte, imp_self, Nat.zero_add, Nat.add_zero, zero_le_any, Nat.le_refl, Int.zero_add, true_or, or_true, false_implies, Int.reduceLE, Int.reduceLT, Int.reduceNeg, Int.reduceAdd, Int.reduceSub, Int.reduceMul, Int.reduceEq, not_true, not_false_iff, and_self, implies_true, false_and, and_false, or_false, false_or, bX5_hears_0, bX5_hears_1, bX5_hears_2, bX5_hears_3, lX5_hears_0, lX5_hears_1, lX5_hears_2, lX5_hears_3, qX5_hears, sh_b, hR, ar_47, hs_v]
  refine ⟨fun h4 => ?_, fun h4 => q1 (fun z => bf hr4 h4 z.2.2.2)⟩
  have hp := And.intro (bt hr1 h1) (And.intro (bt hr2 h2) (And.intro (bt hr3 h3) (bt hr4 h4)))
  refine ⟨fun h5 => ?_, fun h5 => q2 hp h5⟩
  exact ⟨rg_of (by omega) (by omega), by omega, by omega, rg_of (by omega) (by omega), by omega, by omega, rg_of (by omega) (by omega), by omega, by omega, rg_of (by omega) (by omega), by omega, by omega, rg_of (by omega) (by omega), q3 hp h5⟩
theorem m_forget {d : Nat} {h : ms_H} {Q : ms_Q} (q : Q (some (mI (h 38 14))) SH (hs h 38 14 0)) : ms_Ok ms_P (d + 1) 150 [mR 38] SH (h) Q := by
  refine ok_in (k := 30) MX5_forget rfl rfl ?_
  show sq (ms_Ok ms_P (d)) ms_X1 MX5_forget Q 30 (M_bl MX5_forget 0) [mR 38, mL 0] [] (SH, 0, 0) (h)
  simp only [sq_c, jp_s, jp_c, rc_0, rc_s, ms_ex, o_iload, o_aload, o_istore, o_astore, o_iinc, o_bin, o_div, o_rem, o_neg, o_and, o_shl, o_shr, o_dup, o_pop, o_dup2, o_if, o_icmp, o_switch, o_sw, o_get, o_put, o_iald, o_iast, o_zald, o_zast, o_aald, o_aast, o_len, ob_s, ob_n, o_call, o_max, o_min, o_copy, o_obj, o_lpush, o_ladd, o_lcmp, o_iret, o_lret, o_vret, i1_c, l1_c, r1_c, st_g0, st_g1, st_g2, st_g3, st_g4, st_g5, st_g6, st_g7, st_g8, st_g9, st_s0, st_s1, st_s2, st_s3, st_s4, st_s5, st_s6, st_s7, st_s8, st_s9, List.length_cons, List.length_nil, List.take_succ_cons, List.take_zero, List.drop_succ_cons, List.drop_zero, List.reverse_cons, List.reverse_nil, List.nil_append, List.cons_append, List.all_cons, List.all_nil, ms_nl, Bool.and_true, Nat.reduceLeDiff, Nat.reduceAdd, Nat.reduceLT, Nat.reduceEqDiff, if_true, if_false, true_and, and_true, ms_rt, List.cons.injEq, exists_eq_left, exists_eq_right, exists_and_left, exists_and_right, ms_one, ite_true, ite_false, reduceIte, imp_self, Nat.zero_add, Nat.add_zero, zero_le_any, Nat.le_refl, Int.zero_add, true_or, or_true, false_implies, Int.reduceLE, Int.reduceLT, Int.reduceNeg, Int.reduceAdd, Int.reduceSub, Int.reduceMul, Int.reduceEq, not_true, not_false_iff, and_self, implies_true, false_and, and_false, or_false, false_or, bX5_forget_0, lX5_forget_0, qX5_forget, sh_b]
  exact q
theorem m_says {d : Nat} {t w c f : Int} {h : ms_H} {Q : ms_Q} (hv : MV h) (ht : 0 ≤ t ∧ t ≤ 39) (hw : 0 ≤ w ∧ w ≤ 1) (hc : 0 ≤ c ∧ c < h 38 0) (hf : 0 ≤ f ∧ f ≤ 7) (q : ∀ r, r = (if t - h 40 c - f ≤ h 39 w then 1 else 0) → Q (some (mI r)) SH h) : ms_Ok ms_P (d + 2) 151 [mR 38, mI t, mI w, mI c, mI f] SH (h) Q := by
  refine ok_in (k := 30) MX5_says rfl rfl ?_
  show sq (ms_Ok ms_P (d + 1)) ms_X1 MX5_says Q 30 (M_bl MX5_says 0) [mR 38, mI t, mI w, mI c, mI f] [] (SH, 0, 0) (h)
  have hR := hv.1
  unfold RM at hR
  simp only [sq_c, jp_s, jp_c, rc_0, rc_s, ms_ex, o_iload, o_aload, o_istore, o_astore, o_iinc, o_bin, o_div, o_rem, o_neg, o_and, o_shl, o_shr, o_dup, o_pop, o_dup2, o_if, o_icmp, o_switch, o_sw, o_get, o_put, o_iald, o_iast, o_zald, o_zast, o_aald, o_aast, o_len, ob_s, ob_n, o_call, o_max, o_min, o_copy, o_obj, o_lpush, o_ladd, o_lcmp, o_iret, o_lret, o_vret, i1_c, l1_c, r1_c, st_g0, st_g1, st_g2, st_g3, st_g4, st_g5, st_g6, st_g7, st_g8, st_g9, st_s0, st_s1, st_s2, st_s3, st_s4, st_s5, st_s6, st_s7, st_s8, st_s9, List.length_cons, List.length_nil, List.take_succ_cons, List.take_zero, List.drop_succ_cons, List.drop_zero, List.reverse_cons, List.reverse_nil, List.nil_append, List.cons_append, List.all_cons, List.all_nil, ms_nl, Bool.and_true, Nat.reduceLeDiff, Nat.reduceAdd, Nat.reduceLT, Nat.reduceEqDiff, if_true, if_false, true_and, and_true, ms_rt, List.cons.injEq, exists_eq_left, exists_eq_right, exists_and_left, exists_and_right, ms_one, ite_true, ite_false, reduceIte, imp_self, Nat.zero_add, Nat.add_zero, zero_le_any, Nat.le_refl, Int.zero_add, true_or, or_true, false_implies, Int.reduceLE, Int.reduceLT, Int.reduceNeg, Int.reduceAdd, Int.reduceSub, Int.reduceMul, Int.reduceEq, not_true, not_false_iff, and_self, implies_true, false_and, and_false, or_false, false_or, bX5_says_0, bX5_says_1, bX5_says_2, lX5_says_0, lX5_says_1, lX5_says_2, qX5_says, sh_b, hR]
  refine m_mildBy hv (by omega) hc (by omega) ?_
  simp only [sq_c, jp_s, jp_c, rc_0, rc_s, ms_ex, o_iload, o_aload, o_istore, o_astore, o_iinc, o_bin, o_div, o_rem, o_neg, o_and, o_shl, o_shr, o_dup, o_pop, o_dup2, o_if, o_icmp, o_switch, o_sw, o_get, o_put, o_iald, o_iast, o_zald, o_zast, o_aald, o_aast, o_len, ob_s, ob_n, o_call, o_max, o_min, o_copy, o_obj, o_lpush, o_ladd, o_lcmp, o_iret, o_lret, o_vret, i1_c, l1_c, r1_c, st_g0, st_g1, st_g2, st_g3, st_g4, st_g5, st_g6, st_g7, st_g8, st_g9, st_s0, st_s1, st_s2, st_s3, st_s4, st_s5, st_s6, st_s7, st_s8, st_s9, List.length_cons, List.length_nil, List.take_succ_cons, List.take_zero, List.drop_succ_cons, List.drop_zero, List.reverse_cons, List.reverse_nil, List.nil_append, List.cons_append, List.all_cons, List.all_nil, ms_nl, Bool.and_true, Nat.reduceLeDiff, Nat.reduceAdd, Nat.reduceLT, Nat.reduceEqDiff, if_true, if_false, true_and, and_true, ms_rt, List.cons.injEq, exists_eq_left, exists_eq_right, exists_and_left, exists_and_right, ms_one, ite_true, ite_false, reduceIte, imp_self, Nat.zero_add, Nat.add_zero, zero_le_any, Nat.le_refl, Int.zero_add, true_or, or_true, false_implies, Int.reduceLE, Int.reduceLT, Int.reduceNeg, Int.reduceAdd, Int.reduceSub, Int.reduceMul, Int.reduceEq, not_true, not_false_iff, and_self, implies_true, false_and, and_false, or_false, false_or, bX5_says_0, bX5_says_1, bX5_says_2, lX5_says_0, lX5_says_1, lX5_says_2, qX5_says, sh_b, hR, ar_39]
  refine ⟨by omega, by omega, fun h1 => q _ ?_, fun h1 => q _ ?_⟩
  · rw [if_neg (by omega)]
  · rw [if_pos (by omega)]
/-- all that was heard is so at this warmth: the first n of it -/
def sy (h : ms_H) (t : Int) (k : Int) : Prop := (t - h 40 (h 47 (4 * k + 1)) - h 47 (4 * k + 2) ≤ h 39 (h 47 (4 * k))) ↔ h 47 (4 * k + 3) = 1
def so (h : ms_H) (t : Int) : Nat → Prop
  | 0 => True
  | n + 1 => so h t n ∧ sy h t n
def HV (h : ms_H) : Prop := (0 ≤ h 38 14 ∧ h 38 14 ≤ 6) ∧ ∀ k, 0 ≤ k → k < h 38 14 → (0 ≤ h 47 (4 * k) ∧ h 47 (4 * k) ≤ 1) ∧ (0 ≤ h 47 (4 * k + 1) ∧ h 47 (4 * k + 1) < h 38 0) ∧ (0 ≤ h 47 (4 * k + 2) ∧ h 47 (4 * k + 2) ≤ 7) ∧ (0 ≤ h 47 (4 * k + 3) ∧ h 47 (4 * k + 3) ≤ 1)
theorem m_isSo_lp {d : Nat} {t : Int} {h : ms_H} {Q : ms_Q} (hv : MV h) (hh : HV h) (ht : 0 ≤ t ∧ t ≤ 39) (q : ∀ r, (r = 0 ∨ r = 1) → (r = 1 ↔ so h t (h 38 14).toNat) → Q (some (mI r)) SH h) : ∀ (j k : Nat) (r : Int) (u : ms_V), k + j = (h 38 14).toNat → (r = 0 ∨ r = 1) → (r = 1 ↔ so h t k) → ms_at (ms_Ok ms_P (d + 2)) ms_X1 MX5_isSo Q 100 [mR 38, mI t, mI r, mI k, u] [] (SH, 0, 0) (h) := by
  have hR := hv.1
  unfold RM at hR
  have hn := hh.1
  intro j
  induction j with
  | zero =>
    intro k r u hk hr hs
    refine sq_at (ms_Ok_m ms_P _) 30 100 ?_
    simp only [sq_c, jp_s, jp_c, rc_0, rc_s, ms_ex, o_iload, o_aload, o_istore, o_astore, o_iinc, o_bin, o_div, o_rem, o_neg, o_and, o_shl, o_shr, o_dup, o_pop, o_dup2, o_if, o_icmp, o_switch, o_sw, o_get, o_put, o_iald, o_iast, o_zald, o_zast, o_aald, o_aast, o_len, ob_s, ob_n, o_call, o_max, o_min, o_copy, o_obj, o_lpush, o_ladd, o_lcmp, o_iret, o_lret, o_vret, i1_c, l1_c, r1_c, st_g0, st_g1, st_g2, st_g3, st_g4, st_g5, st_g6, st_g7, st_g8, st_g9, st_s0, st_s1, st_s2, st_s3, st_s4, st_s5, st_s6, st_s7, st_s8, st_s9, List.length_cons, List.length_nil, List.take_succ_cons, List.take_zero, List.drop_succ_cons, List.drop_zero, List.reverse_cons, List.reverse_nil, List.nil_append, List.cons_append, List.all_cons, List.all_nil, ms_nl, Bool.and_true, Nat.reduceLeDiff, Nat.reduceAdd, Nat.reduceLT, Nat.reduceEqDiff, if_true, if_false, true_and, and_true, ms_rt, List.cons.injEq, exists_eq_left, exists_eq_right, exists_and_left, exists_and_right, ms_one, ite_true, ite_false, reduceIte, imp_self, Nat.zero_add, Nat.add_zero, zero_le_any, Nat.le_refl, Int.zero_add, true_or, or_true, false_implies, Int.reduceLE, Int.reduceLT, Int.reduceNeg, Int.reduceAdd, Int.reduceSub, Int.reduceMul, Int.reduceEq, not_true, not_false_iff, and_self, implies_true, false_and, and_false, or_false, false_or, bX5_isSo_0, bX5_isSo_1, bX5_isSo_2, bX5_isSo_3, bX5_isSo_4, bX5_isSo_5, bX5_isSo_100, lX5_isSo_0, lX5_isSo_1, lX5_isSo_2, lX5_isSo_3, lX5_isSo_4, lX5_isSo_5, lX5_isSo_100, qX5_isSo, sh_b, hR, ar_47]
    refine ⟨fun _ => ⟨hr, q r hr ?_⟩, fun h1 => by omega⟩
    rw [show (h 38 14).toNat = k by omega]
    exact hs
  | succ j ih =>
    intro k r u hk hr hs
    obtain ⟨k1, k2, k3, k4⟩ := hh.2 k (by omega) (by omega)
    refine sq_at (ms_Ok_m ms_P _) 30 100 ?_
    simp only [sq_c, jp_s, jp_c, rc_0, rc_s, ms_ex, o_iload, o_aload, o_istore, o_astore, o_iinc, o_bin, o_div, o_rem, o_neg, o_and, o_shl, o_shr, o_dup, o_pop, o_dup2, o_if, o_icmp, o_switch, o_sw, o_get, o_put, o_iald, o_iast, o_zald, o_zast, o_aald, o_aast, o_len, ob_s, ob_n, o_call, o_max, o_min, o_copy, o_obj, o_lpush, o_ladd, o_lcmp, o_iret, o_lret, o_vret, i1_c, l1_c, r1_c, st_g0, st_g1, st_g2, st_g3, st_g4, st_g5, st_g6, st_g7, st_g8, st_g9, st_s0, st_s1, st_s2, st_s3, st_s4, st_s5, st_s6, st_s7, st_s8, st_s9, List.length_cons, List.length_nil, List.take_succ_cons, List.take_zero, List.drop_succ_cons, List.drop_zero, List.reverse_cons, List.reverse_nil, List.nil_append, List.cons_append, List.all_cons, List.all_nil, ms_nl, Bool.and_true, Nat.reduceLeDiff, Nat.reduceAdd, Nat.reduceLT, Nat.reduceEqDiff, if_true, if_false, true_and, and_true, ms_rt, List.cons.injEq, exists_eq_left, exists_eq_right, exists_and_left, exists_and_right, ms_one, ite_true, ite_false, reduceIte, imp_self, Nat.zero_add, Nat.add_zero, zero_le_any, Nat.le_refl, Int.zero_add, true_or, or_true, false_implies, Int.reduceLE, Int.reduceLT, Int.reduceNeg, Int.reduceAdd, Int.reduceSub, Int.reduceMul, Int.reduceEq, not_true, not_false_iff, and_self, implies_true, false_and, and_false, or_false, false_or, bX5_isSo_0, bX5_isSo_1, bX5_isSo_2, bX5_isSo_3, bX5_isSo_4, bX5_isSo_5, bX5_isSo_100, lX5_isSo_0, lX5_isSo_1, lX5_isSo_2, lX5_isSo_3, lX5_isSo_4, lX5_isSo_5, lX5_isSo_100, qX5_isSo, sh_b, hR, ar_47]
    refine ⟨fun h1 => by omega, fun h1 => ⟨rg_of (by omega) (by omega), fun h2 => ?_, fun h2 => ?_⟩⟩
    · refine ⟨rg_of (by omega) (by omega), ih (k + 1) 0 _ (by omega) (Or.inl rfl) ⟨fun z => by omega, fun z => ?_⟩⟩
      have := hs.mpr z.1
      omega
    · have hsk : so h t k := hs.mp (by omega)
      refine ⟨by omega, by omega, rg_of (by omega) (by omega), by omega, by omega, rg_of (by omega) (by omega), by omega, by omega, ?_⟩
      refine m_says hv ht k1 k2 k3 (fun r2 hr2 => ?_)
      have hr01 := b01 hr2
      simp only [sq_c, jp_s, jp_c, rc_0, rc_s, ms_ex, o_iload, o_aload, o_istore, o_astore, o_iinc, o_bin, o_div, o_rem, o_neg, o_and, o_shl, o_shr, o_dup, o_pop, o_dup2, o_if, o_icmp, o_switch, o_sw, o_get, o_put, o_iald, o_iast, o_zald, o_zast, o_aald, o_aast, o_len, ob_s, ob_n, o_call, o_max, o_min, o_copy, o_obj, o_lpush, o_ladd, o_lcmp, o_iret, o_lret, o_vret, i1_c, l1_c, r1_c, st_g0, st_g1, st_g2, st_g3, st_g4, st_g5, st_g6, st_g7, st_g8, st_g9, st_s0, st_s1, st_s2, st_s3, st_s4, st_s5, st_s6, st_s7, st_s8, st_s9, List.length_cons, List.length_nil, List.take_succ_cons, List.take_zero, List.drop_succ_cons, List.drop_zero, List.reverse_cons, List.reverse_nil, List.nil_append, List.cons_append, List.all_cons, List.all_nil, ms_nl, Bool.and_true, Nat.reduceLeDiff, Nat.reduceAdd, Nat.reduceLT, Nat.reduceEqDiff, if_true, if_false, true_and, and_true, ms_rt, List.cons.injEq, exists_eq_left, exists_eq_right, exists_and_left, exists_and_right, ms_one, ite_true, ite_false, reduceIte, imp_self, Nat.zero_add, Nat.add_zero, zero_le_any, Nat.le_refl, Int.zero_add, true_or, or_true, false_implies, Int.reduceLE, Int.reduceLT, Int.reduceNeg, Int.reduceAdd, Int.reduceSub, Int.reduceMul, Int.reduceEq, not_true, not_false_iff, and_self, implies_true, false_and, and_false, or_false, false_or, bX5_isSo_0, bX5_isSo_1, bX5_isSo_2, bX5_isSo_3, bX5_isSo_4, bX5_isSo_5, bX5_isSo_100, lX5_isSo_0, lX5_isSo_1, lX5_isSo_2, lX5_isSo_3, lX5_isSo_4, lX5_isSo_5, lX5_isSo_100, qX5_isSo, sh_b, hR, ar_47]
      refine ⟨rg_of (by omega) (by omega), by omega, by omega, fun h3 => ⟨fun h4 => ?_, fun h4 => ?_⟩, fun h3 => ⟨fun h4 => ?_, fun h4 => ?_⟩⟩
      · refine ⟨rg_of (by omega) (by omega), ih (k + 1) 0 _ (by omega) (Or.inl rfl) ⟨fun z => by omega, fun z => ?_⟩⟩
        have h5 := bt hr2 h4
        exact absurd (z.2.mp h5) h3
      · refine ⟨rg_of (by omega) (by omega), ih (k + 1) 1 _ (by omega) (Or.inr rfl) ⟨fun _ => ⟨hsk, ?_⟩, fun z => rfl⟩⟩
        have h5 := bf hr2 h4
        exact ⟨fun z => absurd z h5, fun z => absurd z h3⟩
      · refine ⟨rg_of (by omega) (by omega), ih (k + 1) 0 _ (by omega) (Or.inl rfl) ⟨fun z => by omega, fun z => ?_⟩⟩
        have h5 := bf hr2 (by omega)
        exact absurd (z.2.mpr h3) h5
      · refine ⟨rg_of (by omega) (by omega), ih (k + 1) 1 _ (by omega) (Or.inr rfl) ⟨fun _ => ⟨hsk, ?_⟩, fun z => rfl⟩⟩
        have h5 := bt hr2 (by omega)
        exact ⟨fun _ => h3, fun _ => h5⟩
theorem m_isSo {d : Nat} {t : Int} {h : ms_H} {Q : ms_Q} (hv : MV h) (hh : HV h) (ht : 0 ≤ t ∧ t ≤ 39) (q : ∀ r, (r = 0 ∨ r = 1) → (r = 1 ↔ so h t (h 38 14).toNat) → Q (some (mI r)) SH h) : ms_Ok ms_P (d + 3) 152 [mR 38, mI t] SH (h) Q := by
  refine ok_in (k := 30) MX5_isSo rfl rfl ?_
  show sq (ms_Ok ms_P (d + 2)) ms_X1 MX5_isSo Q 30 (M_bl MX5_isSo 0) [mR 38, mI t, mL 0, mL 0, mL 0] [] (SH, 0, 0) (h)
  simp only [sq_c, jp_s, jp_c, rc_0, rc_s, ms_ex, o_iload, o_aload, o_istore, o_astore, o_iinc, o_bin, o_div, o_rem, o_neg, o_and, o_shl, o_shr, o_dup, o_pop, o_dup2, o_if, o_icmp, o_switch, o_sw, o_get, o_put, o_iald, o_iast, o_zald, o_zast, o_aald, o_aast, o_len, ob_s, ob_n, o_call, o_max, o_min, o_copy, o_obj, o_lpush, o_ladd, o_lcmp, o_iret, o_lret, o_vret, i1_c, l1_c, r1_c, st_g0, st_g1, st_g2, st_g3, st_g4, st_g5, st_g6, st_g7, st_g8, st_g9, st_s0, st_s1, st_s2, st_s3, st_s4, st_s5, st_s6, st_s7, st_s8, st_s9, List.length_cons, List.length_nil, List.take_succ_cons, List.take_zero, List.drop_succ_cons, List.drop_zero, List.reverse_cons, List.reverse_nil, List.nil_append, List.cons_append, List.all_cons, List.all_nil, ms_nl, Bool.and_true, Nat.reduceLeDiff, Nat.reduceAdd, Nat.reduceLT, Nat.reduceEqDiff, if_true, if_false, true_and, and_true, ms_rt, List.cons.injEq, exists_eq_left, exists_eq_right, exists_and_left, exists_and_right, ms_one, ite_true, ite_false, reduceIte, imp_self, Nat.zero_add, Nat.add_zero, zero_le_any, Nat.le_refl, Int.zero_add, true_or, or_true, false_implies, Int.reduceLE, Int.reduceLT, Int.reduceNeg, Int.reduceAdd, Int.reduceSub, Int.reduceMul, Int.reduceEq, not_true, not_false_iff, and_self, implies_true, false_and, and_false, or_false, false_or, bX5_isSo_0, bX5_isSo_1, bX5_isSo_2, bX5_isSo_3, bX5_isSo_4, bX5_isSo_5, bX5_isSo_100, lX5_isSo_0, lX5_isSo_1, lX5_isSo_2, lX5_isSo_3, lX5_isSo_4, lX5_isSo_5, lX5_isSo_100, qX5_isSo, sh_b]
  exact m_isSo_lp hv hh ht q (h 38 14).toNat 0 1 _ (by omega) (Or.inr rfl) ⟨fun _ => trivial, fun _ => rfl⟩
/-- the same as a number -/
def syI (h : ms_H) (t : Int) (k : Int) : Int := if t - h 40 (h 47 (4 * k + 1)) - h 47 (4 * k + 2) ≤ h 39 (h 47 (4 * k)) then (if h 47 (4 * k + 3) = 1 then 1 else 0) else (if h 47 (4 * k + 3) = 1 then 0 else 1)
def soI (h : ms_H) (t : Int) : Nat → Int
  | 0 => 1
  | n + 1 => if soI h t n = 1 then syI h t n else 0
theorem soI_ok (h : ms_H) (t : Int) : ∀ n, (soI h t n = 0 ∨ soI h t n = 1) ∧ (soI h t n = 1 ↔ so h t n)
  | 0 => ⟨Or.inr rfl, fun _ => trivial, fun _ => rfl⟩
  | n + 1 => by
    obtain ⟨h1, h2⟩ := soI_ok h t n
    unfold soI so sy syI
    by_cases h3 : soI h t n = 1
    · have h4 := h2.mp h3
      rw [if_pos h3]
      by_cases h5 : t - h 40 (h 47 (4 * n + 1)) - h 47 (4 * n + 2) ≤ h 39 (h 47 (4 * n))
      · rw [if_pos h5]
        by_cases h6 : h 47 (4 * n + 3) = 1
        · rw [if_pos h6]; exact ⟨Or.inr rfl, fun _ => ⟨h4, fun _ => h6, fun _ => h5⟩, fun _ => rfl⟩
        · rw [if_neg h6]; exact ⟨Or.inl rfl, fun z => by omega, fun z => absurd (z.2.mp h5) h6⟩
      · rw [if_neg h5]
        by_cases h6 : h 47 (4 * n + 3) = 1
        · rw [if_pos h6]; exact ⟨Or.inl rfl, fun z => by omega, fun z => absurd (z.2.mpr h6) h5⟩
        · rw [if_neg h6]; exact ⟨Or.inr rfl, fun _ => ⟨h4, fun z => absurd z h5, fun z => absurd z h6⟩, fun _ => rfl⟩
    · rw [if_neg h3]
      exact ⟨Or.inl rfl, fun z => by omega, fun z => absurd (h2.mpr z.1) h3⟩
def mSo (h : ms_H) (t : Int) : Int := soI h t (h 38 14).toNat
theorem mSo_01 (h : ms_H) (t : Int) : mSo h t = 0 ∨ mSo h t = 1 := (soI_ok h t _).1
theorem m_isSo2 {d : Nat} {t : Int} {h : ms_H} {Q : ms_Q} (hv : MV h) (hh : HV h) (ht : 0 ≤ t ∧ t ≤ 39) (q : Q (some (mI (mSo h t))) SH h) : ms_Ok ms_P (d + 3) 152 [mR 38, mI t] SH (h) Q := by
  refine m_isSo hv hh ht (fun r h1 h2 => ?_)
  obtain ⟨h3, h4⟩ := soI_ok h t (h 38 14).toNat
  have e : r = mSo h t := by
    unfold mSo
    by_cases z : so h t (h 38 14).toNat
    · rw [h2.mpr z, h4.mpr z]
    · have : ¬ r = 1 := fun w => z (h2.mp w)
      have : ¬ soI h t (h 38 14).toNat = 1 := fun w => z (h4.mp w)
      omega
  rw [e]
  exact q
/-- how many of the warmths 40 - j .. 39 are so; the least of them -/
def wcn (g : Int → Int) : Nat → Int
  | 0 => 0
  | j + 1 => wcn g j + (if g (39 - j) = 1 then 1 else 0)
def wls (g : Int → Int) : Nat → Int
  | 0 => -9
  | j + 1 => if g (39 - j) = 1 then 39 - j else wls g j
theorem wcn_b (g : Int → Int) : ∀ j : Nat, 0 ≤ wcn g j ∧ wcn g j ≤ j
  | 0 => by simp [wcn]
  | j + 1 => by
    have := wcn_b g j
    unfold wcn
    split <;> omega
theorem m_warmth_lp {d : Nat} {w : Int} {h : ms_H} {Q : ms_Q} (hv : MV h) (hh : HV h) (q : Q (some (mI (if w = 0 then wcn (mSo h) 40 else wls (mSo h) 40))) SH h) : ∀ (j i : Nat) (u : ms_V), i + j = 40 → ms_at (ms_Ok ms_P (d + 3)) ms_X1 MX5_warmth Q 100 [mR 38, mI w, mI (wcn (mSo h) i), mI (wls (mSo h) i), mI (39 - i), u] [] (SH, 0, 0) (h) := by
  intro j
  induction j with
  | zero =>
    intro i u hi
    have : i = 40 := by omega
    subst this
    refine sq_at (ms_Ok_m ms_P _) 30 100 ?_
    simp only [sq_c, jp_s, jp_c, rc_0, rc_s, ms_ex, o_iload, o_aload, o_istore, o_astore, o_iinc, o_bin, o_div, o_rem, o_neg, o_and, o_shl, o_shr, o_dup, o_pop, o_dup2, o_if, o_icmp, o_switch, o_sw, o_get, o_put, o_iald, o_iast, o_zald, o_zast, o_aald, o_aast, o_len, ob_s, ob_n, o_call, o_max, o_min, o_copy, o_obj, o_lpush, o_ladd, o_lcmp, o_iret, o_lret, o_vret, i1_c, l1_c, r1_c, st_g0, st_g1, st_g2, st_g3, st_g4, st_g5, st_g6, st_g7, st_g8, st_g9, st_s0, st_s1, st_s2, st_s3, st_s4, st_s5, st_s6, st_s7, st_s8, st_s9, List.length_cons, List.length_nil, List.take_succ_cons, List.take_zero, List.drop_succ_cons, List.drop_zero, List.reverse_cons, List.reverse_nil, List.nil_append, List.cons_append, List.all_cons, List.all_nil, ms_nl, Bool.and_true, Nat.reduceLeDiff, Nat.reduceAdd, Nat.reduceLT, Nat.reduceEqDiff, if_true, if_false, true_and, and_true, ms_rt, List.cons.injEq, exists_eq_left, exists_eq_right, exists_and_left, exists_and_right, ms_one, ite_true, ite_false, reduceIte, imp_self, Nat.zero_add, Nat.add_zero, zero_le_any, Nat.le_refl, Int.zero_add, true_or, or_true, false_implies, Int.reduceLE, Int.reduceLT, Int.reduceNeg, Int.reduceAdd, Int.reduceSub, Int.reduceMul, Int.reduceEq, not_true, not_false_iff, and_self, implies_true, false_and, and_false, or_false, false_or, bX5_warmth_0, bX5_warmth_1, bX5_warmth_2, bX5_warmth_3, bX5_warmth_4, bX5_warmth_5, bX5_warmth_6, bX5_warmth_7, bX5_warmth_8, bX5_warmth_100, lX5_warmth_0, lX5_warmth_1, lX5_warmth_2, lX5_warmth_3, lX5_warmth_4, lX5_warmth_5, lX5_warmth_6, lX5_warmth_7, lX5_warmth_8, lX5_warmth_100, qX5_warmth, sh_b]
    refine ⟨fun h1 => ⟨fun h2 => ?_, fun h2 => ?_⟩, fun h1 => by omega⟩
    · rw [if_neg h2] at q; exact q
    · rw [if_pos h2] at q; exact q
  | succ j ih =>
    intro i u hi
    have ih' := ih (i + 1) (mI (mSo h (39 - i))) (by omega)
    have hb := wcn_b (mSo h) i
    have h01 := mSo_01 h (39 - i)
    refine sq_at (ms_Ok_m ms_P _) 30 100 ?_
    simp only [sq_c, jp_s, jp_c, rc_0, rc_s, ms_ex, o_iload, o_aload, o_istore, o_astore, o_iinc, o_bin, o_div, o_rem, o_neg, o_and, o_shl, o_shr, o_dup, o_pop, o_dup2, o_if, o_icmp, o_switch, o_sw, o_get, o_put, o_iald, o_iast, o_zald, o_zast, o_aald, o_aast, o_len, ob_s, ob_n, o_call, o_max, o_min, o_copy, o_obj, o_lpush, o_ladd, o_lcmp, o_iret, o_lret, o_vret, i1_c, l1_c, r1_c, st_g0, st_g1, st_g2, st_g3, st_g4, st_g5, st_g6, st_g7, st_g8, st_g9, st_s0, st_s1, st_s2, st_s3, st_s4, st_s5, st_s6, st_s7, st_s8, st_s9, List.length_cons, List.length_nil, List.take_succ_cons, List.take_zero, List.drop_succ_cons, List.drop_zero, List.reverse_cons, List.reverse_nil, List.nil_append, List.cons_append, List.all_cons, List.all_nil, ms_nl, Bool.and_true, Nat.reduceLeDiff, Nat.reduceAdd, Nat.reduceLT, Nat.reduceEqDiff, if_true, if_false, true_and, and_true, ms_rt, List.cons.injEq, exists_eq_left, exists_eq_right, exists_and_left, exists_and_right, ms_one, ite_true, ite_false, reduceIte, imp_self, Nat.zero_add, Nat.add_zero, zero_le_any, Nat.le_refl, Int.zero_add, true_or, or_true, false_implies, Int.reduceLE, Int.reduceLT, Int.reduceNeg, Int.reduceAdd, Int.reduceSub, Int.reduceMul, Int.reduceEq, not_true, not_false_iff, and_self, implies_true, false_and, and_false, or_false, false_or, bX5_warmth_0, bX5_warmth_1, bX5_warmth_2, bX5_warmth_3, bX5_warmth_4, bX5_warmth_5, bX5_warmth_6, bX5_warmth_7, bX5_warmth_8, bX5_warmth_100, lX5_warmth_0, lX5_warmth_1, lX5_warmth_2, lX5_warmth_3, lX5_warmth_4, lX5_warmth_5, lX5_warmth_6, lX5_warmth_7, lX5_warmth_8, lX5_warmth_100, qX5_warmth, sh_b]
    refine ⟨fun h1 => by omega, fun h1 => ?_⟩
    refine m_isSo2 hv hh (by omega) ?_
    simp only [sq_c, jp_s, jp_c, rc_0, rc_s, ms_ex, o_iload, o_aload, o_istore, o_astore, o_iinc, o_bin, o_div, o_rem, o_neg, o_and, o_shl, o_shr, o_dup, o_pop, o_dup2, o_if, o_icmp, o_switch, o_sw, o_get, o_put, o_iald, o_iast, o_zald, o_zast, o_aald, o_aast, o_len, ob_s, ob_n, o_call, o_max, o_min, o_copy, o_obj, o_lpush, o_ladd, o_lcmp, o_iret, o_lret, o_vret, i1_c, l1_c, r1_c, st_g0, st_g1, st_g2, st_g3, st_g4, st_g5, st_g6, st_g7, st_g8, st_g9, st_s0, st_s1, st_s2, st_s3, st_s4, st_s5, st_s6, st_s7, st_s8, st_s9, List.length_cons, List.length_nil, List.take_succ_cons, List.take_zero, List.drop_succ_cons, List.drop_zero, List.reverse_cons, List.reverse_nil, List.nil_append, List.cons_append, List.all_cons, List.all_nil, ms_nl, Bool.and_true, Nat.reduceLeDiff, Nat.reduceAdd, Nat.reduceLT, Nat.reduceEqDiff, if_true, if_false, true_and, and_true, ms_rt, List.cons.injEq, exists_eq_left, exists_eq_right, exists_and_left, exists_and_right, ms_one, ite_true, ite_false, reduceIte, imp_self, Nat.zero_add, Nat.add_zero, zero_le_any, Nat.le_refl, Int.zero_add, true_or, or_true, false_implies, Int.reduceLE, Int.reduceLT, Int.reduceNeg, Int.reduceAdd, Int.reduceSub, Int.reduceMul, Int.reduceEq, not_true, not_false_iff, and_self, implies_true, false_and, and_false, or_false, false_or, bX5_warmth_0, bX5_warmth_1, bX5_warmth_2, bX5_warmth_3, bX5_warmth_4, bX5_warmth_5, bX5_warmth_6, bX5_warmth_7, bX5_warmth_8, bX5_warmth_100, lX5_warmth_0, lX5_warmth_1, lX5_warmth_2, lX5_warmth_3, lX5_warmth_4, lX5_warmth_5, lX5_warmth_6, lX5_warmth_7, lX5_warmth_8, lX5_warmth_100, qX5_warmth, sh_b]
    unfold wcn wls at ih'
    rw [show (39 : Int) - ((i + 1 : Nat) : Int) = 39 - i + -1 by omega] at ih'
    rcases h01 with e | e
    · rw [if_neg (by omega), if_neg (by omega)] at ih'
      repeat' first | refine ⟨?_, ?_⟩ | refine fun (_ : (_ : Int) ≤ _) => ?_ | refine fun (_ : (_ : Int) < _) => ?_ | refine fun (_ : ¬ (_ : Int) = _) => ?_ | refine fun (_ : (_ : Int) = _) => ?_
      all_goals first | omega | exact rg_of (by omega) (by omega) | skip
      all_goals exact ih'
    · rw [if_pos (by omega), if_pos (by omega)] at ih'
      repeat' first | refine ⟨?_, ?_⟩ | refine fun (_ : (_ : Int) ≤ _) => ?_ | refine fun (_ : (_ : Int) < _) => ?_ | refine fun (_ : ¬ (_ : Int) = _) => ?_ | refine fun (_ : (_ : Int) = _) => ?_
      all_goals first | omega | exact rg_of (by omega) (by omega) | skip
      all_goals exact ih'
theorem m_warmth {d : Nat} {w : Int} {h : ms_H} {Q : ms_Q} (hv : MV h) (hh : HV h) (q1 : ¬ (0 ≤ w ∧ w ≤ 1) → Q (some (mI (-1))) SH h) (q2 : (0 ≤ w ∧ w ≤ 1) → Q (some (mI (if w = 0 then wcn (mSo h) 40 else wls (mSo h) 40))) SH h) : ms_Ok ms_P (d + 4) 153 [mR 38, mI w] SH (h) Q := by
  refine ok_in (k := 30) MX5_warmth rfl rfl ?_
  show sq (ms_Ok ms_P (d + 3)) ms_X1 MX5_warmth Q 30 (M_bl MX5_warmth 0) [mR 38, mI w, mL 0, mL 0, mL 0, mL 0] [] (SH, 0, 0) (h)
  simp only [sq_c, jp_s, jp_c, rc_0, rc_s, ms_ex, o_iload, o_aload, o_istore, o_astore, o_iinc, o_bin, o_div, o_rem, o_neg, o_and, o_shl, o_shr, o_dup, o_pop, o_dup2, o_if, o_icmp, o_switch, o_sw, o_get, o_put, o_iald, o_iast, o_zald, o_zast, o_aald, o_aast, o_len, ob_s, ob_n, o_call, o_max, o_min, o_copy, o_obj, o_lpush, o_ladd, o_lcmp, o_iret, o_lret, o_vret, i1_c, l1_c, r1_c, st_g0, st_g1, st_g2, st_g3, st_g4, st_g5, st_g6, st_g7, st_g8, st_g9, st_s0, st_s1, st_s2, st_s3, st_s4, st_s5, st_s6, st_s7, st_s8, st_s9, List.length_cons, List.length_nil, List.take_succ_cons, List.take_zero, List.drop_succ_cons, List.drop_zero, List.reverse_cons, List.reverse_nil, List.nil_append, List.cons_append, List.all_cons, List.all_nil, ms_nl, Bool.and_true, Nat.reduceLeDiff, Nat.reduceAdd, Nat.reduceLT, Nat.reduceEqDiff, if_true, if_false, true_and, and_true, ms_rt, List.cons.injEq, exists_eq_left, exists_eq_right, exists_and_left, exists_and_right, ms_one, ite_true, ite_false, reduceIte, imp_self, Nat.zero_add, Nat.add_zero, zero_le_any, Nat.le_refl, Int.zero_add, true_or, or_true, false_implies, Int.reduceLE, Int.reduceLT, Int.reduceNeg, Int.reduceAdd, Int.reduceSub, Int.reduceMul, Int.reduceEq, not_true, not_false_iff, and_self, implies_true, false_and, and_false, or_false, false_or, bX5_warmth_0, bX5_warmth_1, bX5_warmth_2, bX5_warmth_3, bX5_warmth_4, bX5_warmth_5, bX5_warmth_6, bX5_warmth_7, bX5_warmth_8, bX5_warmth_100, lX5_warmth_0, lX5_warmth_1, lX5_warmth_2, lX5_warmth_3, lX5_warmth_4, lX5_warmth_5, lX5_warmth_6, lX5_warmth_7, lX5_warmth_8, lX5_warmth_100, qX5_warmth, sh_b]
  refine m_in (fun r hr => ?_)
  simp only [sq_c, jp_s, jp_c, rc_0, rc_s, ms_ex, o_iload, o_aload, o_istore, o_astore, o_iinc, o_bin, o_div, o_rem, o_neg, o_and, o_shl, o_shr, o_dup, o_pop, o_dup2, o_if, o_icmp, o_switch, o_sw, o_get, o_put, o_iald, o_iast, o_zald, o_zast, o_aald, o_aast, o_len, ob_s, ob_n, o_call, o_max, o_min, o_copy, o_obj, o_lpush, o_ladd, o_lcmp, o_iret, o_lret, o_vret, i1_c, l1_c, r1_c, st_g0, st_g1, st_g2, st_g3, st_g4, st_g5, st_g6, st_g7, st_g8, st_g9, st_s0, st_s1, st_s2, st_s3, st_s4, st_s5, st_s6, st_s7, st_s8, st_s9, List.length_cons, List.length_nil, List.take_succ_cons, List.take_zero, List.drop_succ_cons, List.drop_zero, List.reverse_cons, List.reverse_nil, List.nil_append, List.cons_append, List.all_cons, List.all_nil, ms_nl, Bool.and_true, Nat.reduceLeDiff, Nat.reduceAdd, Nat.reduceLT, Nat.reduceEqDiff, if_true, if_false, true_and, and_true, ms_rt, List.cons.injEq, exists_eq_left, exists_eq_right, exists_and_left, exists_and_right, ms_one, ite_true, ite_false, reduceIte, imp_self, Nat.zero_add, Nat.add_zero, zero_le_any, Nat.le_refl, Int.zero_add, true_or, or_true, false_implies, Int.reduceLE, Int.reduceLT, Int.reduceNeg, Int.reduceAdd, Int.reduceSub, Int.reduceMul, Int.reduceEq, not_true, not_false_iff, and_self, implies_true, false_and, and_false, or_false, false_or, bX5_warmth_0, bX5_warmth_1, bX5_warmth_2, bX5_warmth_3, bX5_warmth_4, bX5_warmth_5, bX5_warmth_6, bX5_warmth_7, bX5_warmth_8, bX5_warmth_100, lX5_warmth_0, lX5_warmth_1, lX5_warmth_2, lX5_warmth_3, lX5_warmth_4, lX5_warmth_5, lX5_warmth_6, lX5_warmth_7, lX5_warmth_8, lX5_warmth_100, qX5_warmth, sh_b]
  refine ⟨fun h1 => ?_, fun h1 => q1 (bf hr h1)⟩
  exact m_warmth_lp hv hh (q2 (bt hr h1)) 40 0 _ (by omega)
/-- where to put out a hand next: the questions gone through -/
def askf (g : Int → Int) (base : Int) : Nat → Int × Int → Int × Int
  | 0, s => s
  | k + 1, s => if g k < (askf g base k s).2 then (base + k, g k) else askf g base k s
def askc (g : Int → Int → Int) (base : Int) : Nat → Int × Int → Int × Int
  | 0, s => s
  | k + 1, s => askf (g k) (base + 10 * k) 8 (askc g base k s)
def askw (g : Int → Int → Int → Int) (n : Nat) : Nat → Int × Int → Int × Int
  | 0, s => s
  | k + 1, s => askc (g k) (100 * k) n (askw g n k s)
/-- of how many warmths that are so the walker says snow -/
def mN (h : ms_H) (w c f : Int) : Nat → Int := sm (fun t => if mSo h t = 1 ∧ t - h 40 c - f ≤ h 39 w then 1 else 0)
def mMore (h : ms_H) (w c f : Int) : Int := if wcn (mSo h) 40 - mN h w c f 40 < mN h w c f 40 then mN h w c f 40 else wcn (mSo h) 40 - mN h w c f 40
def mAsk (h : ms_H) : Int := (askw (mMore h) (h 38 0).toNat 2 (-9, wcn (mSo h) 40)).1
theorem mN_b (h : ms_H) (w c f : Int) (n : Nat) : 0 ≤ mN h w c f n ∧ mN h w c f n ≤ n := by
  have := sm_b (g := fun t => if mSo h t = 1 ∧ t - h 40 c - f ≤ h 39 w then 1 else 0) (lo := 0) (hi := 1) n (fun i h0 h1 => by split <;> omega)
  unfold mN
  omega
set_option maxRecDepth 50000 in
theorem m_ask_t {d : Nat} {h : ms_H} {Q : ms_Q} {w c f b l : Int} (hv : MV h) (hh : HV h) (hw : 0 ≤ w ∧ w ≤ 1) (hc : 0 ≤ c ∧ c < h 38 0) (hf : 0 ≤ f ∧ f ≤ 7) (K : ∀ u v, ms_at (ms_Ok ms_P (d + 4)) ms_X1 MX5_ask Q 102 [mR 38, mI (wcn (mSo h) 40), mI (if mMore h w c f < l then 100 * w + 10 * c + f else b), mI (if mMore h w c f < l then mMore h w c f else l), mI w, mI c, mI (f + 1), u, v] [] (SH, 0, 0) (h)) : ∀ (j k : Nat), k + j = 40 → ms_at (ms_Ok ms_P (d + 4)) ms_X1 MX5_ask Q 103 [mR 38, mI (wcn (mSo h) 40), mI b, mI l, mI w, mI c, mI f, mI (mN h w c f k), mI k] [] (SH, 0, 0) (h) := by
  have hb := hv.2.1.1
  have ha := wcn_b (mSo h) 40
  intro j
  induction j with
  | zero =>
    intro k hk
    have : k = 40 := by omega
    subst this
    have hnb := mN_b h w c f 40
    refine sq_at (ms_Ok_m ms_P _) 30 103 ?_
    simp only [sq_c, jp_s, jp_c, rc_0, rc_s, ms_ex, o_iload, o_aload, o_istore, o_astore, o_iinc, o_bin, o_div, o_rem, o_neg, o_and, o_shl, o_shr, o_dup, o_pop, o_dup2, o_if, o_icmp, o_switch, o_sw, o_get, o_put, o_iald, o_iast, o_zald, o_zast, o_aald, o_aast, o_len, ob_s, ob_n, o_call, o_max, o_min, o_copy, o_obj, o_lpush, o_ladd, o_lcmp, o_iret, o_lret, o_vret, i1_c, l1_c, r1_c, st_g0, st_g1, st_g2, st_g3, st_g4, st_g5, st_g6, st_g7, st_g8, st_g9, st_s0, st_s1, st_s2, st_s3, st_s4, st_s5, st_s6, st_s7, st_s8, st_s9, List.length_cons, List.length_nil, List.take_succ_cons, List.take_zero, List.drop_succ_cons, List.drop_zero, List.reverse_cons, List.reverse_nil, List.nil_append, List.cons_append, List.all_cons, List.all_nil, ms_nl, Bool.and_true, Nat.reduceLeDiff, Nat.reduceAdd, Nat.reduceLT, Nat.reduceEqDiff, if_true, if_false, true_and, and_true, ms_rt, List.cons.injEq, exists_eq_left, exists_eq_right, exists_and_left, exists_and_right, ms_one, ite_true, ite_false, reduceIte, imp_self, Nat.zero_add, Nat.add_zero, zero_le_any, Nat.le_refl, Int.zero_add, true_or, or_true, false_implies, Int.reduceLE, Int.reduceLT, Int.reduceNeg, Int.reduceAdd, Int.reduceSub, Int.reduceMul, Int.reduceEq, not_true, not_false_iff, and_self, implies_true, false_and, and_false, or_false, false_or, bX5_ask_0, bX5_ask_1, bX5_ask_2, bX5_ask_3, bX5_ask_4, bX5_ask_5, bX5_ask_6, bX5_ask_7, bX5_ask_8, bX5_ask_9, bX5_ask_10, bX5_ask_11, bX5_ask_12, bX5_ask_100, bX5_ask_101, bX5_ask_102, bX5_ask_103, lX5_ask_0, lX5_ask_1, lX5_ask_2, lX5_ask_3, lX5_ask_4, lX5_ask_5, lX5_ask_6, lX5_ask_7, lX5_ask_8, lX5_ask_9, lX5_ask_10, lX5_ask_11, lX5_ask_12, lX5_ask_100, lX5_ask_101, lX5_ask_102, lX5_ask_103, qX5_ask, sh_b]
    have em : mMore h w c f = if wcn (mSo h) 40 - mN h w c f 40 < mN h w c f 40 then mN h w c f 40 else wcn (mSo h) 40 - mN h w c f 40 := rfl
    by_cases h1 : wcn (mSo h) 40 - mN h w c f 40 < mN h w c f 40
    · rw [if_pos h1] at em
      by_cases h2 : mMore h w c f < l
      · rw [if_pos h2, if_pos h2, em] at K
        repeat' first | refine ⟨?_, ?_⟩ | refine fun (_ : (_ : Int) ≤ _) => ?_ | refine fun (_ : (_ : Int) < _) => ?_ | refine fun (_ : ¬ (_ : Int) = _) => ?_ | refine fun (_ : (_ : Int) = _) => ?_
        all_goals first | omega | exact rg_of (by omega) (by omega) | skip
        all_goals exact K _ _
      · rw [if_neg h2, if_neg h2] at K
        repeat' first | refine ⟨?_, ?_⟩ | refine fun (_ : (_ : Int) ≤ _) => ?_ | refine fun (_ : (_ : Int) < _) => ?_ | refine fun (_ : ¬ (_ : Int) = _) => ?_ | refine fun (_ : (_ : Int) = _) => ?_
        all_goals first | omega | exact rg_of (by omega) (by omega) | skip
        all_goals exact K _ _
    · rw [if_neg h1] at em
      by_cases h2 : mMore h w c f < l
      · rw [if_pos h2, if_pos h2, em] at K
        repeat' first | refine ⟨?_, ?_⟩ | refine fun (_ : (_ : Int) ≤ _) => ?_ | refine fun (_ : (_ : Int) < _) => ?_ | refine fun (_ : ¬ (_ : Int) = _) => ?_ | refine fun (_ : (_ : Int) = _) => ?_
        all_goals first | omega | exact rg_of (by omega) (by omega) | skip
        all_goals exact K _ _
      · rw [if_neg h2, if_neg h2] at K
        repeat' first | refine ⟨?_, ?_⟩ | refine fun (_ : (_ : Int) ≤ _) => ?_ | refine fun (_ : (_ : Int) < _) => ?_ | refine fun (_ : ¬ (_ : Int) = _) => ?_ | refine fun (_ : (_ : Int) = _) => ?_
        all_goals first | omega | exact rg_of (by omega) (by omega) | skip
        all_goals exact K _ _
  | succ j ih =>
    intro k hk
    have ih' := ih (k + 1) (by omega)
    have hnb := mN_b h w c f k
    have en : mN h w c f (k + 1) = mN h w c f k + (if mSo h k = 1 ∧ (k : Int) - h 40 c - f ≤ h 39 w then 1 else 0) := rfl
    refine sq_at (ms_Ok_m ms_P _) 30 103 ?_
    simp only [sq_c, jp_s, jp_c, rc_0, rc_s, ms_ex, o_iload, o_aload, o_istore, o_astore, o_iinc, o_bin, o_div, o_rem, o_neg, o_and, o_shl, o_shr, o_dup, o_pop, o_dup2, o_if, o_icmp, o_switch, o_sw, o_get, o_put, o_iald, o_iast, o_zald, o_zast, o_aald, o_aast, o_len, ob_s, ob_n, o_call, o_max, o_min, o_copy, o_obj, o_lpush, o_ladd, o_lcmp, o_iret, o_lret, o_vret, i1_c, l1_c, r1_c, st_g0, st_g1, st_g2, st_g3, st_g4, st_g5, st_g6, st_g7, st_g8, st_g9, st_s0, st_s1, st_s2, st_s3, st_s4, st_s5, st_s6, st_s7, st_s8, st_s9, List.length_cons, List.length_nil, List.take_succ_cons, List.take_zero, List.drop_succ_cons, List.drop_zero, List.reverse_cons, List.reverse_nil, List.nil_append, List.cons_append, List.all_cons, List.all_nil, ms_nl, Bool.and_true, Nat.reduceLeDiff, Nat.reduceAdd, Nat.reduceLT, Nat.reduceEqDiff, if_true, if_false, true_and, and_true, ms_rt, List.cons.injEq, exists_eq_left, exists_eq_right, exists_and_left, exists_and_right, ms_one, ite_true, ite_false, reduceIte, imp_self, Nat.zero_add, Nat.add_zero, zero_le_any, Nat.le_refl, Int.zero_add, true_or, or_true, false_implies, Int.reduceLE, Int.reduceLT, Int.reduceNeg, Int.reduceAdd, Int.reduceSub, Int.reduceMul, Int.reduceEq, not_true, not_false_iff, and_self, implies_true, false_and, and_false, or_false, false_or, bX5_ask_0, bX5_ask_1, bX5_ask_2, bX5_ask_3, bX5_ask_4, bX5_ask_5, bX5_ask_6, bX5_ask_7, bX5_ask_8, bX5_ask_9, bX5_ask_10, bX5_ask_11, bX5_ask_12, bX5_ask_100, bX5_ask_101, bX5_ask_102, bX5_ask_103, lX5_ask_0, lX5_ask_1, lX5_ask_2, lX5_ask_3, lX5_ask_4, lX5_ask_5, lX5_ask_6, lX5_ask_7, lX5_ask_8, lX5_ask_9, lX5_ask_10, lX5_ask_11, lX5_ask_12, lX5_ask_100, lX5_ask_101, lX5_ask_102, lX5_ask_103, qX5_ask, sh_b]
    refine ⟨fun h1 => by omega, fun h1 => ?_⟩
    refine m_isSo2 hv hh (by omega) ?_
    simp only [sq_c, jp_s, jp_c, rc_0, rc_s, ms_ex, o_iload, o_aload, o_istore, o_astore, o_iinc, o_bin, o_div, o_rem, o_neg, o_and, o_shl, o_shr, o_dup, o_pop, o_dup2, o_if, o_icmp, o_switch, o_sw, o_get, o_put, o_iald, o_iast, o_zald, o_zast, o_aald, o_aast, o_len, ob_s, ob_n, o_call, o_max, o_min, o_copy, o_obj, o_lpush, o_ladd, o_lcmp, o_iret, o_lret, o_vret, i1_c, l1_c, r1_c, st_g0, st_g1, st_g2, st_g3, st_g4, st_g5, st_g6, st_g7, st_g8, st_g9, st_s0, st_s1, st_s2, st_s3, st_s4, st_s5, st_s6, st_s7, st_s8, st_s9, List.length_cons, List.length_nil, List.take_succ_cons, List.take_zero, List.drop_succ_cons, List.drop_zero, List.reverse_cons, List.reverse_nil, List.nil_append, List.cons_append, List.all_cons, List.all_nil, ms_nl, Bool.and_true, Nat.reduceLeDiff, Nat.reduceAdd, Nat.reduceLT, Nat.reduceEqDiff, if_true, if_false, true_and, and_true, ms_rt, List.cons.injEq, exists_eq_left, exists_eq_right, exists_and_left, exists_and_right, ms_one, ite_true, ite_false, reduceIte, imp_self, Nat.zero_add, Nat.add_zero, zero_le_any, Nat.le_refl, Int.zero_add, true_or, or_true, false_implies, Int.reduceLE, Int.reduceLT, Int.reduceNeg, Int.reduceAdd, Int.reduceSub, Int.reduceMul, Int.reduceEq, not_true, not_false_iff, and_self, implies_true, false_and, and_false, or_false, false_or, bX5_ask_0, bX5_ask_1, bX5_ask_2, bX5_ask_3, bX5_ask_4, bX5_ask_5, bX5_ask_6, bX5_ask_7, bX5_ask_8, bX5_ask_9, bX5_ask_10, bX5_ask_11, bX5_ask_12, bX5_ask_100, bX5_ask_101, bX5_ask_102, bX5_ask_103, lX5_ask_0, lX5_ask_1, lX5_ask_2, lX5_ask_3, lX5_ask_4, lX5_ask_5, lX5_ask_6, lX5_ask_7, lX5_ask_8, lX5_ask_9, lX5_ask_10, lX5_ask_11, lX5_ask_12, lX5_ask_100, lX5_ask_101, lX5_ask_102, lX5_ask_103, qX5_ask, sh_b]
    have h01 := mSo_01 h k
    refine ⟨fun h2 => ?_, fun h2 => ?_⟩
    · rw [en, if_neg (by omega)] at ih'
      exact ⟨rg_of (by omega) (by omega), rg_of (by omega) (by omega), ih'⟩
    · refine m_says hv (by omega) hw hc hf (fun r hr => ?_)
      simp only [sq_c, jp_s, jp_c, rc_0, rc_s, ms_ex, o_iload, o_aload, o_istore, o_astore, o_iinc, o_bin, o_div, o_rem, o_neg, o_and, o_shl, o_shr, o_dup, o_pop, o_dup2, o_if, o_icmp, o_switch, o_sw, o_get, o_put, o_iald, o_iast, o_zald, o_zast, o_aald, o_aast, o_len, ob_s, ob_n, o_call, o_max, o_min, o_copy, o_obj, o_lpush, o_ladd, o_lcmp, o_iret, o_lret, o_vret, i1_c, l1_c, r1_c, st_g0, st_g1, st_g2, st_g3, st_g4, st_g5, st_g6, st_g7, st_g8, st_g9, st_s0, st_s1, st_s2, st_s3, st_s4, st_s5, st_s6, st_s7, st_s8, st_s9, List.length_cons, List.length_nil, List.take_succ_cons, List.take_zero, List.drop_succ_cons, List.drop_zero, List.reverse_cons, List.reverse_nil, List.nil_append, List.cons_append, List.all_cons, List.all_nil, ms_nl, Bool.and_true, Nat.reduceLeDiff, Nat.reduceAdd, Nat.reduceLT, Nat.reduceEqDiff, if_true, if_false, true_and, and_true, ms_rt, List.cons.injEq, exists_eq_left, exists_eq_right, exists_and_left, exists_and_right, ms_one, ite_true, ite_false, reduceIte, imp_self, Nat.zero_add, Nat.add_zero, zero_le_any, Nat.le_refl, Int.zero_add, true_or, or_true, false_implies, Int.reduceLE, Int.reduceLT, Int.reduceNeg, Int.reduceAdd, Int.reduceSub, Int.reduceMul, Int.reduceEq, not_true, not_false_iff, and_self, implies_true, false_and, and_false, or_false, false_or, bX5_ask_0, bX5_ask_1, bX5_ask_2, bX5_ask_3, bX5_ask_4, bX5_ask_5, bX5_ask_6, bX5_ask_7, bX5_ask_8, bX5_ask_9, bX5_ask_10, bX5_ask_11, bX5_ask_12, bX5_ask_100, bX5_ask_101, bX5_ask_102, bX5_ask_103, lX5_ask_0, lX5_ask_1, lX5_ask_2, lX5_ask_3, lX5_ask_4, lX5_ask_5, lX5_ask_6, lX5_ask_7, lX5_ask_8, lX5_ask_9, lX5_ask_10, lX5_ask_11, lX5_ask_12, lX5_ask_100, lX5_ask_101, lX5_ask_102, lX5_ask_103, qX5_ask, sh_b]
      refine ⟨fun h3 => ?_, fun h3 => ?_⟩
      · have h4 := bf hr h3
        rw [en, if_neg (fun z => h4 z.2)] at ih'
        exact ⟨rg_of (by omega) (by omega), rg_of (by omega) (by omega), ih'⟩
      · have h4 := bt hr h3
        rw [en, if_pos ⟨by omega, h4⟩] at ih'
        exact ⟨rg_of (by omega) (by omega), rg_of (by omega) (by omega), ih'⟩
set_option maxRecDepth 50000 in
theorem m_ask_f {d : Nat} {h : ms_H} {Q : ms_Q} {w c : Int} {s : Int × Int} (hv : MV h) (hh : HV h) (hw : 0 ≤ w ∧ w ≤ 1) (hc : 0 ≤ c ∧ c < h 38 0) (K : ∀ x u v, ms_at (ms_Ok ms_P (d + 4)) ms_X1 MX5_ask Q 101 [mR 38, mI (wcn (mSo h) 40), mI (askf (mMore h w c) (100 * w + 10 * c) 8 s).1, mI (askf (mMore h w c) (100 * w + 10 * c) 8 s).2, mI w, mI (c + 1), x, u, v] [] (SH, 0, 0) (h)) : ∀ (j k : Nat) (u v : ms_V), k + j = 8 → ms_at (ms_Ok ms_P (d + 4)) ms_X1 MX5_ask Q 102 [mR 38, mI (wcn (mSo h) 40), mI (askf (mMore h w c) (100 * w + 10 * c) k s).1, mI (askf (mMore h w c) (100 * w + 10 * c) k s).2, mI w, mI c, mI k, u, v] [] (SH, 0, 0) (h) := by
  have hb := hv.2.1.1
  intro j
  induction j with
  | zero =>
    intro k u v hk
    have : k = 8 := by omega
    subst this
    refine sq_at (ms_Ok_m ms_P _) 30 102 ?_
    simp only [sq_c, jp_s, jp_c, rc_0, rc_s, ms_ex, o_iload, o_aload, o_istore, o_astore, o_iinc, o_bin, o_div, o_rem, o_neg, o_and, o_shl, o_shr, o_dup, o_pop, o_dup2, o_if, o_icmp, o_switch, o_sw, o_get, o_put, o_iald, o_iast, o_zald, o_zast, o_aald, o_aast, o_len, ob_s, ob_n, o_call, o_max, o_min, o_copy, o_obj, o_lpush, o_ladd, o_lcmp, o_iret, o_lret, o_vret, i1_c, l1_c, r1_c, st_g0, st_g1, st_g2, st_g3, st_g4, st_g5, st_g6, st_g7, st_g8, st_g9, st_s0, st_s1, st_s2, st_s3, st_s4, st_s5, st_s6, st_s7, st_s8, st_s9, List.length_cons, List.length_nil, List.take_succ_cons, List.take_zero, List.drop_succ_cons, List.drop_zero, List.reverse_cons, List.reverse_nil, List.nil_append, List.cons_append, List.all_cons, List.all_nil, ms_nl, Bool.and_true, Nat.reduceLeDiff, Nat.reduceAdd, Nat.reduceLT, Nat.reduceEqDiff, if_true, if_false, true_and, and_true, ms_rt, List.cons.injEq, exists_eq_left, exists_eq_right, exists_and_left, exists_and_right, ms_one, ite_true, ite_false, reduceIte, imp_self, Nat.zero_add, Nat.add_zero, zero_le_any, Nat.le_refl, Int.zero_add, true_or, or_true, false_implies, Int.reduceLE, Int.reduceLT, Int.reduceNeg, Int.reduceAdd, Int.reduceSub, Int.reduceMul, Int.reduceEq, not_true, not_false_iff, and_self, implies_true, false_and, and_false, or_false, false_or, bX5_ask_0, bX5_ask_1, bX5_ask_2, bX5_ask_3, bX5_ask_4, bX5_ask_5, bX5_ask_6, bX5_ask_7, bX5_ask_8, bX5_ask_9, bX5_ask_10, bX5_ask_11, bX5_ask_12, bX5_ask_100, bX5_ask_101, bX5_ask_102, bX5_ask_103, lX5_ask_0, lX5_ask_1, lX5_ask_2, lX5_ask_3, lX5_ask_4, lX5_ask_5, lX5_ask_6, lX5_ask_7, lX5_ask_8, lX5_ask_9, lX5_ask_10, lX5_ask_11, lX5_ask_12, lX5_ask_100, lX5_ask_101, lX5_ask_102, lX5_ask_103, qX5_ask, sh_b]
    exact ⟨fun _ => ⟨rg_of (by omega) (by omega), K _ _ _⟩, fun h1 => by omega⟩
  | succ j ih =>
    intro k u v hk
    refine sq_at (ms_Ok_m ms_P _) 30 102 ?_
    simp only [sq_c, jp_s, jp_c, rc_0, rc_s, ms_ex, o_iload, o_aload, o_istore, o_astore, o_iinc, o_bin, o_div, o_rem, o_neg, o_and, o_shl, o_shr, o_dup, o_pop, o_dup2, o_if, o_icmp, o_switch, o_sw, o_get, o_put, o_iald, o_iast, o_zald, o_zast, o_aald, o_aast, o_len, ob_s, ob_n, o_call, o_max, o_min, o_copy, o_obj, o_lpush, o_ladd, o_lcmp, o_iret, o_lret, o_vret, i1_c, l1_c, r1_c, st_g0, st_g1, st_g2, st_g3, st_g4, st_g5, st_g6, st_g7, st_g8, st_g9, st_s0, st_s1, st_s2, st_s3, st_s4, st_s5, st_s6, st_s7, st_s8, st_s9, List.length_cons, List.length_nil, List.take_succ_cons, List.take_zero, List.drop_succ_cons, List.drop_zero, List.reverse_cons, List.reverse_nil, List.nil_append, List.cons_append, List.all_cons, List.all_nil, ms_nl, Bool.and_true, Nat.reduceLeDiff, Nat.reduceAdd, Nat.reduceLT, Nat.reduceEqDiff, if_true, if_false, true_and, and_true, ms_rt, List.cons.injEq, exists_eq_left, exists_eq_right, exists_and_left, exists_and_right, ms_one, ite_true, ite_false, reduceIte, imp_self, Nat.zero_add, Nat.add_zero, zero_le_any, Nat.le_refl, Int.zero_add, true_or, or_true, false_implies, Int.reduceLE, Int.reduceLT, Int.reduceNeg, Int.reduceAdd, Int.reduceSub, Int.reduceMul, Int.reduceEq, not_true, not_false_iff, and_self, implies_true, false_and, and_false, or_false, false_or, bX5_ask_0, bX5_ask_1, bX5_ask_2, bX5_ask_3, bX5_ask_4, bX5_ask_5, bX5_ask_6, bX5_ask_7, bX5_ask_8, bX5_ask_9, bX5_ask_10, bX5_ask_11, bX5_ask_12, bX5_ask_100, bX5_ask_101, bX5_ask_102, bX5_ask_103, lX5_ask_0, lX5_ask_1, lX5_ask_2, lX5_ask_3, lX5_ask_4, lX5_ask_5, lX5_ask_6, lX5_ask_7, lX5_ask_8, lX5_ask_9, lX5_ask_10, lX5_ask_11, lX5_ask_12, lX5_ask_100, lX5_ask_101, lX5_ask_102, lX5_ask_103, qX5_ask, sh_b]
    refine ⟨fun h1 => by omega, fun h1 => ?_⟩
    refine m_ask_t hv hh hw hc (by omega) (fun u v => ?_) 40 0 (by omega)
    have ih' := ih (k + 1) u v (by omega)
    have e : askf (mMore h w c) (100 * w + 10 * c) (k + 1) s = if mMore h w c k < (askf (mMore h w c) (100 * w + 10 * c) k s).2 then (100 * w + 10 * c + k, mMore h w c k) else askf (mMore h w c) (100 * w + 10 * c) k s := rfl
    rw [e] at ih'
    by_cases h2 : mMore h w c k < (askf (mMore h w c) (100 * w + 10 * c) k s).2
    · rw [if_pos h2] at ih'
      rw [if_pos h2, if_pos h2]
      exact ih'
    · rw [if_neg h2] at ih'
      rw [if_neg h2, if_neg h2]
      exact ih'
set_option maxRecDepth 50000 in
theorem m_ask_c {d : Nat} {h : ms_H} {Q : ms_Q} {w : Int} {s : Int × Int} (hv : MV h) (hh : HV h) (hw : 0 ≤ w ∧ w ≤ 1) (K : ∀ y x u v, ms_at (ms_Ok ms_P (d + 4)) ms_X1 MX5_ask Q 100 [mR 38, mI (wcn (mSo h) 40), mI (askc (mMore h w) (100 * w) (h 38 0).toNat s).1, mI (askc (mMore h w) (100 * w) (h 38 0).toNat s).2, mI (w + 1), y, x, u, v] [] (SH, 0, 0) (h)) : ∀ (j k : Nat) (x u v : ms_V), k + j = (h 38 0).toNat → ms_at (ms_Ok ms_P (d + 4)) ms_X1 MX5_ask Q 101 [mR 38, mI (wcn (mSo h) 40), mI (askc (mMore h w) (100 * w) k s).1, mI (askc (mMore h w) (100 * w) k s).2, mI w, mI k, x, u, v] [] (SH, 0, 0) (h) := by
  have hb := hv.2.1.1
  intro j
  induction j with
  | zero =>
    intro k x u v hk
    have : k = (h 38 0).toNat := by omega
    subst this
    refine sq_at (ms_Ok_m ms_P _) 30 101 ?_
    simp only [sq_c, jp_s, jp_c, rc_0, rc_s, ms_ex, o_iload, o_aload, o_istore, o_astore, o_iinc, o_bin, o_div, o_rem, o_neg, o_and, o_shl, o_shr, o_dup, o_pop, o_dup2, o_if, o_icmp, o_switch, o_sw, o_get, o_put, o_iald, o_iast, o_zald, o_zast, o_aald, o_aast, o_len, ob_s, ob_n, o_call, o_max, o_min, o_copy, o_obj, o_lpush, o_ladd, o_lcmp, o_iret, o_lret, o_vret, i1_c, l1_c, r1_c, st_g0, st_g1, st_g2, st_g3, st_g4, st_g5, st_g6, st_g7, st_g8, st_g9, st_s0, st_s1, st_s2, st_s3, st_s4, st_s5, st_s6, st_s7, st_s8, st_s9, List.length_cons, List.length_nil, List.take_succ_cons, List.take_zero, List.drop_succ_cons, List.drop_zero, List.reverse_cons, List.reverse_nil, List.nil_append, List.cons_append, List.all_cons, List.all_nil, ms_nl, Bool.and_true, Nat.reduceLeDiff, Nat.reduceAdd, Nat.reduceLT, Nat.reduceEqDiff, if_true, if_false, true_and, and_true, ms_rt, List.cons.injEq, exists_eq_left, exists_eq_right, exists_and_left, exists_and_right, ms_one, ite_true, ite_false, reduceIte, imp_self, Nat.zero_add, Nat.add_zero, zero_le_any, Nat.le_refl, Int.zero_add, true_or, or_true, false_implies, Int.reduceLE, Int.reduceLT, Int.reduceNeg, Int.reduceAdd, Int.reduceSub, Int.reduceMul, Int.reduceEq, not_true, not_false_iff, and_self, implies_true, false_and, and_false, or_false, false_or, bX5_ask_0, bX5_ask_1, bX5_ask_2, bX5_ask_3, bX5_ask_4, bX5_ask_5, bX5_ask_6, bX5_ask_7, bX5_ask_8, bX5_ask_9, bX5_ask_10, bX5_ask_11, bX5_ask_12, bX5_ask_100, bX5_ask_101, bX5_ask_102, bX5_ask_103, lX5_ask_0, lX5_ask_1, lX5_ask_2, lX5_ask_3, lX5_ask_4, lX5_ask_5, lX5_ask_6, lX5_ask_7, lX5_ask_8, lX5_ask_9, lX5_ask_10, lX5_ask_11, lX5_ask_12, lX5_ask_100, lX5_ask_101, lX5_ask_102, lX5_ask_103, qX5_ask, sh_b]
    exact ⟨fun _ => ⟨rg_of (by omega) (by omega), K _ _ _ _⟩, fun h1 => by omega⟩
  | succ j ih =>
    intro k x u v hk
    refine sq_at (ms_Ok_m ms_P _) 30 101 ?_
    simp only [sq_c, jp_s, jp_c, rc_0, rc_s, ms_ex, o_iload, o_aload, o_istore, o_astore, o_iinc, o_bin, o_div, o_rem, o_neg, o_and, o_shl, o_shr, o_dup, o_pop, o_dup2, o_if, o_icmp, o_switch, o_sw, o_get, o_put, o_iald, o_iast, o_zald, o_zast, o_aald, o_aast, o_len, ob_s, ob_n, o_call, o_max, o_min, o_copy, o_obj, o_lpush, o_ladd, o_lcmp, o_iret, o_lret, o_vret, i1_c, l1_c, r1_c, st_g0, st_g1, st_g2, st_g3, st_g4, st_g5, st_g6, st_g7, st_g8, st_g9, st_s0, st_s1, st_s2, st_s3, st_s4, st_s5, st_s6, st_s7, st_s8, st_s9, List.length_cons, List.length_nil, List.take_succ_cons, List.take_zero, List.drop_succ_cons, List.drop_zero, List.reverse_cons, List.reverse_nil, List.nil_append, List.cons_append, List.all_cons, List.all_nil, ms_nl, Bool.and_true, Nat.reduceLeDiff, Nat.reduceAdd, Nat.reduceLT, Nat.reduceEqDiff, if_true, if_false, true_and, and_true, ms_rt, List.cons.injEq, exists_eq_left, exists_eq_right, exists_and_left, exists_and_right, ms_one, ite_true, ite_false, reduceIte, imp_self, Nat.zero_add, Nat.add_zero, zero_le_any, Nat.le_refl, Int.zero_add, true_or, or_true, false_implies, Int.reduceLE, Int.reduceLT, Int.reduceNeg, Int.reduceAdd, Int.reduceSub, Int.reduceMul, Int.reduceEq, not_true, not_false_iff, and_self, implies_true, false_and, and_false, or_false, false_or, bX5_ask_0, bX5_ask_1, bX5_ask_2, bX5_ask_3, bX5_ask_4, bX5_ask_5, bX5_ask_6, bX5_ask_7, bX5_ask_8, bX5_ask_9, bX5_ask_10, bX5_ask_11, bX5_ask_12, bX5_ask_100, bX5_ask_101, bX5_ask_102, bX5_ask_103, lX5_ask_0, lX5_ask_1, lX5_ask_2, lX5_ask_3, lX5_ask_4, lX5_ask_5, lX5_ask_6, lX5_ask_7, lX5_ask_8, lX5_ask_9, lX5_ask_10, lX5_ask_11, lX5_ask_12, lX5_ask_100, lX5_ask_101, lX5_ask_102, lX5_ask_103, qX5_ask, sh_b]
    refine ⟨fun h1 => by omega, fun h1 => ?_⟩
    exact m_ask_f (s := askc (mMore h w) (100 * w) k s) hv hh hw (by omega) (fun x u v => ih (k + 1) x u v (by omega)) 8 0 _ _ (by omega)
set_option maxRecDepth 50000 in
theorem m_ask_w {d : Nat} {h : ms_H} {Q : ms_Q} {s : Int × Int} (hv : MV h) (hh : HV h) (q : Q (some (mI (askw (mMore h) (h 38 0).toNat 2 s).1)) SH h) : ∀ (j k : Nat) (y x u v : ms_V), k + j = 2 → ms_at (ms_Ok ms_P (d + 4)) ms_X1 MX5_ask Q 100 [mR 38, mI (wcn (mSo h) 40), mI (askw (mMore h) (h 38 0).toNat k s).1, mI (askw (mMore h) (h 38 0).toNat k s).2, mI k, y, x, u, v] [] (SH, 0, 0) (h) := by
  have hb := hv.2.1.1
  intro j
  induction j with
  | zero =>
    intro k y x u v hk
    have : k = 2 := by omega
    subst this
    refine sq_at (ms_Ok_m ms_P _) 30 100 ?_
    simp only [sq_c, jp_s, jp_c, rc_0, rc_s, ms_ex, o_iload, o_aload, o_istore, o_astore, o_iinc, o_bin, o_div, o_rem, o_neg, o_and, o_shl, o_shr, o_dup, o_pop, o_dup2, o_if, o_icmp, o_switch, o_sw, o_get, o_put, o_iald, o_iast, o_zald, o_zast, o_aald, o_aast, o_len, ob_s, ob_n, o_call, o_max, o_min, o_copy, o_obj, o_lpush, o_ladd, o_lcmp, o_iret, o_lret, o_vret, i1_c, l1_c, r1_c, st_g0, st_g1, st_g2, st_g3, st_g4, st_g5, st_g6, st_g7, st_g8, st_g9, st_s0, st_s1, st_s2, st_s3, st_s4, st_s5, st_s6, st_s7, st_s8, st_s9, List.length_cons, List.length_nil, List.take_succ_cons, List.take_zero, List.drop_succ_cons, List.drop_zero, List.reverse_cons, List.reverse_nil, List.nil_append, List.cons_append, List.all_cons, List.all_nil, ms_nl, Bool.and_true, Nat.reduceLeDiff, Nat.reduceAdd, Nat.reduceLT, Nat.reduceEqDiff, if_true, if_false, true_and, and_true, ms_rt, List.cons.injEq, exists_eq_left, exists_eq_right, exists_and_left, exists_and_right, ms_one, ite_true, ite_false, reduceIte, imp_self, Nat.zero_add, Nat.add_zero, zero_le_any, Nat.le_refl, Int.zero_add, true_or, or_true, false_implies, Int.reduceLE, Int.reduceLT, Int.reduceNeg, Int.reduceAdd, Int.reduceSub, Int.reduceMul, Int.reduceEq, not_true, not_false_iff, and_self, implies_true, false_and, and_false, or_false, false_or, bX5_ask_0, bX5_ask_1, bX5_ask_2, bX5_ask_3, bX5_ask_4, bX5_ask_5, bX5_ask_6, bX5_ask_7, bX5_ask_8, bX5_ask_9, bX5_ask_10, bX5_ask_11, bX5_ask_12, bX5_ask_100, bX5_ask_101, bX5_ask_102, bX5_ask_103, lX5_ask_0, lX5_ask_1, lX5_ask_2, lX5_ask_3, lX5_ask_4, lX5_ask_5, lX5_ask_6, lX5_ask_7, lX5_ask_8, lX5_ask_9, lX5_ask_10, lX5_ask_11, lX5_ask_12, lX5_ask_100, lX5_ask_101, lX5_ask_102, lX5_ask_103, qX5_ask, sh_b]
    exact ⟨fun _ => q, fun h1 => by omega⟩
  | succ j ih =>
    intro k y x u v hk
    refine sq_at (ms_Ok_m ms_P _) 30 100 ?_
    simp only [sq_c, jp_s, jp_c, rc_0, rc_s, ms_ex, o_iload, o_aload, o_istore, o_astore, o_iinc, o_bin, o_div, o_rem, o_neg, o_and, o_shl, o_shr, o_dup, o_pop, o_dup2, o_if, o_icmp, o_switch, o_sw, o_get, o_put, o_iald, o_iast, o_zald, o_zast, o_aald, o_aast, o_len, ob_s, ob_n, o_call, o_max, o_min, o_copy, o_obj, o_lpush, o_ladd, o_lcmp, o_iret, o_lret, o_vret, i1_c, l1_c, r1_c, st_g0, st_g1, st_g2, st_g3, st_g4, st_g5, st_g6, st_g7, st_g8, st_g9, st_s0, st_s1, st_s2, st_s3, st_s4, st_s5, st_s6, st_s7, st_s8, st_s9, List.length_cons, List.length_nil, List.take_succ_cons, List.take_zero, List.drop_succ_cons, List.drop_zero, List.reverse_cons, List.reverse_nil, List.nil_append, List.cons_append, List.all_cons, List.all_nil, ms_nl, Bool.and_true, Nat.reduceLeDiff, Nat.reduceAdd, Nat.reduceLT, Nat.reduceEqDiff, if_true, if_false, true_and, and_true, ms_rt, List.cons.injEq, exists_eq_left, exists_eq_right, exists_and_left, exists_and_right, ms_one, ite_true, ite_false, reduceIte, imp_self, Nat.zero_add, Nat.add_zero, zero_le_any, Nat.le_refl, Int.zero_add, true_or, or_true, false_implies, Int.reduceLE, Int.reduceLT, Int.reduceNeg, Int.reduceAdd, Int.reduceSub, Int.reduceMul, Int.reduceEq, not_true, not_false_iff, and_self, implies_true, false_and, and_false, or_false, false_or, bX5_ask_0, bX5_ask_1, bX5_ask_2, bX5_ask_3, bX5_ask_4, bX5_ask_5, bX5_ask_6, bX5_ask_7, bX5_ask_8, bX5_ask_9, bX5_ask_10, bX5_ask_11, bX5_ask_12, bX5_ask_100, bX5_ask_101, bX5_ask_102, bX5_ask_103, lX5_ask_0, lX5_ask_1, lX5_ask_2, lX5_ask_3, lX5_ask_4, lX5_ask_5, lX5_ask_6, lX5_ask_7, lX5_ask_8, lX5_ask_9, lX5_ask_10, lX5_ask_11, lX5_ask_12, lX5_ask_100, lX5_ask_101, lX5_ask_102, lX5_ask_103, qX5_ask, sh_b]
    refine ⟨fun h1 => by omega, fun h1 => ?_⟩
    exact m_ask_c (s := askw (mMore h) (h 38 0).toNat k s) hv hh (by omega) (fun y x u v => ih (k + 1) y x u v (by omega)) (h 38 0).toNat 0 _ _ _ (by omega)
set_option maxRecDepth 50000 in
theorem m_ask {d : Nat} {h : ms_H} {Q : ms_Q} (hv : MV h) (hh : HV h) (q : Q (some (mI (mAsk h))) SH h) : ms_Ok ms_P (d + 5) 154 [mR 38] SH (h) Q := by
  refine ok_in (k := 30) MX5_ask rfl rfl ?_
  show sq (ms_Ok ms_P (d + 4)) ms_X1 MX5_ask Q 30 (M_bl MX5_ask 0) [mR 38, mL 0, mL 0, mL 0, mL 0, mL 0, mL 0, mL 0, mL 0] [] (SH, 0, 0) (h)
  simp only [sq_c, jp_s, jp_c, rc_0, rc_s, ms_ex, o_iload, o_aload, o_istore, o_astore, o_iinc, o_bin, o_div, o_rem, o_neg, o_and, o_shl, o_shr, o_dup, o_pop, o_dup2, o_if, o_icmp, o_switch, o_sw, o_get, o_put, o_iald, o_iast, o_zald, o_zast, o_aald, o_aast, o_len, ob_s, ob_n, o_call, o_max, o_min, o_copy, o_obj, o_lpush, o_ladd, o_lcmp, o_iret, o_lret, o_vret, i1_c, l1_c, r1_c, st_g0, st_g1, st_g2, st_g3, st_g4, st_g5, st_g6, st_g7, st_g8, st_g9, st_s0, st_s1, st_s2, st_s3, st_s4, st_s5, st_s6, st_s7, st_s8, st_s9, List.length_cons, List.length_nil, List.take_succ_cons, List.take_zero, List.drop_succ_cons, List.drop_zero, List.reverse_cons, List.reverse_nil, List.nil_append, List.cons_append, List.all_cons, List.all_nil, ms_nl, Bool.and_true, Nat.reduceLeDiff, Nat.reduceAdd, Nat.reduceLT, Nat.reduceEqDiff, if_true, if_false, true_and, and_true, ms_rt, List.cons.injEq, exists_eq_left, exists_eq_right, exists_and_left, exists_and_right, ms_one, ite_true, ite_false, reduceIte, imp_self, Nat.zero_add, Nat.add_zero, zero_le_any, Nat.le_refl, Int.zero_add, true_or, or_true, false_implies, Int.reduceLE, Int.reduceLT, Int.reduceNeg, Int.reduceAdd, Int.reduceSub, Int.reduceMul, Int.reduceEq, not_true, not_false_iff, and_self, implies_true, false_and, and_false, or_false, false_or, bX5_ask_0, bX5_ask_1, bX5_ask_2, bX5_ask_3, bX5_ask_4, bX5_ask_5, bX5_ask_6, bX5_ask_7, bX5_ask_8, bX5_ask_9, bX5_ask_10, bX5_ask_11, bX5_ask_12, bX5_ask_100, bX5_ask_101, bX5_ask_102, bX5_ask_103, lX5_ask_0, lX5_ask_1, lX5_ask_2, lX5_ask_3, lX5_ask_4, lX5_ask_5, lX5_ask_6, lX5_ask_7, lX5_ask_8, lX5_ask_9, lX5_ask_10, lX5_ask_11, lX5_ask_12, lX5_ask_100, lX5_ask_101, lX5_ask_102, lX5_ask_103, qX5_ask, sh_b]
  refine m_warmth hv hh (fun z => absurd (by omega) z) (fun _ => ?_)
  rw [if_pos rfl]
  simp only [sq_c, jp_s, jp_c, rc_0, rc_s, ms_ex, o_iload, o_aload, o_istore, o_astore, o_iinc, o_bin, o_div, o_rem, o_neg, o_and, o_shl, o_shr, o_dup, o_pop, o_dup2, o_if, o_icmp, o_switch, o_sw, o_get, o_put, o_iald, o_iast, o_zald, o_zast, o_aald, o_aast, o_len, ob_s, ob_n, o_call, o_max, o_min, o_copy, o_obj, o_lpush, o_ladd, o_lcmp, o_iret, o_lret, o_vret, i1_c, l1_c, r1_c, st_g0, st_g1, st_g2, st_g3, st_g4, st_g5, st_g6, st_g7, st_g8, st_g9, st_s0, st_s1, st_s2, st_s3, st_s4, st_s5, st_s6, st_s7, st_s8, st_s9, List.length_cons, List.length_nil, List.take_succ_cons, List.take_zero, List.drop_succ_cons, List.drop_zero, List.reverse_cons, List.reverse_nil, List.nil_append, List.cons_append, List.all_cons, List.all_nil, ms_nl, Bool.and_true, Nat.reduceLeDiff, Nat.reduceAdd, Nat.reduceLT, Nat.reduceEqDiff, if_true, if_false, true_and, and_true, ms_rt, List.cons.injEq, exists_eq_left, exists_eq_right, exists_and_left, exists_and_right, ms_one, ite_true, ite_false, reduceIte, imp_self, Nat.zero_add, Nat.add_zero, zero_le_any, Nat.le_refl, Int.zero_add, true_or, or_true, false_implies, Int.reduceLE, Int.reduceLT, Int.reduceNeg, Int.reduceAdd, Int.reduceSub, Int.reduceMul, Int.reduceEq, not_true, not_false_iff, and_self, implies_true, false_and, and_false, or_false, false_or, bX5_ask_0, bX5_ask_1, bX5_ask_2, bX5_ask_3, bX5_ask_4, bX5_ask_5, bX5_ask_6, bX5_ask_7, bX5_ask_8, bX5_ask_9, bX5_ask_10, bX5_ask_11, bX5_ask_12, bX5_ask_100, bX5_ask_101, bX5_ask_102, bX5_ask_103, lX5_ask_0, lX5_ask_1, lX5_ask_2, lX5_ask_3, lX5_ask_4, lX5_ask_5, lX5_ask_6, lX5_ask_7, lX5_ask_8, lX5_ask_9, lX5_ask_10, lX5_ask_11, lX5_ask_12, lX5_ask_100, lX5_ask_101, lX5_ask_102, lX5_ask_103, qX5_ask, sh_b]
  exact m_ask_w (s := (-9, wcn (mSo h) 40)) hv hh q 2 0 _ _ _ _ (by omega)
end
section
/-! The model: marks. -/
set_option maxRecDepth 50000 in
theorem m_marked {d : Nat} {kd c : Int} {h : ms_H} {Q : ms_Q} (hv : MV h) (hk : 0 ≤ kd ∧ kd ≤ 5) (hc : 0 ≤ c ∧ c < h 38 0) (ht : 0 ≤ h 38 16 ∧ h 38 16 ≤ 2000000000) (q : Q (some (mI (if kd = 0 then h 40 c else if kd = 1 then h 40 c + h 41 c else if kd = 2 then h 40 c - h 42 c else if kd = 3 then (h 40 c + h 41 c) * 2 else if kd = 4 then h 40 c - h 42 c + c else h 40 c + cl (mT h - h 40 c)))) SH (hs h 38 16 (h 38 16 + (if kd = 0 then 1 else if kd = 1 then 11 else if kd = 2 then 101 else if kd = 3 then 1011 else if kd = 4 then 10101 else 100001)))) : ms_Ok ms_P (d + 6) 155 [mR 38, mI kd, mI c] SH (h) Q := by
  refine ok_in (k := 30) MX5_marked rfl rfl ?_
  show sq (ms_Ok ms_P (d + 5)) ms_X1 MX5_marked Q 30 (M_bl MX5_marked 0) [mR 38, mI kd, mI c, mL 0] [] (SH, 0, 0) (h)
  have hR := hv.1
  have hb := hv.2.1
  unfold RM at hR
  unfold MB at hb
  have ha := hv.2.2.2.1 c hc.1 hc.2
  have hcl := cl_b (mT h - h 40 c)
  have : kd = 0 ∨ kd = 1 ∨ kd = 2 ∨ kd = 3 ∨ kd = 4 ∨ kd = 5 := by omega
  rcases this with rfl | rfl | rfl | rfl | rfl | rfl
  · simp only [sq_c, jp_s, jp_c, rc_0, rc_s, ms_ex, o_iload, o_aload, o_istore, o_astore, o_iinc, o_bin, o_div, o_rem, o_neg, o_and, o_shl, o_shr, o_dup, o_pop, o_dup2, o_if, o_icmp, o_switch, o_sw, o_get, o_put, o_iald, o_iast, o_zald, o_zast, o_aald, o_aast, o_len, ob_s, ob_n, o_call, o_max, o_min, o_copy, o_obj, o_lpush, o_ladd, o_lcmp, o_iret, o_lret, o_vret, i1_c, l1_c, r1_c, st_g0, st_g1, st_g2, st_g3, st_g4, st_g5, st_g6, st_g7, st_g8, st_g9, st_s0, st_s1, st_s2, st_s3, st_s4, st_s5, st_s6, st_s7, st_s8, st_s9, List.length_cons, List.length_nil, List.take_succ_cons, List.take_zero, List.drop_succ_cons, List.drop_zero, List.reverse_cons, List.reverse_nil, List.nil_append, List.cons_append, List.all_cons, List.all_nil, ms_nl, Bool.and_true, Nat.reduceLeDiff, Nat.reduceAdd, Nat.reduceLT, Nat.reduceEqDiff, if_true, if_false, true_and, and_true, ms_rt, List.cons.injEq, exists_eq_left, exists_eq_right, exists_and_left, exists_and_right, ms_one, ite_true, ite_false, reduceIte, imp_self, Nat.zero_add, Nat.add_zero, zero_le_any, Nat.le_refl, Int.zero_add, true_or, or_true, false_implies, Int.reduceLE, Int.reduceLT, Int.reduceNeg, Int.reduceAdd, Int.reduceSub, Int.reduceMul, Int.reduceEq, not_true, not_false_iff, and_self, implies_true, false_and, and_false, or_false, false_or, bX5_marked_0, bX5_marked_1, bX5_marked_2, bX5_marked_3, bX5_marked_4, bX5_marked_5, bX5_marked_6, bX5_marked_7, lX5_marked_0, lX5_marked_1, lX5_marked_2, lX5_marked_3, lX5_marked_4, lX5_marked_5, lX5_marked_6, lX5_marked_7, qX5_marked, ↓if_eq_t, ↓if_eq_f, ↓ic_eq_t, ↓ic_eq_f, ↓if_ne_t, ↓if_ne_f, ↓ic_ne_t, ↓ic_ne_f, ↓if_lt_t, ↓if_lt_f, ↓ic_lt_t, ↓ic_lt_f, ↓if_ge_t, ↓if_ge_f, ↓ic_ge_t, ↓ic_ge_f, ↓if_gt_t, ↓if_gt_f, ↓ic_gt_t, ↓ic_gt_f, ↓if_le_t, ↓if_le_f, ↓ic_le_t, ↓ic_le_f, not_false_eq_true,  sh_b, hR, ar_40, ar_41, ar_42, hs_v, hs_hs]
    exact ⟨by omega, by omega, rg_of (by omega) (by omega), q⟩
  · simp only [sq_c, jp_s, jp_c, rc_0, rc_s, ms_ex, o_iload, o_aload, o_istore, o_astore, o_iinc, o_bin, o_div, o_rem, o_neg, o_and, o_shl, o_shr, o_dup, o_pop, o_dup2, o_if, o_icmp, o_switch, o_sw, o_get, o_put, o_iald, o_iast, o_zald, o_zast, o_aald, o_aast, o_len, ob_s, ob_n, o_call, o_max, o_min, o_copy, o_obj, o_lpush, o_ladd, o_lcmp, o_iret, o_lret, o_vret, i1_c, l1_c, r1_c, st_g0, st_g1, st_g2, st_g3, st_g4, st_g5, st_g6, st_g7, st_g8, st_g9, st_s0, st_s1, st_s2, st_s3, st_s4, st_s5, st_s6, st_s7, st_s8, st_s9, List.length_cons, List.length_nil, List.take_succ_cons, List.take_zero, List.drop_succ_cons, List.drop_zero, List.reverse_cons, List.reverse_nil, List.nil_append, List.cons_append, List.all_cons, List.all_nil, ms_nl, Bool.and_true, Nat.reduceLeDiff, Nat.reduceAdd, Nat.reduceLT, Nat.reduceEqDiff, if_true, if_false, true_and, and_true, ms_rt, List.cons.injEq, exists_eq_left, exists_eq_right, exists_and_left, exists_and_right, ms_one, ite_true, ite_false, reduceIte, imp_self, Nat.zero_add, Nat.add_zero, zero_le_any, Nat.le_refl, Int.zero_add, true_or, or_true, false_implies, Int.reduceLE, Int.reduceLT, Int.reduceNeg, Int.reduceAdd, Int.reduceSub, Int.reduceMul, Int.reduceEq, not_true, not_false_iff, and_self, implies_true, false_and, and_false, or_false, false_or, bX5_marked_0, bX5_marked_1, bX5_marked_2, bX5_marked_3, bX5_marked_4, bX5_marked_5, bX5_marked_6, bX5_marked_7, lX5_marked_0, lX5_marked_1, lX5_marked_2, lX5_marked_3, lX5_marked_4, lX5_marked_5, lX5_marked_6, lX5_marked_7, qX5_marked, ↓if_eq_t, ↓if_eq_f, ↓ic_eq_t, ↓ic_eq_f, ↓if_ne_t, ↓if_ne_f, ↓ic_ne_t, ↓ic_ne_f, ↓if_lt_t, ↓if_lt_f, ↓ic_lt_t, ↓ic_lt_f, ↓if_ge_t, ↓if_ge_f, ↓ic_ge_t, ↓ic_ge_f, ↓if_gt_t, ↓if_gt_f, ↓ic_gt_t, ↓ic_gt_f, ↓if_le_t, ↓if_le_f, ↓ic_le_t, ↓ic_le_f, not_false_eq_true,  sh_b, hR, ar_40, ar_41, ar_42, hs_v, hs_hs]
    exact ⟨by omega, by omega, rg_of (by omega) (by omega), by omega, by omega, rg_of (by omega) (by omega), rg_of (by omega) (by omega), by rw [Int.add_assoc]; exact q⟩
  · simp only [sq_c, jp_s, jp_c, rc_0, rc_s, ms_ex, o_iload, o_aload, o_istore, o_astore, o_iinc, o_bin, o_div, o_rem, o_neg, o_and, o_shl, o_shr, o_dup, o_pop, o_dup2, o_if, o_icmp, o_switch, o_sw, o_get, o_put, o_iald, o_iast, o_zald, o_zast, o_aald, o_aast, o_len, ob_s, ob_n, o_call, o_max, o_min, o_copy, o_obj, o_lpush, o_ladd, o_lcmp, o_iret, o_lret, o_vret, i1_c, l1_c, r1_c, st_g0, st_g1, st_g2, st_g3, st_g4, st_g5, st_g6, st_g7, st_g8, st_g9, st_s0, st_s1, st_s2, st_s3, st_s4, st_s5, st_s6, st_s7, st_s8, st_s9, List.length_cons, List.length_nil, List.take_succ_cons, List.take_zero, List.drop_succ_cons, List.drop_zero, List.reverse_cons, List.reverse_nil, List.nil_append, List.cons_append, List.all_cons, List.all_nil, ms_nl, Bool.and_true, Nat.reduceLeDiff, Nat.reduceAdd, Nat.reduceLT, Nat.reduceEqDiff, if_true, if_false, true_and, and_true, ms_rt, List.cons.injEq, exists_eq_left, exists_eq_right, exists_and_left, exists_and_right, ms_one, ite_true, ite_false, reduceIte, imp_self, Nat.zero_add, Nat.add_zero, zero_le_any, Nat.le_refl, Int.zero_add, true_or, or_true, false_implies, Int.reduceLE, Int.reduceLT, Int.reduceNeg, Int.reduceAdd, Int.reduceSub, Int.reduceMul, Int.reduceEq, not_true, not_false_iff, and_self, implies_true, false_and, and_false, or_false, false_or, bX5_marked_0, bX5_marked_1, bX5_marked_2, bX5_marked_3, bX5_marked_4, bX5_marked_5, bX5_marked_6, bX5_marked_7, lX5_marked_0, lX5_marked_1, lX5_marked_2, lX5_marked_3, lX5_marked_4, lX5_marked_5, lX5_marked_6, lX5_marked_7, qX5_marked, ↓if_eq_t, ↓if_eq_f, ↓ic_eq_t, ↓ic_eq_f, ↓if_ne_t, ↓if_ne_f, ↓ic_ne_t, ↓ic_ne_f, ↓if_lt_t, ↓if_lt_f, ↓ic_lt_t, ↓ic_lt_f, ↓if_ge_t, ↓if_ge_f, ↓ic_ge_t, ↓ic_ge_f, ↓if_gt_t, ↓if_gt_f, ↓ic_gt_t, ↓ic_gt_f, ↓if_le_t, ↓if_le_f, ↓ic_le_t, ↓ic_le_f, not_false_eq_true,  sh_b, hR, ar_40, ar_41, ar_42, hs_v, hs_hs]
    exact ⟨by omega, by omega, rg_of (by omega) (by omega), by omega, by omega, rg_of (by omega) (by omega), rg_of (by omega) (by omega), by rw [Int.add_assoc]; exact q⟩
  · simp only [sq_c, jp_s, jp_c, rc_0, rc_s, ms_ex, o_iload, o_aload, o_istore, o_astore, o_iinc, o_bin, o_div, o_rem, o_neg, o_and, o_shl, o_shr, o_dup, o_pop, o_dup2, o_if, o_icmp, o_switch, o_sw, o_get, o_put, o_iald, o_iast, o_zald, o_zast, o_aald, o_aast, o_len, ob_s, ob_n, o_call, o_max, o_min, o_copy, o_obj, o_lpush, o_ladd, o_lcmp, o_iret, o_lret, o_vret, i1_c, l1_c, r1_c, st_g0, st_g1, st_g2, st_g3, st_g4, st_g5, st_g6, st_g7, st_g8, st_g9, st_s0, st_s1, st_s2, st_s3, st_s4, st_s5, st_s6, st_s7, st_s8, st_s9, List.length_cons, List.length_nil, List.take_succ_cons, List.take_zero, List.drop_succ_cons, List.drop_zero, List.reverse_cons, List.reverse_nil, List.nil_append, List.cons_append, List.all_cons, List.all_nil, ms_nl, Bool.and_true, Nat.reduceLeDiff, Nat.reduceAdd, Nat.reduceLT, Nat.reduceEqDiff, if_true, if_false, true_and, and_true, ms_rt, List.cons.injEq, exists_eq_left, exists_eq_right, exists_and_left, exists_and_right, ms_one, ite_true, ite_false, reduceIte, imp_self, Nat.zero_add, Nat.add_zero, zero_le_any, Nat.le_refl, Int.zero_add, true_or, or_true, false_implies, Int.reduceLE, Int.reduceLT, Int.reduceNeg, Int.reduceAdd, Int.reduceSub, Int.reduceMul, Int.reduceEq, not_true, not_false_iff, and_self, implies_true, false_and, and_false, or_false, false_or, bX5_marked_0, bX5_marked_1, bX5_marked_2, bX5_marked_3, bX5_marked_4, bX5_marked_5, bX5_marked_6, bX5_marked_7, lX5_marked_0, lX5_marked_1, lX5_marked_2, lX5_marked_3, lX5_marked_4, lX5_marked_5, lX5_marked_6, lX5_marked_7, qX5_marked, ↓if_eq_t, ↓if_eq_f, ↓ic_eq_t, ↓ic_eq_f, ↓if_ne_t, ↓if_ne_f, ↓ic_ne_t, ↓ic_ne_f, ↓if_lt_t, ↓if_lt_f, ↓ic_lt_t, ↓ic_lt_f, ↓if_ge_t, ↓if_ge_f, ↓ic_ge_t, ↓ic_ge_f, ↓if_gt_t, ↓if_gt_f, ↓ic_gt_t, ↓ic_gt_f, ↓if_le_t, ↓if_le_f, ↓ic_le_t, ↓ic_le_f, not_false_eq_true,  sh_b, hR, ar_40, ar_41, ar_42, hs_v, hs_hs]
    exact ⟨by omega, by omega, rg_of (by omega) (by omega), by omega, by omega, rg_of (by omega) (by omega), rg_of (by omega) (by omega), rg_of (by omega) (by omega), rg_of (by omega) (by omega), by rw [Int.add_assoc, Int.add_assoc]; exact q⟩
  · simp only [sq_c, jp_s, jp_c, rc_0, rc_s, ms_ex, o_iload, o_aload, o_istore, o_astore, o_iinc, o_bin, o_div, o_rem, o_neg, o_and, o_shl, o_shr, o_dup, o_pop, o_dup2, o_if, o_icmp, o_switch, o_sw, o_get, o_put, o_iald, o_iast, o_zald, o_zast, o_aald, o_aast, o_len, ob_s, ob_n, o_call, o_max, o_min, o_copy, o_obj, o_lpush, o_ladd, o_lcmp, o_iret, o_lret, o_vret, i1_c, l1_c, r1_c, st_g0, st_g1, st_g2, st_g3, st_g4, st_g5, st_g6, st_g7, st_g8, st_g9, st_s0, st_s1, st_s2, st_s3, st_s4, st_s5, st_s6, st_s7, st_s8, st_s9, List.length_cons, List.length_nil, List.take_succ_cons, List.take_zero, List.drop_succ_cons, List.drop_zero, List.reverse_cons, List.reverse_nil, List.nil_append, List.cons_append, List.all_cons, List.all_nil, ms_nl, Bool.and_true, Nat.reduceLeDiff, Nat.reduceAdd, Nat.reduceLT, Nat.reduceEqDiff, if_true, if_false, true_and, and_true, ms_rt, List.cons.injEq, exists_eq_left, exists_eq_right, exists_and_left, exists_and_right, ms_one, ite_true, ite_false, reduceIte, imp_self, Nat.zero_add, Nat.add_zero, zero_le_any, Nat.le_refl, Int.zero_add, true_or, or_true, false_implies, Int.reduceLE, Int.reduceLT, Int.reduceNeg, Int.reduceAdd, Int.reduceSub, Int.reduceMul, Int.reduceEq, not_true, not_false_iff, and_self, implies_true, false_and, and_false, or_false, false_or, bX5_marked_0, bX5_marked_1, bX5_marked_2, bX5_marked_3, bX5_marked_4, bX5_marked_5, bX5_marked_6, bX5_marked_7, lX5_marked_0, lX5_marked_1, lX5_marked_2, lX5_marked_3, lX5_marked_4, lX5_marked_5, lX5_marked_6, lX5_marked_7, qX5_marked, ↓if_eq_t, ↓if_eq_f, ↓ic_eq_t, ↓ic_eq_f, ↓if_ne_t, ↓if_ne_f, ↓ic_ne_t, ↓ic_ne_f, ↓if_lt_t, ↓if_lt_f, ↓ic_lt_t, ↓ic_lt_f, ↓if_ge_t, ↓if_ge_f, ↓ic_ge_t, ↓ic_ge_f, ↓if_gt_t, ↓if_gt_f, ↓ic_gt_t, ↓ic_gt_f, ↓if_le_t, ↓if_le_f, ↓ic_le_t, ↓ic_le_f, not_false_eq_true,  sh_b, hR, ar_40, ar_41, ar_42, hs_v, hs_hs]
    exact ⟨by omega, by omega, rg_of (by omega) (by omega), by omega, by omega, rg_of (by omega) (by omega), rg_of (by omega) (by omega), rg_of (by omega) (by omega), rg_of (by omega) (by omega), by rw [Int.add_assoc, Int.add_assoc]; exact q⟩
  · simp only [sq_c, jp_s, jp_c, rc_0, rc_s, ms_ex, o_iload, o_aload, o_istore, o_astore, o_iinc, o_bin, o_div, o_rem, o_neg, o_and, o_shl, o_shr, o_dup, o_pop, o_dup2, o_if, o_icmp, o_switch, o_sw, o_get, o_put, o_iald, o_iast, o_zald, o_zast, o_aald, o_aast, o_len, ob_s, ob_n, o_call, o_max, o_min, o_copy, o_obj, o_lpush, o_ladd, o_lcmp, o_iret, o_lret, o_vret, i1_c, l1_c, r1_c, st_g0, st_g1, st_g2, st_g3, st_g4, st_g5, st_g6, st_g7, st_g8, st_g9, st_s0, st_s1, st_s2, st_s3, st_s4, st_s5, st_s6, st_s7, st_s8, st_s9, List.length_cons, List.length_nil, List.take_succ_cons, List.take_zero, List.drop_succ_cons, List.drop_zero, List.reverse_cons, List.reverse_nil, List.nil_append, List.cons_append, List.all_cons, List.all_nil, ms_nl, Bool.and_true, Nat.reduceLeDiff, Nat.reduceAdd, Nat.reduceLT, Nat.reduceEqDiff, if_true, if_false, true_and, and_true, ms_rt, List.cons.injEq, exists_eq_left, exists_eq_right, exists_and_left, exists_and_right, ms_one, ite_true, ite_false, reduceIte, imp_self, Nat.zero_add, Nat.add_zero, zero_le_any, Nat.le_refl, Int.zero_add, true_or, or_true, false_implies, Int.reduceLE, Int.reduceLT, Int.reduceNeg, Int.reduceAdd, Int.reduceSub, Int.reduceMul, Int.reduceEq, not_true, not_false_iff, and_self, implies_true, false_and, and_false, or_false, false_or, bX5_marked_0, bX5_marked_1, bX5_marked_2, bX5_marked_3, bX5_marked_4, bX5_marked_5, bX5_marked_6, bX5_marked_7, lX5_marked_0, lX5_marked_1, lX5_marked_2, lX5_marked_3, lX5_marked_4, lX5_marked_5, lX5_marked_6, lX5_marked_7, qX5_marked, ↓if_eq_t, ↓if_eq_f, ↓ic_eq_t, ↓ic_eq_f, ↓if_ne_t, ↓if_ne_f, ↓ic_ne_t, ↓ic_ne_f, ↓if_lt_t, ↓if_lt_f, ↓ic_lt_t, ↓ic_lt_f, ↓if_ge_t, ↓if_ge_f, ↓ic_ge_t, ↓ic_ge_f, ↓if_gt_t, ↓if_gt_f, ↓ic_gt_t, ↓ic_gt_f, ↓if_le_t, ↓if_le_f, ↓ic_le_t, ↓ic_le_f, not_false_eq_true,  sh_b, hR, ar_40, ar_41, ar_42, hs_v, hs_hs]
    refine ⟨by omega, by omega, rg_of (by omega) (by omega), ?_⟩
    have e1 : mT (hs h 38 16 (h 38 16 + 1)) = mT h := by
      unfold mT
      have : hs h 38 16 (h 38 16 + 1) 45 = h 45 := by funext b; rw [hs_v, if_neg (by omega)]
      rw [this]
      simp only [hs_v, Int.reduceEq, and_false, if_false]
    have e2 : hs h 38 16 (h 38 16 + 1) 40 c = h 40 c := by rw [hs_v, if_neg (by omega)]
    refine m_edge (MV_hs hv (by omega)) (by rw [hs_v, if_neg (by omega)]; exact hc) ?_
    rw [e1, e2]
    simp only [sq_c, jp_s, jp_c, rc_0, rc_s, ms_ex, o_iload, o_aload, o_istore, o_astore, o_iinc, o_bin, o_div, o_rem, o_neg, o_and, o_shl, o_shr, o_dup, o_pop, o_dup2, o_if, o_icmp, o_switch, o_sw, o_get, o_put, o_iald, o_iast, o_zald, o_zast, o_aald, o_aast, o_len, ob_s, ob_n, o_call, o_max, o_min, o_copy, o_obj, o_lpush, o_ladd, o_lcmp, o_iret, o_lret, o_vret, i1_c, l1_c, r1_c, st_g0, st_g1, st_g2, st_g3, st_g4, st_g5, st_g6, st_g7, st_g8, st_g9, st_s0, st_s1, st_s2, st_s3, st_s4, st_s5, st_s6, st_s7, st_s8, st_s9, List.length_cons, List.length_nil, List.take_succ_cons, List.take_zero, List.drop_succ_cons, List.drop_zero, List.reverse_cons, List.reverse_nil, List.nil_append, List.cons_append, List.all_cons, List.all_nil, ms_nl, Bool.and_true, Nat.reduceLeDiff, Nat.reduceAdd, Nat.reduceLT, Nat.reduceEqDiff, if_true, if_false, true_and, and_true, ms_rt, List.cons.injEq, exists_eq_left, exists_eq_right, exists_and_left, exists_and_right, ms_one, ite_true, ite_false, reduceIte, imp_self, Nat.zero_add, Nat.add_zero, zero_le_any, Nat.le_refl, Int.zero_add, true_or, or_true, false_implies, Int.reduceLE, Int.reduceLT, Int.reduceNeg, Int.reduceAdd, Int.reduceSub, Int.reduceMul, Int.reduceEq, not_true, not_false_iff, and_self, implies_true, false_and, and_false, or_false, false_or, bX5_marked_0, bX5_marked_1, bX5_marked_2, bX5_marked_3, bX5_marked_4, bX5_marked_5, bX5_marked_6, bX5_marked_7, lX5_marked_0, lX5_marked_1, lX5_marked_2, lX5_marked_3, lX5_marked_4, lX5_marked_5, lX5_marked_6, lX5_marked_7, qX5_marked, ↓if_eq_t, ↓if_eq_f, ↓ic_eq_t, ↓ic_eq_f, ↓if_ne_t, ↓if_ne_f, ↓ic_ne_t, ↓ic_ne_f, ↓if_lt_t, ↓if_lt_f, ↓ic_lt_t, ↓ic_lt_f, ↓if_ge_t, ↓if_ge_f, ↓ic_ge_t, ↓ic_ge_f, ↓if_gt_t, ↓if_gt_f, ↓ic_gt_t, ↓ic_gt_f, ↓if_le_t, ↓if_le_f, ↓ic_le_t, ↓ic_le_f, not_false_eq_true,  sh_b, hR, ar_40, ar_41, ar_42, hs_v, hs_hs]
    exact ⟨rg_of (by omega) (by omega), rg_of (by omega) (by omega), by rw [Int.add_assoc]; exact q⟩
theorem m_mark {d : Nat} {kd c : Int} {h : ms_H} {Q : ms_Q} (hv : MV h) (ht : 0 ≤ h 38 16 ∧ h 38 16 ≤ 2000000000) (q1 : ¬ ((0 ≤ kd ∧ kd ≤ 5) ∧ 0 ≤ c ∧ c < h 38 0) → Q (some (mI (-1000000))) SH h) (q2 : (0 ≤ kd ∧ kd ≤ 5) → (0 ≤ c ∧ c < h 38 0) → Q (some (mI (if kd = 0 then h 40 c else if kd = 1 then h 40 c + h 41 c else if kd = 2 then h 40 c - h 42 c else if kd = 3 then (h 40 c + h 41 c) * 2 else if kd = 4 then h 40 c - h 42 c + c else h 40 c + cl (mT h - h 40 c)))) SH (hs h 38 16 (h 38 16 + (if kd = 0 then 1 else if kd = 1 then 11 else if kd = 2 then 101 else if kd = 3 then 1011 else if kd = 4 then 10101 else 100001)))) : ms_Ok ms_P (d + 7) 156 [mR 38, mI kd, mI c] SH (h) Q := by
  refine ok_in (k := 30) MX5_mark rfl rfl ?_
  show sq (ms_Ok ms_P (d + 6)) ms_X1 MX5_mark Q 30 (M_bl MX5_mark 0) [mR 38, mI kd, mI c] [] (SH, 0, 0) (h)
  simp only [sq_c, jp_s, jp_c, rc_0, rc_s, ms_ex, o_iload, o_aload, o_istore, o_astore, o_iinc, o_bin, o_div, o_rem, o_neg, o_and, o_shl, o_shr, o_dup, o_pop, o_dup2, o_if, o_icmp, o_switch, o_sw, o_get, o_put, o_iald, o_iast, o_zald, o_zast, o_aald, o_aast, o_len, ob_s, ob_n, o_call, o_max, o_min, o_copy, o_obj, o_lpush, o_ladd, o_lcmp, o_iret, o_lret, o_vret, i1_c, l1_c, r1_c, st_g0, st_g1, st_g2, st_g3, st_g4, st_g5, st_g6, st_g7, st_g8, st_g9, st_s0, st_s1, st_s2, st_s3, st_s4, st_s5, st_s6, st_s7, st_s8, st_s9, List.length_cons, List.length_nil, List.take_succ_cons, List.take_zero, List.drop_succ_cons, List.drop_zero, List.reverse_cons, List.reverse_nil, List.nil_append, List.cons_append, List.all_cons, List.all_nil, ms_nl, Bool.and_true, Nat.reduceLeDiff, Nat.reduceAdd, Nat.reduceLT, Nat.reduceEqDiff, if_true, if_false, true_and, and_true, ms_rt, List.cons.injEq, exists_eq_left, exists_eq_right, exists_and_left, exists_and_right, ms_one, ite_true, ite_false, reduceIte, imp_self, Nat.zero_add, Nat.add_zero, zero_le_any, Nat.le_refl, Int.zero_add, true_or, or_true, false_implies, Int.reduceLE, Int.reduceLT, Int.reduceNeg, Int.reduceAdd, Int.reduceSub, Int.reduceMul, Int.reduceEq, not_true, not_false_iff, and_self, implies_true, false_and, and_false, or_false, false_or, bX5_mark_0, bX5_mark_1, bX5_mark_2, lX5_mark_0, lX5_mark_1, lX5_mark_2, qX5_mark, sh_b]
  refine m_in (fun r hr => ?_)
  simp only [sq_c, jp_s, jp_c, rc_0, rc_s, ms_ex, o_iload, o_aload, o_istore, o_astore, o_iinc, o_bin, o_div, o_rem, o_neg, o_and, o_shl, o_shr, o_dup, o_pop, o_dup2, o_if, o_icmp, o_switch, o_sw, o_get, o_put, o_iald, o_iast, o_zald, o_zast, o_aald, o_aast, o_len, ob_s, ob_n, o_call, o_max, o_min, o_copy, o_obj, o_lpush, o_ladd, o_lcmp, o_iret, o_lret, o_vret, i1_c, l1_c, r1_c, st_g0, st_g1, st_g2, st_g3, st_g4, st_g5, st_g6, st_g7, st_g8, st_g9, st_s0, st_s1, st_s2, st_s3, st_s4, st_s5, st_s6, st_s7, st_s8, st_s9, List.length_cons, List.length_nil, List.take_succ_cons, List.take_zero, List.drop_succ_cons, List.drop_zero, List.reverse_cons, List.reverse_nil, List.nil_append, List.cons_append, List.all_cons, List.all_nil, ms_nl, Bool.and_true, Nat.reduceLeDiff, Nat.reduceAdd, Nat.reduceLT, Nat.reduceEqDiff, if_true, if_false, true_and, and_true, ms_rt, List.cons.injEq, exists_eq_left, exists_eq_right, exists_and_left, exists_and_right, ms_one, ite_true, ite_false, reduceIte, imp_self, Nat.zero_add, Nat.add_zero, zero_le_any, Nat.le_refl, Int.zero_add, true_or, or_true, false_implies, Int.reduceLE, Int.reduceLT, Int.reduceNeg, Int.reduceAdd, Int.reduceSub, Int.reduceMul, Int.reduceEq, not_true, not_false_iff, and_self, implies_true, false_and, and_false, or_false, false_or, bX5_mark_0, bX5_mark_1, bX5_mark_2, lX5_mark_0, lX5_mark_1, lX5_mark_2, qX5_mark, sh_b]
  refine ⟨fun h1 => q1 (fun z => bf hr h1 z.1), fun h1 => ?_⟩
  refine m_isColumn hv (fun r2 hr2 => ?_)
  simp only [sq_c, jp_s, jp_c, rc_0, rc_s, ms_ex, o_iload, o_aload, o_istore, o_astore, o_iinc, o_bin, o_div, o_rem, o_neg, o_and, o_shl, o_shr, o_dup, o_pop, o_dup2, o_if, o_icmp, o_switch, o_sw, o_get, o_put, o_iald, o_iast, o_zald, o_zast, o_aald, o_aast, o_len, ob_s, ob_n, o_call, o_max, o_min, o_copy, o_obj, o_lpush, o_ladd, o_lcmp, o_iret, o_lret, o_vret, i1_c, l1_c, r1_c, st_g0, st_g1, st_g2, st_g3, st_g4, st_g5, st_g6, st_g7, st_g8, st_g9, st_s0, st_s1, st_s2, st_s3, st_s4, st_s5, st_s6, st_s7, st_s8, st_s9, List.length_cons, List.length_nil, List.take_succ_cons, List.take_zero, List.drop_succ_cons, List.drop_zero, List.reverse_cons, List.reverse_nil, List.nil_append, List.cons_append, List.all_cons, List.all_nil, ms_nl, Bool.and_true, Nat.reduceLeDiff, Nat.reduceAdd, Nat.reduceLT, Nat.reduceEqDiff, if_true, if_false, true_and, and_true, ms_rt, List.cons.injEq, exists_eq_left, exists_eq_right, exists_and_left, exists_and_right, ms_one, ite_true, ite_false, reduceIte, imp_self, Nat.zero_add, Nat.add_zero, zero_le_any, Nat.le_refl, Int.zero_add, true_or, or_true, false_implies, Int.reduceLE, Int.reduceLT, Int.reduceNeg, Int.reduceAdd, Int.reduceSub, Int.reduceMul, Int.reduceEq, not_true, not_false_iff, and_self, implies_true, false_and, and_false, or_false, false_or, bX5_mark_0, bX5_mark_1, bX5_mark_2, lX5_mark_0, lX5_mark_1, lX5_mark_2, qX5_mark, sh_b]
  refine ⟨fun h2 => q1 (fun z => bf hr2 h2 z.2), fun h2 => ?_⟩
  refine m_marked hv (bt hr h1) (bt hr2 h2) ht ?_
  simp only [sq_c, jp_s, jp_c, rc_0, rc_s, ms_ex, o_iload, o_aload, o_istore, o_astore, o_iinc, o_bin, o_div, o_rem, o_neg, o_and, o_shl, o_shr, o_dup, o_pop, o_dup2, o_if, o_icmp, o_switch, o_sw, o_get, o_put, o_iald, o_iast, o_zald, o_zast, o_aald, o_aast, o_len, ob_s, ob_n, o_call, o_max, o_min, o_copy, o_obj, o_lpush, o_ladd, o_lcmp, o_iret, o_lret, o_vret, i1_c, l1_c, r1_c, st_g0, st_g1, st_g2, st_g3, st_g4, st_g5, st_g6, st_g7, st_g8, st_g9, st_s0, st_s1, st_s2, st_s3, st_s4, st_s5, st_s6, st_s7, st_s8, st_s9, List.length_cons, List.length_nil, List.take_succ_cons, List.take_zero, List.drop_succ_cons, List.drop_zero, List.reverse_cons, List.reverse_nil, List.nil_append, List.cons_append, List.all_cons, List.all_nil, ms_nl, Bool.and_true, Nat.reduceLeDiff, Nat.reduceAdd, Nat.reduceLT, Nat.reduceEqDiff, if_true, if_false, true_and, and_true, ms_rt, List.cons.injEq, exists_eq_left, exists_eq_right, exists_and_left, exists_and_right, ms_one, ite_true, ite_false, reduceIte, imp_self, Nat.zero_add, Nat.add_zero, zero_le_any, Nat.le_refl, Int.zero_add, true_or, or_true, false_implies, Int.reduceLE, Int.reduceLT, Int.reduceNeg, Int.reduceAdd, Int.reduceSub, Int.reduceMul, Int.reduceEq, not_true, not_false_iff, and_self, implies_true, false_and, and_false, or_false, false_or, bX5_mark_0, bX5_mark_1, bX5_mark_2, lX5_mark_0, lX5_mark_1, lX5_mark_2, qX5_mark, sh_b]
  exact q2 (bt hr h1) (bt hr2 h2)
end
