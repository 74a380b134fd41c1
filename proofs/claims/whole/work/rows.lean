section
-- ===== PART A: goes FIRST, ahead of the names: the tables' words, and 'selects' of the private methods out of them =====
/-- a private method of a class that the tables say can be made, by its rows of tables_1 -/
def lw_okq (q : MethodName × Nat) : Prop := (q.1.cls ≠ "java/lang/invoke/MethodHandle" ∧ q.1.cls ≠ "java/lang/invoke/VarHandle") ∧ Cond.instantiable q.1.cls q.2 ∈ tables_1 ∧ Cond.privateMethod q.1 ∈ tables_1 ∧ Cond.instanceMethod q.1 ∈ tables_1
theorem lw_p0 : lw_okq (⟨"SleetLine$Text", "take", "()V"⟩, 9) := ⟨⟨by decide +kernel, by decide +kernel⟩, List.mem_of_getElem? (i := 19) (by decide +kernel), List.mem_of_getElem? (i := 241) (by decide +kernel), List.mem_of_getElem? (i := 242) (by decide +kernel)⟩
theorem lw_p1 : lw_okq (⟨"SleetLine$Text", "takeLetters", "()V"⟩, 9) := ⟨⟨by decide +kernel, by decide +kernel⟩, List.mem_of_getElem? (i := 19) (by decide +kernel), List.mem_of_getElem? (i := 246) (by decide +kernel), List.mem_of_getElem? (i := 247) (by decide +kernel)⟩
theorem lw_p2 : lw_okq (⟨"SleetLine$Text", "takeNumber", "()V"⟩, 9) := ⟨⟨by decide +kernel, by decide +kernel⟩, List.mem_of_getElem? (i := 19) (by decide +kernel), List.mem_of_getElem? (i := 250) (by decide +kernel), List.mem_of_getElem? (i := 251) (by decide +kernel)⟩
theorem lw_p3 : lw_okq (⟨"SleetLine$Text", "readItem", "(LSleetLine$Wold;)Z"⟩, 9) := ⟨⟨by decide +kernel, by decide +kernel⟩, List.mem_of_getElem? (i := 19) (by decide +kernel), List.mem_of_getElem? (i := 254) (by decide +kernel), List.mem_of_getElem? (i := 255) (by decide +kernel)⟩
theorem lw_p4 : lw_okq (⟨"SleetLine$Text", "readColumn", "(LSleetLine$Wold;)Z"⟩, 9) := ⟨⟨by decide +kernel, by decide +kernel⟩, List.mem_of_getElem? (i := 19) (by decide +kernel), List.mem_of_getElem? (i := 258) (by decide +kernel), List.mem_of_getElem? (i := 259) (by decide +kernel)⟩
theorem lw_p5 : lw_okq (⟨"SleetLine$Text", "number", "(III)Z"⟩, 9) := ⟨⟨by decide +kernel, by decide +kernel⟩, List.mem_of_getElem? (i := 19) (by decide +kernel), List.mem_of_getElem? (i := 262) (by decide +kernel), List.mem_of_getElem? (i := 263) (by decide +kernel)⟩
theorem lw_p6 : lw_okq (⟨"SleetLine$Text", "ended", "()Z"⟩, 9) := ⟨⟨by decide +kernel, by decide +kernel⟩, List.mem_of_getElem? (i := 19) (by decide +kernel), List.mem_of_getElem? (i := 266) (by decide +kernel), List.mem_of_getElem? (i := 267) (by decide +kernel)⟩
theorem lw_p7 : lw_okq (⟨"SleetLine$Text", "readGap", "(LSleetLine$Wold;)Z"⟩, 9) := ⟨⟨by decide +kernel, by decide +kernel⟩, List.mem_of_getElem? (i := 19) (by decide +kernel), List.mem_of_getElem? (i := 274) (by decide +kernel), List.mem_of_getElem? (i := 275) (by decide +kernel)⟩
theorem lw_p8 : lw_okq (⟨"SleetLine$Text", "readHands", "(LSleetLine$Wold;)Z"⟩, 9) := ⟨⟨by decide +kernel, by decide +kernel⟩, List.mem_of_getElem? (i := 19) (by decide +kernel), List.mem_of_getElem? (i := 278) (by decide +kernel), List.mem_of_getElem? (i := 279) (by decide +kernel)⟩
theorem lw_p9 : lw_okq (⟨"SleetLine$Text", "readVoter", "(LSleetLine$Wold;)Z"⟩, 9) := ⟨⟨by decide +kernel, by decide +kernel⟩, List.mem_of_getElem? (i := 19) (by decide +kernel), List.mem_of_getElem? (i := 282) (by decide +kernel), List.mem_of_getElem? (i := 283) (by decide +kernel)⟩
theorem lw_p10 : lw_okq (⟨"SleetLine$Text", "readDay", "(LSleetLine$Wold;)Z"⟩, 9) := ⟨⟨by decide +kernel, by decide +kernel⟩, List.mem_of_getElem? (i := 19) (by decide +kernel), List.mem_of_getElem? (i := 290) (by decide +kernel), List.mem_of_getElem? (i := 291) (by decide +kernel)⟩
theorem lw_p11 : lw_okq (⟨"SleetLine", "hearNothing", "()V"⟩, 11) := ⟨⟨by decide +kernel, by decide +kernel⟩, List.mem_of_getElem? (i := 11) (by decide +kernel), List.mem_of_getElem? (i := 302) (by decide +kernel), List.mem_of_getElem? (i := 303) (by decide +kernel)⟩
theorem lw_p12 : lw_okq (⟨"SleetLine", "isColumn", "(I)Z"⟩, 11) := ⟨⟨by decide +kernel, by decide +kernel⟩, List.mem_of_getElem? (i := 11) (by decide +kernel), List.mem_of_getElem? (i := 310) (by decide +kernel), List.mem_of_getElem? (i := 311) (by decide +kernel)⟩
theorem lw_p13 : lw_okq (⟨"SleetLine", "edge", "(I)I"⟩, 11) := ⟨⟨by decide +kernel, by decide +kernel⟩, List.mem_of_getElem? (i := 11) (by decide +kernel), List.mem_of_getElem? (i := 314) (by decide +kernel), List.mem_of_getElem? (i := 315) (by decide +kernel)⟩
theorem lw_p14 : lw_okq (⟨"SleetLine", "lowestUpTo", "(II)I"⟩, 11) := ⟨⟨by decide +kernel, by decide +kernel⟩, List.mem_of_getElem? (i := 11) (by decide +kernel), List.mem_of_getElem? (i := 318) (by decide +kernel), List.mem_of_getElem? (i := 319) (by decide +kernel)⟩
theorem lw_p15 : lw_okq (⟨"SleetLine", "mild", "(II)I"⟩, 11) := ⟨⟨by decide +kernel, by decide +kernel⟩, List.mem_of_getElem? (i := 11) (by decide +kernel), List.mem_of_getElem? (i := 322) (by decide +kernel), List.mem_of_getElem? (i := 323) (by decide +kernel)⟩
def lw_privs_1 : List (MethodName × Nat) := [(⟨"SleetLine$Text", "take", "()V"⟩, 9), (⟨"SleetLine$Text", "takeLetters", "()V"⟩, 9), (⟨"SleetLine$Text", "takeNumber", "()V"⟩, 9), (⟨"SleetLine$Text", "readItem", "(LSleetLine$Wold;)Z"⟩, 9), (⟨"SleetLine$Text", "readColumn", "(LSleetLine$Wold;)Z"⟩, 9), (⟨"SleetLine$Text", "number", "(III)Z"⟩, 9), (⟨"SleetLine$Text", "ended", "()Z"⟩, 9), (⟨"SleetLine$Text", "readGap", "(LSleetLine$Wold;)Z"⟩, 9), (⟨"SleetLine$Text", "readHands", "(LSleetLine$Wold;)Z"⟩, 9), (⟨"SleetLine$Text", "readVoter", "(LSleetLine$Wold;)Z"⟩, 9), (⟨"SleetLine$Text", "readDay", "(LSleetLine$Wold;)Z"⟩, 9), (⟨"SleetLine", "hearNothing", "()V"⟩, 11), (⟨"SleetLine", "isColumn", "(I)Z"⟩, 11), (⟨"SleetLine", "edge", "(I)I"⟩, 11), (⟨"SleetLine", "lowestUpTo", "(II)I"⟩, 11), (⟨"SleetLine", "mild", "(II)I"⟩, 11)]
theorem lw_r1 : ∀ q ∈ lw_privs_1, lw_okq q := List.forall_mem_cons.mpr ⟨lw_p0, List.forall_mem_cons.mpr ⟨lw_p1, List.forall_mem_cons.mpr ⟨lw_p2, List.forall_mem_cons.mpr ⟨lw_p3, List.forall_mem_cons.mpr ⟨lw_p4, List.forall_mem_cons.mpr ⟨lw_p5, List.forall_mem_cons.mpr ⟨lw_p6, List.forall_mem_cons.mpr ⟨lw_p7, List.forall_mem_cons.mpr ⟨lw_p8, List.forall_mem_cons.mpr ⟨lw_p9, List.forall_mem_cons.mpr ⟨lw_p10, List.forall_mem_cons.mpr ⟨lw_p11, List.forall_mem_cons.mpr ⟨lw_p12, List.forall_mem_cons.mpr ⟨lw_p13, List.forall_mem_cons.mpr ⟨lw_p14, List.forall_mem_cons.mpr ⟨lw_p15, fun _ h => absurd h List.not_mem_nil⟩⟩⟩⟩⟩⟩⟩⟩⟩⟩⟩⟩⟩⟩⟩⟩
theorem lw_p16 : lw_okq (⟨"SleetLine", "warmToday", "()I"⟩, 11) := ⟨⟨by decide +kernel, by decide +kernel⟩, List.mem_of_getElem? (i := 11) (by decide +kernel), List.mem_of_getElem? (i := 326) (by decide +kernel), List.mem_of_getElem? (i := 327) (by decide +kernel)⟩
theorem lw_p17 : lw_okq (⟨"SleetLine", "wet", "(I)I"⟩, 11) := ⟨⟨by decide +kernel, by decide +kernel⟩, List.mem_of_getElem? (i := 11) (by decide +kernel), List.mem_of_getElem? (i := 334) (by decide +kernel), List.mem_of_getElem? (i := 335) (by decide +kernel)⟩
theorem lw_p18 : lw_okq (⟨"SleetLine", "claim", "(II)I"⟩, 11) := ⟨⟨by decide +kernel, by decide +kernel⟩, List.mem_of_getElem? (i := 11) (by decide +kernel), List.mem_of_getElem? (i := 338) (by decide +kernel), List.mem_of_getElem? (i := 339) (by decide +kernel)⟩
theorem lw_p19 : lw_okq (⟨"SleetLine", "halves", "(IZ)I"⟩, 11) := ⟨⟨by decide +kernel, by decide +kernel⟩, List.mem_of_getElem? (i := 11) (by decide +kernel), List.mem_of_getElem? (i := 342) (by decide +kernel), List.mem_of_getElem? (i := 343) (by decide +kernel)⟩
theorem lw_p20 : lw_okq (⟨"SleetLine", "isField", "(II)Z"⟩, 11) := ⟨⟨by decide +kernel, by decide +kernel⟩, List.mem_of_getElem? (i := 11) (by decide +kernel), List.mem_of_getElem? (i := 353) (by decide +kernel), List.mem_of_getElem? (i := 354) (by decide +kernel)⟩
theorem lw_p21 : lw_okq (⟨"SleetLine", "falls", "(II)I"⟩, 11) := ⟨⟨by decide +kernel, by decide +kernel⟩, List.mem_of_getElem? (i := 11) (by decide +kernel), List.mem_of_getElem? (i := 358) (by decide +kernel), List.mem_of_getElem? (i := 359) (by decide +kernel)⟩
theorem lw_p22 : lw_okq (⟨"SleetLine", "isVoter", "(I)Z"⟩, 11) := ⟨⟨by decide +kernel, by decide +kernel⟩, List.mem_of_getElem? (i := 11) (by decide +kernel), List.mem_of_getElem? (i := 366) (by decide +kernel), List.mem_of_getElem? (i := 367) (by decide +kernel)⟩
theorem lw_p23 : lw_okq (⟨"SleetLine$Now", "loseOldest", "()V"⟩, 7) := ⟨⟨by decide +kernel, by decide +kernel⟩, List.mem_of_getElem? (i := 146) (by decide +kernel), List.mem_of_getElem? (i := 378) (by decide +kernel), List.mem_of_getElem? (i := 379) (by decide +kernel)⟩
theorem lw_p24 : lw_okq (⟨"SleetLine", "snowyFields", "(I)I"⟩, 11) := ⟨⟨by decide +kernel, by decide +kernel⟩, List.mem_of_getElem? (i := 11) (by decide +kernel), List.mem_of_getElem? (i := 389) (by decide +kernel), List.mem_of_getElem? (i := 390) (by decide +kernel)⟩
theorem lw_p25 : lw_okq (⟨"SleetLine", "rainyFields", "()I"⟩, 11) := ⟨⟨by decide +kernel, by decide +kernel⟩, List.mem_of_getElem? (i := 11) (by decide +kernel), List.mem_of_getElem? (i := 419) (by decide +kernel), List.mem_of_getElem? (i := 420) (by decide +kernel)⟩
theorem lw_p26 : lw_okq (⟨"SleetLine", "widest", "()I"⟩, 11) := ⟨⟨by decide +kernel, by decide +kernel⟩, List.mem_of_getElem? (i := 11) (by decide +kernel), List.mem_of_getElem? (i := 423) (by decide +kernel), List.mem_of_getElem? (i := 424) (by decide +kernel)⟩
theorem lw_p27 : lw_okq (⟨"SleetLine", "vote", "()I"⟩, 11) := ⟨⟨by decide +kernel, by decide +kernel⟩, List.mem_of_getElem? (i := 11) (by decide +kernel), List.mem_of_getElem? (i := 431) (by decide +kernel), List.mem_of_getElem? (i := 432) (by decide +kernel)⟩
theorem lw_p28 : lw_okq (⟨"SleetLine$Lines", "judgeOne", "(III)V"⟩, 7) := ⟨⟨by decide +kernel, by decide +kernel⟩, List.mem_of_getElem? (i := 113) (by decide +kernel), List.mem_of_getElem? (i := 450) (by decide +kernel), List.mem_of_getElem? (i := 451) (by decide +kernel)⟩
theorem lw_p29 : lw_okq (⟨"SleetLine", "decidedOrders", "(I)I"⟩, 11) := ⟨⟨by decide +kernel, by decide +kernel⟩, List.mem_of_getElem? (i := 11) (by decide +kernel), List.mem_of_getElem? (i := 464) (by decide +kernel), List.mem_of_getElem? (i := 465) (by decide +kernel)⟩
theorem lw_p30 : lw_okq (⟨"SleetLine", "weightOf", "(I)I"⟩, 11) := ⟨⟨by decide +kernel, by decide +kernel⟩, List.mem_of_getElem? (i := 11) (by decide +kernel), List.mem_of_getElem? (i := 468) (by decide +kernel), List.mem_of_getElem? (i := 469) (by decide +kernel)⟩
theorem lw_p31 : lw_okq (⟨"SleetLine", "warmths", "()I"⟩, 11) := ⟨⟨by decide +kernel, by decide +kernel⟩, List.mem_of_getElem? (i := 11) (by decide +kernel), List.mem_of_getElem? (i := 513) (by decide +kernel), List.mem_of_getElem? (i := 514) (by decide +kernel)⟩
def lw_privs_2 : List (MethodName × Nat) := [(⟨"SleetLine", "warmToday", "()I"⟩, 11), (⟨"SleetLine", "wet", "(I)I"⟩, 11), (⟨"SleetLine", "claim", "(II)I"⟩, 11), (⟨"SleetLine", "halves", "(IZ)I"⟩, 11), (⟨"SleetLine", "isField", "(II)Z"⟩, 11), (⟨"SleetLine", "falls", "(II)I"⟩, 11), (⟨"SleetLine", "isVoter", "(I)Z"⟩, 11), (⟨"SleetLine$Now", "loseOldest", "()V"⟩, 7), (⟨"SleetLine", "snowyFields", "(I)I"⟩, 11), (⟨"SleetLine", "rainyFields", "()I"⟩, 11), (⟨"SleetLine", "widest", "()I"⟩, 11), (⟨"SleetLine", "vote", "()I"⟩, 11), (⟨"SleetLine$Lines", "judgeOne", "(III)V"⟩, 7), (⟨"SleetLine", "decidedOrders", "(I)I"⟩, 11), (⟨"SleetLine", "weightOf", "(I)I"⟩, 11), (⟨"SleetLine", "warmths", "()I"⟩, 11)]
theorem lw_r2 : ∀ q ∈ lw_privs_2, lw_okq q := List.forall_mem_cons.mpr ⟨lw_p16, List.forall_mem_cons.mpr ⟨lw_p17, List.forall_mem_cons.mpr ⟨lw_p18, List.forall_mem_cons.mpr ⟨lw_p19, List.forall_mem_cons.mpr ⟨lw_p20, List.forall_mem_cons.mpr ⟨lw_p21, List.forall_mem_cons.mpr ⟨lw_p22, List.forall_mem_cons.mpr ⟨lw_p23, List.forall_mem_cons.mpr ⟨lw_p24, List.forall_mem_cons.mpr ⟨lw_p25, List.forall_mem_cons.mpr ⟨lw_p26, List.forall_mem_cons.mpr ⟨lw_p27, List.forall_mem_cons.mpr ⟨lw_p28, List.forall_mem_cons.mpr ⟨lw_p29, List.forall_mem_cons.mpr ⟨lw_p30, List.forall_mem_cons.mpr ⟨lw_p31, fun _ h => absurd h List.not_mem_nil⟩⟩⟩⟩⟩⟩⟩⟩⟩⟩⟩⟩⟩⟩⟩⟩
theorem lw_p32 : lw_okq (⟨"SleetLine", "greaterPart", "(II)I"⟩, 11) := ⟨⟨by decide +kernel, by decide +kernel⟩, List.mem_of_getElem? (i := 11) (by decide +kernel), List.mem_of_getElem? (i := 521) (by decide +kernel), List.mem_of_getElem? (i := 522) (by decide +kernel)⟩
theorem lw_p33 : lw_okq (⟨"SleetLine", "columnMark", "(I)I"⟩, 11) := ⟨⟨by decide +kernel, by decide +kernel⟩, List.mem_of_getElem? (i := 11) (by decide +kernel), List.mem_of_getElem? (i := 529) (by decide +kernel), List.mem_of_getElem? (i := 530) (by decide +kernel)⟩
theorem lw_p34 : lw_okq (⟨"SleetLine", "moorMark", "(I)I"⟩, 11) := ⟨⟨by decide +kernel, by decide +kernel⟩, List.mem_of_getElem? (i := 11) (by decide +kernel), List.mem_of_getElem? (i := 533) (by decide +kernel), List.mem_of_getElem? (i := 534) (by decide +kernel)⟩
theorem lw_p35 : lw_okq (⟨"SleetLine", "fenMark", "(I)I"⟩, 11) := ⟨⟨by decide +kernel, by decide +kernel⟩, List.mem_of_getElem? (i := 11) (by decide +kernel), List.mem_of_getElem? (i := 538) (by decide +kernel), List.mem_of_getElem? (i := 539) (by decide +kernel)⟩
theorem lw_p36 : lw_okq (⟨"SleetLine", "fellMark", "(I)I"⟩, 11) := ⟨⟨by decide +kernel, by decide +kernel⟩, List.mem_of_getElem? (i := 11) (by decide +kernel), List.mem_of_getElem? (i := 543) (by decide +kernel), List.mem_of_getElem? (i := 544) (by decide +kernel)⟩
theorem lw_p37 : lw_okq (⟨"SleetLine", "saltingMark", "(I)I"⟩, 11) := ⟨⟨by decide +kernel, by decide +kernel⟩, List.mem_of_getElem? (i := 11) (by decide +kernel), List.mem_of_getElem? (i := 548) (by decide +kernel), List.mem_of_getElem? (i := 549) (by decide +kernel)⟩
theorem lw_p38 : lw_okq (⟨"SleetLine", "woodMark", "(I)I"⟩, 11) := ⟨⟨by decide +kernel, by decide +kernel⟩, List.mem_of_getElem? (i := 11) (by decide +kernel), List.mem_of_getElem? (i := 553) (by decide +kernel), List.mem_of_getElem? (i := 554) (by decide +kernel)⟩
theorem lw_p39 : lw_okq (⟨"SleetLineModel", "skip", "()V"⟩, 37) := ⟨⟨by decide +kernel, by decide +kernel⟩, List.mem_of_getElem? (i := 578) (by decide +kernel), List.mem_of_getElem? (i := 711) (by decide +kernel), List.mem_of_getElem? (i := 712) (by decide +kernel)⟩
theorem lw_p40 : lw_okq (⟨"SleetLineModel", "here", "()I"⟩, 37) := ⟨⟨by decide +kernel, by decide +kernel⟩, List.mem_of_getElem? (i := 578) (by decide +kernel), List.mem_of_getElem? (i := 715) (by decide +kernel), List.mem_of_getElem? (i := 716) (by decide +kernel)⟩
theorem lw_p41 : lw_okq (⟨"SleetLineModel", "readsItem", "()Z"⟩, 37) := ⟨⟨by decide +kernel, by decide +kernel⟩, List.mem_of_getElem? (i := 578) (by decide +kernel), List.mem_of_getElem? (i := 719) (by decide +kernel), List.mem_of_getElem? (i := 720) (by decide +kernel)⟩
theorem lw_p42 : lw_okq (⟨"SleetLineModel", "readsColumn", "()Z"⟩, 37) := ⟨⟨by decide +kernel, by decide +kernel⟩, List.mem_of_getElem? (i := 578) (by decide +kernel), List.mem_of_getElem? (i := 723) (by decide +kernel), List.mem_of_getElem? (i := 724) (by decide +kernel)⟩
theorem lw_p43 : lw_okq (⟨"SleetLineModel", "number", "(II)Z"⟩, 37) := ⟨⟨by decide +kernel, by decide +kernel⟩, List.mem_of_getElem? (i := 578) (by decide +kernel), List.mem_of_getElem? (i := 727) (by decide +kernel), List.mem_of_getElem? (i := 728) (by decide +kernel)⟩
theorem lw_p44 : lw_okq (⟨"SleetLineModel", "ends", "()Z"⟩, 37) := ⟨⟨by decide +kernel, by decide +kernel⟩, List.mem_of_getElem? (i := 578) (by decide +kernel), List.mem_of_getElem? (i := 731) (by decide +kernel), List.mem_of_getElem? (i := 732) (by decide +kernel)⟩
theorem lw_p45 : lw_okq (⟨"SleetLineModel", "readsGap", "()Z"⟩, 37) := ⟨⟨by decide +kernel, by decide +kernel⟩, List.mem_of_getElem? (i := 578) (by decide +kernel), List.mem_of_getElem? (i := 735) (by decide +kernel), List.mem_of_getElem? (i := 736) (by decide +kernel)⟩
theorem lw_p46 : lw_okq (⟨"SleetLineModel", "readsHands", "()Z"⟩, 37) := ⟨⟨by decide +kernel, by decide +kernel⟩, List.mem_of_getElem? (i := 578) (by decide +kernel), List.mem_of_getElem? (i := 739) (by decide +kernel), List.mem_of_getElem? (i := 740) (by decide +kernel)⟩
theorem lw_p47 : lw_okq (⟨"SleetLineModel", "readsVoter", "()Z"⟩, 37) := ⟨⟨by decide +kernel, by decide +kernel⟩, List.mem_of_getElem? (i := 578) (by decide +kernel), List.mem_of_getElem? (i := 743) (by decide +kernel), List.mem_of_getElem? (i := 744) (by decide +kernel)⟩
def lw_privs_3 : List (MethodName × Nat) := [(⟨"SleetLine", "greaterPart", "(II)I"⟩, 11), (⟨"SleetLine", "columnMark", "(I)I"⟩, 11), (⟨"SleetLine", "moorMark", "(I)I"⟩, 11), (⟨"SleetLine", "fenMark", "(I)I"⟩, 11), (⟨"SleetLine", "fellMark", "(I)I"⟩, 11), (⟨"SleetLine", "saltingMark", "(I)I"⟩, 11), (⟨"SleetLine", "woodMark", "(I)I"⟩, 11), (⟨"SleetLineModel", "skip", "()V"⟩, 37), (⟨"SleetLineModel", "here", "()I"⟩, 37), (⟨"SleetLineModel", "readsItem", "()Z"⟩, 37), (⟨"SleetLineModel", "readsColumn", "()Z"⟩, 37), (⟨"SleetLineModel", "number", "(II)Z"⟩, 37), (⟨"SleetLineModel", "ends", "()Z"⟩, 37), (⟨"SleetLineModel", "readsGap", "()Z"⟩, 37), (⟨"SleetLineModel", "readsHands", "()Z"⟩, 37), (⟨"SleetLineModel", "readsVoter", "()Z"⟩, 37)]
theorem lw_r3 : ∀ q ∈ lw_privs_3, lw_okq q := List.forall_mem_cons.mpr ⟨lw_p32, List.forall_mem_cons.mpr ⟨lw_p33, List.forall_mem_cons.mpr ⟨lw_p34, List.forall_mem_cons.mpr ⟨lw_p35, List.forall_mem_cons.mpr ⟨lw_p36, List.forall_mem_cons.mpr ⟨lw_p37, List.forall_mem_cons.mpr ⟨lw_p38, List.forall_mem_cons.mpr ⟨lw_p39, List.forall_mem_cons.mpr ⟨lw_p40, List.forall_mem_cons.mpr ⟨lw_p41, List.forall_mem_cons.mpr ⟨lw_p42, List.forall_mem_cons.mpr ⟨lw_p43, List.forall_mem_cons.mpr ⟨lw_p44, List.forall_mem_cons.mpr ⟨lw_p45, List.forall_mem_cons.mpr ⟨lw_p46, List.forall_mem_cons.mpr ⟨lw_p47, fun _ h => absurd h List.not_mem_nil⟩⟩⟩⟩⟩⟩⟩⟩⟩⟩⟩⟩⟩⟩⟩⟩
theorem lw_p48 : lw_okq (⟨"SleetLineModel", "readsDay", "()Z"⟩, 37) := ⟨⟨by decide +kernel, by decide +kernel⟩, List.mem_of_getElem? (i := 578) (by decide +kernel), List.mem_of_getElem? (i := 747) (by decide +kernel), List.mem_of_getElem? (i := 748) (by decide +kernel)⟩
theorem lw_p49 : lw_okq (⟨"SleetLineModel", "comesRead", "()V"⟩, 37) := ⟨⟨by decide +kernel, by decide +kernel⟩, List.mem_of_getElem? (i := 578) (by decide +kernel), List.mem_of_getElem? (i := 751) (by decide +kernel), List.mem_of_getElem? (i := 752) (by decide +kernel)⟩
theorem lw_p50 : lw_okq (⟨"SleetLineModel", "isColumn", "(I)Z"⟩, 37) := ⟨⟨by decide +kernel, by decide +kernel⟩, List.mem_of_getElem? (i := 578) (by decide +kernel), List.mem_of_getElem? (i := 759) (by decide +kernel), List.mem_of_getElem? (i := 760) (by decide +kernel)⟩
theorem lw_p51 : lw_okq (⟨"SleetLineModel", "edge", "(I)I"⟩, 37) := ⟨⟨by decide +kernel, by decide +kernel⟩, List.mem_of_getElem? (i := 578) (by decide +kernel), List.mem_of_getElem? (i := 763) (by decide +kernel), List.mem_of_getElem? (i := 764) (by decide +kernel)⟩
theorem lw_p52 : lw_okq (⟨"SleetLineModel", "lowestBy", "(II)I"⟩, 37) := ⟨⟨by decide +kernel, by decide +kernel⟩, List.mem_of_getElem? (i := 578) (by decide +kernel), List.mem_of_getElem? (i := 767) (by decide +kernel), List.mem_of_getElem? (i := 768) (by decide +kernel)⟩
theorem lw_p53 : lw_okq (⟨"SleetLineModel", "mild", "(II)I"⟩, 37) := ⟨⟨by decide +kernel, by decide +kernel⟩, List.mem_of_getElem? (i := 578) (by decide +kernel), List.mem_of_getElem? (i := 771) (by decide +kernel), List.mem_of_getElem? (i := 772) (by decide +kernel)⟩
theorem lw_p54 : lw_okq (⟨"SleetLineModel", "warmthNow", "()I"⟩, 37) := ⟨⟨by decide +kernel, by decide +kernel⟩, List.mem_of_getElem? (i := 578) (by decide +kernel), List.mem_of_getElem? (i := 775) (by decide +kernel), List.mem_of_getElem? (i := 776) (by decide +kernel)⟩
theorem lw_p55 : lw_okq (⟨"SleetLineModel", "warmAt", "(I)I"⟩, 37) := ⟨⟨by decide +kernel, by decide +kernel⟩, List.mem_of_getElem? (i := 578) (by decide +kernel), List.mem_of_getElem? (i := 779) (by decide +kernel), List.mem_of_getElem? (i := 780) (by decide +kernel)⟩
theorem lw_p56 : lw_okq (⟨"SleetLineModel", "mildBy", "(III)I"⟩, 37) := ⟨⟨by decide +kernel, by decide +kernel⟩, List.mem_of_getElem? (i := 578) (by decide +kernel), List.mem_of_getElem? (i := 783) (by decide +kernel), List.mem_of_getElem? (i := 784) (by decide +kernel)⟩
theorem lw_p57 : lw_okq (⟨"SleetLineModel", "wet", "(I)I"⟩, 37) := ⟨⟨by decide +kernel, by decide +kernel⟩, List.mem_of_getElem? (i := 578) (by decide +kernel), List.mem_of_getElem? (i := 787) (by decide +kernel), List.mem_of_getElem? (i := 788) (by decide +kernel)⟩
theorem lw_p58 : lw_okq (⟨"SleetLineModel", "halves", "(I)I"⟩, 37) := ⟨⟨by decide +kernel, by decide +kernel⟩, List.mem_of_getElem? (i := 578) (by decide +kernel), List.mem_of_getElem? (i := 791) (by decide +kernel), List.mem_of_getElem? (i := 792) (by decide +kernel)⟩
theorem lw_p59 : lw_okq (⟨"SleetLineModel", "falls", "(II)I"⟩, 37) := ⟨⟨by decide +kernel, by decide +kernel⟩, List.mem_of_getElem? (i := 578) (by decide +kernel), List.mem_of_getElem? (i := 803) (by decide +kernel), List.mem_of_getElem? (i := 804) (by decide +kernel)⟩
theorem lw_p60 : lw_okq (⟨"SleetLineModel", "notes", "()V"⟩, 37) := ⟨⟨by decide +kernel, by decide +kernel⟩, List.mem_of_getElem? (i := 578) (by decide +kernel), List.mem_of_getElem? (i := 815) (by decide +kernel), List.mem_of_getElem? (i := 816) (by decide +kernel)⟩
theorem lw_p61 : lw_okq (⟨"SleetLineModel", "writes", "([II)V"⟩, 37) := ⟨⟨by decide +kernel, by decide +kernel⟩, List.mem_of_getElem? (i := 578) (by decide +kernel), List.mem_of_getElem? (i := 819) (by decide +kernel), List.mem_of_getElem? (i := 820) (by decide +kernel)⟩
theorem lw_p62 : lw_okq (⟨"SleetLineModel", "fallMany", "(I)I"⟩, 37) := ⟨⟨by decide +kernel, by decide +kernel⟩, List.mem_of_getElem? (i := 578) (by decide +kernel), List.mem_of_getElem? (i := 827) (by decide +kernel), List.mem_of_getElem? (i := 828) (by decide +kernel)⟩
theorem lw_p63 : lw_okq (⟨"SleetLineModel", "readsBack", "([II)V"⟩, 37) := ⟨⟨by decide +kernel, by decide +kernel⟩, List.mem_of_getElem? (i := 578) (by decide +kernel), List.mem_of_getElem? (i := 843) (by decide +kernel), List.mem_of_getElem? (i := 844) (by decide +kernel)⟩
def lw_privs_4 : List (MethodName × Nat) := [(⟨"SleetLineModel", "readsDay", "()Z"⟩, 37), (⟨"SleetLineModel", "comesRead", "()V"⟩, 37), (⟨"SleetLineModel", "isColumn", "(I)Z"⟩, 37), (⟨"SleetLineModel", "edge", "(I)I"⟩, 37), (⟨"SleetLineModel", "lowestBy", "(II)I"⟩, 37), (⟨"SleetLineModel", "mild", "(II)I"⟩, 37), (⟨"SleetLineModel", "warmthNow", "()I"⟩, 37), (⟨"SleetLineModel", "warmAt", "(I)I"⟩, 37), (⟨"SleetLineModel", "mildBy", "(III)I"⟩, 37), (⟨"SleetLineModel", "wet", "(I)I"⟩, 37), (⟨"SleetLineModel", "halves", "(I)I"⟩, 37), (⟨"SleetLineModel", "falls", "(II)I"⟩, 37), (⟨"SleetLineModel", "notes", "()V"⟩, 37), (⟨"SleetLineModel", "writes", "([II)V"⟩, 37), (⟨"SleetLineModel", "fallMany", "(I)I"⟩, 37), (⟨"SleetLineModel", "readsBack", "([II)V"⟩, 37)]
theorem lw_r4 : ∀ q ∈ lw_privs_4, lw_okq q := List.forall_mem_cons.mpr ⟨lw_p48, List.forall_mem_cons.mpr ⟨lw_p49, List.forall_mem_cons.mpr ⟨lw_p50, List.forall_mem_cons.mpr ⟨lw_p51, List.forall_mem_cons.mpr ⟨lw_p52, List.forall_mem_cons.mpr ⟨lw_p53, List.forall_mem_cons.mpr ⟨lw_p54, List.forall_mem_cons.mpr ⟨lw_p55, List.forall_mem_cons.mpr ⟨lw_p56, List.forall_mem_cons.mpr ⟨lw_p57, List.forall_mem_cons.mpr ⟨lw_p58, List.forall_mem_cons.mpr ⟨lw_p59, List.forall_mem_cons.mpr ⟨lw_p60, List.forall_mem_cons.mpr ⟨lw_p61, List.forall_mem_cons.mpr ⟨lw_p62, List.forall_mem_cons.mpr ⟨lw_p63, fun _ h => absurd h List.not_mem_nil⟩⟩⟩⟩⟩⟩⟩⟩⟩⟩⟩⟩⟩⟩⟩⟩
theorem lw_p64 : lw_okq (⟨"SleetLineModel", "widest", "()I"⟩, 37) := ⟨⟨by decide +kernel, by decide +kernel⟩, List.mem_of_getElem? (i := 578) (by decide +kernel), List.mem_of_getElem? (i := 851) (by decide +kernel), List.mem_of_getElem? (i := 852) (by decide +kernel)⟩
theorem lw_p65 : lw_okq (⟨"SleetLineModel", "stakeMany", "()I"⟩, 37) := ⟨⟨by decide +kernel, by decide +kernel⟩, List.mem_of_getElem? (i := 578) (by decide +kernel), List.mem_of_getElem? (i := 855) (by decide +kernel), List.mem_of_getElem? (i := 856) (by decide +kernel)⟩
theorem lw_p66 : lw_okq (⟨"SleetLineModel", "vote", "()I"⟩, 37) := ⟨⟨by decide +kernel, by decide +kernel⟩, List.mem_of_getElem? (i := 578) (by decide +kernel), List.mem_of_getElem? (i := 859) (by decide +kernel), List.mem_of_getElem? (i := 860) (by decide +kernel)⟩
theorem lw_p67 : lw_okq (⟨"SleetLineModel", "firstLine", "()V"⟩, 37) := ⟨⟨by decide +kernel, by decide +kernel⟩, List.mem_of_getElem? (i := 578) (by decide +kernel), List.mem_of_getElem? (i := 871) (by decide +kernel), List.mem_of_getElem? (i := 872) (by decide +kernel)⟩
theorem lw_p68 : lw_okq (⟨"SleetLineModel", "hasHill", "()I"⟩, 37) := ⟨⟨by decide +kernel, by decide +kernel⟩, List.mem_of_getElem? (i := 578) (by decide +kernel), List.mem_of_getElem? (i := 875) (by decide +kernel), List.mem_of_getElem? (i := 876) (by decide +kernel)⟩
theorem lw_p69 : lw_okq (⟨"SleetLineModel", "allOf", "([I)I"⟩, 37) := ⟨⟨by decide +kernel, by decide +kernel⟩, List.mem_of_getElem? (i := 578) (by decide +kernel), List.mem_of_getElem? (i := 879) (by decide +kernel), List.mem_of_getElem? (i := 880) (by decide +kernel)⟩
theorem lw_p70 : lw_okq (⟨"SleetLineModel", "hasSea", "()I"⟩, 37) := ⟨⟨by decide +kernel, by decide +kernel⟩, List.mem_of_getElem? (i := 578) (by decide +kernel), List.mem_of_getElem? (i := 883) (by decide +kernel), List.mem_of_getElem? (i := 884) (by decide +kernel)⟩
theorem lw_p71 : lw_okq (⟨"SleetLineModel", "lineNumber", "()I"⟩, 37) := ⟨⟨by decide +kernel, by decide +kernel⟩, List.mem_of_getElem? (i := 578) (by decide +kernel), List.mem_of_getElem? (i := 887) (by decide +kernel), List.mem_of_getElem? (i := 888) (by decide +kernel)⟩
theorem lw_p72 : lw_okq (⟨"SleetLineModel", "nextLine", "()Z"⟩, 37) := ⟨⟨by decide +kernel, by decide +kernel⟩, List.mem_of_getElem? (i := 578) (by decide +kernel), List.mem_of_getElem? (i := 891) (by decide +kernel), List.mem_of_getElem? (i := 892) (by decide +kernel)⟩
theorem lw_p73 : lw_okq (⟨"SleetLineModel", "weightOf", "(I)I"⟩, 37) := ⟨⟨by decide +kernel, by decide +kernel⟩, List.mem_of_getElem? (i := 578) (by decide +kernel), List.mem_of_getElem? (i := 903) (by decide +kernel), List.mem_of_getElem? (i := 904) (by decide +kernel)⟩
theorem lw_p74 : lw_okq (⟨"SleetLineModel", "isSo", "(I)Z"⟩, 37) := ⟨⟨by decide +kernel, by decide +kernel⟩, List.mem_of_getElem? (i := 578) (by decide +kernel), List.mem_of_getElem? (i := 933) (by decide +kernel), List.mem_of_getElem? (i := 934) (by decide +kernel)⟩
theorem lw_p75 : lw_okq (⟨"SleetLineModel", "says", "(IIII)Z"⟩, 37) := ⟨⟨by decide +kernel, by decide +kernel⟩, List.mem_of_getElem? (i := 578) (by decide +kernel), List.mem_of_getElem? (i := 937) (by decide +kernel), List.mem_of_getElem? (i := 938) (by decide +kernel)⟩
theorem lw_p76 : lw_okq (⟨"SleetLineModel", "marked", "(II)I"⟩, 37) := ⟨⟨by decide +kernel, by decide +kernel⟩, List.mem_of_getElem? (i := 578) (by decide +kernel), List.mem_of_getElem? (i := 950) (by decide +kernel), List.mem_of_getElem? (i := 951) (by decide +kernel)⟩
def lw_privs_5 : List (MethodName × Nat) := [(⟨"SleetLineModel", "widest", "()I"⟩, 37), (⟨"SleetLineModel", "stakeMany", "()I"⟩, 37), (⟨"SleetLineModel", "vote", "()I"⟩, 37), (⟨"SleetLineModel", "firstLine", "()V"⟩, 37), (⟨"SleetLineModel", "hasHill", "()I"⟩, 37), (⟨"SleetLineModel", "allOf", "([I)I"⟩, 37), (⟨"SleetLineModel", "hasSea", "()I"⟩, 37), (⟨"SleetLineModel", "lineNumber", "()I"⟩, 37), (⟨"SleetLineModel", "nextLine", "()Z"⟩, 37), (⟨"SleetLineModel", "weightOf", "(I)I"⟩, 37), (⟨"SleetLineModel", "isSo", "(I)Z"⟩, 37), (⟨"SleetLineModel", "says", "(IIII)Z"⟩, 37), (⟨"SleetLineModel", "marked", "(II)I"⟩, 37)]
theorem lw_r5 : ∀ q ∈ lw_privs_5, lw_okq q := List.forall_mem_cons.mpr ⟨lw_p64, List.forall_mem_cons.mpr ⟨lw_p65, List.forall_mem_cons.mpr ⟨lw_p66, List.forall_mem_cons.mpr ⟨lw_p67, List.forall_mem_cons.mpr ⟨lw_p68, List.forall_mem_cons.mpr ⟨lw_p69, List.forall_mem_cons.mpr ⟨lw_p70, List.forall_mem_cons.mpr ⟨lw_p71, List.forall_mem_cons.mpr ⟨lw_p72, List.forall_mem_cons.mpr ⟨lw_p73, List.forall_mem_cons.mpr ⟨lw_p74, List.forall_mem_cons.mpr ⟨lw_p75, List.forall_mem_cons.mpr ⟨lw_p76, fun _ h => absurd h List.not_mem_nil⟩⟩⟩⟩⟩⟩⟩⟩⟩⟩⟩⟩⟩
def lw_privs : List (MethodName × Nat) := lw_privs_1 ++ (lw_privs_2 ++ (lw_privs_3 ++ (lw_privs_4 ++ (lw_privs_5))))
def lw_tbl : List Cond := k2_sels lw_privs ++ tables_1
theorem lw_privs_ok : ∀ q ∈ lw_privs, lw_okq q := by
  show ∀ q ∈ lw_privs_1 ++ (lw_privs_2 ++ (lw_privs_3 ++ (lw_privs_4 ++ (lw_privs_5)))), lw_okq q
  exact List.forall_mem_append.mpr ⟨lw_r1, List.forall_mem_append.mpr ⟨lw_r2, List.forall_mem_append.mpr ⟨lw_r3, List.forall_mem_append.mpr ⟨lw_r4, lw_r5⟩⟩⟩⟩
end
section
def RX0 : String := "SleetLine$Lines"
def TX0 : u_T := fun k => match k with
  | 0 => ("SleetLine$Lines", "known", "Z", false)
  | 1 => ("SleetLine$Lines", "fairOnes", "I", false)
  | 2 => ("SleetLine$Lines", "firstFair", "I", false)
  | 3 => ("SleetLine$Lines", "bestLine", "I", false)
  | 4 => ("SleetLine$Lines", "bestLesser", "I", false)
  | 5 => ("SleetLine$Lines", "allHill", "I", false)
  | _ => ("SleetLine$Lines", "allSea", "I", false)
def tyX0 : Nat → FieldType := fun k => match k with
  | 0 => .boolean
  | 1 => .int
  | 2 => .int
  | 3 => .int
  | 4 => .int
  | 5 => .int
  | _ => .int
abbrev wsX00 : List Cond := u_ws RX0 TX0 7
theorem nmX0 : ∀ a, a < 7 → ∀ b, b < 7 → a ≠ b → (TX0 a).2.1 ≠ (TX0 b).2.1 := by decide +kernel
theorem tyX0_ok : ∀ k, k < 7 → parseFieldDescriptor (TX0 k).2.2.1 = some (tyX0 k) := by decide +kernel
abbrev cX0_init : ByteArray := prog_2_method_1_code
def yX0_init : MethodName := ⟨RX0, "<init>", "()V"⟩
abbrev cX0_judge : ByteArray := prog_2_method_2_code
def yX0_judge : MethodName := ⟨RX0, "judge", "(LSleetLine$Wold;)V"⟩
abbrev cX0_drawFrom : ByteArray := prog_2_method_3_code
def yX0_drawFrom : MethodName := ⟨RX0, "drawFrom", "(LSleetLine$Lines;LSleetLine$Wold;IIII)V"⟩
abbrev cX0_judgeOne : ByteArray := prog_2_method_4_code
def yX0_judgeOne : MethodName := ⟨RX0, "judgeOne", "(III)V"⟩
def RX1 : String := "SleetLine$Now"
def TX1 : u_T := fun k => match k with
  | 0 => ("SleetLine$Now", "day", "I", false)
  | 1 => ("SleetLine$Now", "extra", "I", false)
  | 2 => ("SleetLine$Now", "stake", "[I", true)
  | 3 => ("SleetLine$Now", "steps", "I", false)
  | 4 => ("SleetLine$Now", "stepKind", "[I", true)
  | 5 => ("SleetLine$Now", "stepColumn", "[I", true)
  | _ => ("SleetLine$Now", "stepBefore", "[I", true)
def tyX1 : Nat → FieldType := fun k => match k with
  | 0 => .int
  | 1 => .int
  | 2 => .array .int
  | 3 => .int
  | 4 => .array .int
  | 5 => .array .int
  | _ => .array .int
abbrev wsX10 : List Cond := u_ws RX1 TX1 7
theorem nmX1 : ∀ a, a < 7 → ∀ b, b < 7 → a ≠ b → (TX1 a).2.1 ≠ (TX1 b).2.1 := by decide +kernel
theorem tyX1_ok : ∀ k, k < 7 → parseFieldDescriptor (TX1 k).2.2.1 = some (tyX1 k) := by decide +kernel
abbrev cX1_init : ByteArray := prog_3_method_1_code
def yX1_init : MethodName := ⟨RX1, "<init>", "()V"⟩
abbrev cX1_begin : ByteArray := prog_3_method_2_code
def yX1_begin : MethodName := ⟨RX1, "begin", "()V"⟩
abbrev cX1_become : ByteArray := prog_3_method_3_code
def yX1_become : MethodName := ⟨RX1, "become", "(LSleetLine$Now;)V"⟩
abbrev cX1_remember : ByteArray := prog_3_method_4_code
def yX1_remember : MethodName := ⟨RX1, "remember", "(III)V"⟩
abbrev cX1_loseOldest : ByteArray := prog_3_method_5_code
def yX1_loseOldest : MethodName := ⟨RX1, "loseOldest", "()V"⟩
abbrev cX1_takeBack : ByteArray := prog_3_method_6_code
def yX1_takeBack : MethodName := ⟨RX1, "takeBack", "()V"⟩
abbrev cX1_standing : ByteArray := prog_3_method_7_code
def yX1_standing : MethodName := ⟨RX1, "standing", "()I"⟩
def RX2 : String := "SleetLine$Text"
def TX2 : u_T := fun k => match k with
  | 0 => ("SleetLine$Text", "bytes", "[I", true)
  | 1 => ("SleetLine$Text", "length", "I", false)
  | 2 => ("SleetLine$Text", "place", "I", false)
  | 3 => ("SleetLine$Text", "sort", "I", false)
  | 4 => ("SleetLine$Text", "start", "I", false)
  | 5 => ("SleetLine$Text", "value", "I", false)
  | 6 => ("SleetLine$Text", "gapTold", "Z", false)
  | 7 => ("SleetLine$Text", "handsTold", "Z", false)
  | _ => ("SleetLine$Text", "numbers", "[I", true)
def tyX2 : Nat → FieldType := fun k => match k with
  | 0 => .array .int
  | 1 => .int
  | 2 => .int
  | 3 => .int
  | 4 => .int
  | 5 => .int
  | 6 => .boolean
  | 7 => .boolean
  | _ => .array .int
abbrev wsX20 : List Cond := u_ws RX2 TX2 9
theorem nmX2 : ∀ a, a < 9 → ∀ b, b < 9 → a ≠ b → (TX2 a).2.1 ≠ (TX2 b).2.1 := by decide +kernel
theorem tyX2_ok : ∀ k, k < 9 → parseFieldDescriptor (TX2 k).2.2.1 = some (tyX2 k) := by decide +kernel
abbrev cX2_init : ByteArray := prog_4_method_1_code
def yX2_init : MethodName := ⟨RX2, "<init>", "()V"⟩
abbrev cX2_add : ByteArray := prog_4_method_2_code
def yX2_add : MethodName := ⟨RX2, "add", "(I)Z"⟩
abbrev cX2_tell : ByteArray := prog_4_method_3_code
def yX2_tell : MethodName := ⟨RX2, "tell", "(LSleetLine$Wold;)I"⟩
abbrev cX2_readItem : ByteArray := prog_4_method_4_code
def yX2_readItem : MethodName := ⟨RX2, "readItem", "(LSleetLine$Wold;)Z"⟩
abbrev cX2_readColumn : ByteArray := prog_4_method_5_code
def yX2_readColumn : MethodName := ⟨RX2, "readColumn", "(LSleetLine$Wold;)Z"⟩
abbrev cX2_readGap : ByteArray := prog_4_method_6_code
def yX2_readGap : MethodName := ⟨RX2, "readGap", "(LSleetLine$Wold;)Z"⟩
abbrev cX2_readHands : ByteArray := prog_4_method_7_code
def yX2_readHands : MethodName := ⟨RX2, "readHands", "(LSleetLine$Wold;)Z"⟩
abbrev cX2_readVoter : ByteArray := prog_4_method_8_code
def yX2_readVoter : MethodName := ⟨RX2, "readVoter", "(LSleetLine$Wold;)Z"⟩
abbrev cX2_readDay : ByteArray := prog_4_method_9_code
def yX2_readDay : MethodName := ⟨RX2, "readDay", "(LSleetLine$Wold;)Z"⟩
abbrev cX2_number : ByteArray := prog_4_method_10_code
def yX2_number : MethodName := ⟨RX2, "number", "(III)Z"⟩
abbrev cX2_ended : ByteArray := prog_4_method_11_code
def yX2_ended : MethodName := ⟨RX2, "ended", "()Z"⟩
abbrev cX2_take : ByteArray := prog_4_method_12_code
def yX2_take : MethodName := ⟨RX2, "take", "()V"⟩
abbrev cX2_takeLetters : ByteArray := prog_4_method_13_code
def yX2_takeLetters : MethodName := ⟨RX2, "takeLetters", "()V"⟩
abbrev cX2_takeNumber : ByteArray := prog_4_method_14_code
def yX2_takeNumber : MethodName := ⟨RX2, "takeNumber", "()V"⟩
def RX3 : String := "SleetLine$Wold"
def TX3 : u_T := fun k => match k with
  | 0 => ("SleetLine$Wold", "columns", "I", false)
  | 1 => ("SleetLine$Wold", "low", "[I", true)
  | 2 => ("SleetLine$Wold", "hill", "[I", true)
  | 3 => ("SleetLine$Wold", "sea", "[I", true)
  | 4 => ("SleetLine$Wold", "gap", "I", false)
  | 5 => ("SleetLine$Wold", "hand", "[I", true)
  | 6 => ("SleetLine$Wold", "voters", "I", false)
  | 7 => ("SleetLine$Wold", "weight", "[I", true)
  | 8 => ("SleetLine$Wold", "wants", "[I", true)
  | 9 => ("SleetLine$Wold", "days", "I", false)
  | _ => ("SleetLine$Wold", "warm", "[I", true)
def tyX3 : Nat → FieldType := fun k => match k with
  | 0 => .int
  | 1 => .array .int
  | 2 => .array .int
  | 3 => .array .int
  | 4 => .int
  | 5 => .array .int
  | 6 => .int
  | 7 => .array .int
  | 8 => .array .int
  | 9 => .int
  | _ => .array .int
abbrev wsX30 : List Cond := u_ws RX3 TX3 11
theorem nmX3 : ∀ a, a < 11 → ∀ b, b < 11 → a ≠ b → (TX3 a).2.1 ≠ (TX3 b).2.1 := by decide +kernel
theorem tyX3_ok : ∀ k, k < 11 → parseFieldDescriptor (TX3 k).2.2.1 = some (tyX3 k) := by decide +kernel
abbrev cX3_init : ByteArray := prog_5_method_1_code
def yX3_init : MethodName := ⟨RX3, "<init>", "()V"⟩
abbrev cX3_begin : ByteArray := prog_5_method_2_code
def yX3_begin : MethodName := ⟨RX3, "begin", "()V"⟩
abbrev cX3_addColumn : ByteArray := prog_5_method_3_code
def yX3_addColumn : MethodName := ⟨RX3, "addColumn", "(III)V"⟩
abbrev cX3_addVoter : ByteArray := prog_5_method_4_code
def yX3_addVoter : MethodName := ⟨RX3, "addVoter", "(II)V"⟩
abbrev cX3_addDay : ByteArray := prog_5_method_5_code
def yX3_addDay : MethodName := ⟨RX3, "addDay", "(I)V"⟩
abbrev cX3_warmOn : ByteArray := prog_5_method_6_code
def yX3_warmOn : MethodName := ⟨RX3, "warmOn", "(I)I"⟩
abbrev cX3_snowLimit : ByteArray := prog_5_method_7_code
def yX3_snowLimit : MethodName := ⟨RX3, "snowLimit", "(III)I"⟩
def RX4 : String := "SleetLine"
def TX4 : u_T := fun k => match k with
  | 0 => ("SleetLine", "text", "LSleetLine$Text;", true)
  | 1 => ("SleetLine", "told", "LSleetLine$Wold;", false)
  | 2 => ("SleetLine", "draft", "LSleetLine$Wold;", false)
  | 3 => ("SleetLine", "lines", "LSleetLine$Lines;", true)
  | 4 => ("SleetLine", "present", "LSleetLine$Now;", true)
  | 5 => ("SleetLine", "images", "[LSleetLine$Now;", true)
  | 6 => ("SleetLine", "kept", "[Z", true)
  | 7 => ("SleetLine", "heard", "I", false)
  | 8 => ("SleetLine", "leastWarmth", "I", false)
  | 9 => ("SleetLine", "mostWarmth", "I", false)
  | _ => ("SleetLine", "traced", "J", false)
def tyX4 : Nat → FieldType := fun k => match k with
  | 0 => .object "SleetLine$Text"
  | 1 => .object "SleetLine$Wold"
  | 2 => .object "SleetLine$Wold"
  | 3 => .object "SleetLine$Lines"
  | 4 => .object "SleetLine$Now"
  | 5 => .array (.object "SleetLine$Now")
  | 6 => .array .boolean
  | 7 => .int
  | 8 => .int
  | 9 => .int
  | _ => .long
abbrev wsX40 : List Cond := u_ws RX4 TX4 11
theorem nmX4 : ∀ a, a < 11 → ∀ b, b < 11 → a ≠ b → (TX4 a).2.1 ≠ (TX4 b).2.1 := by decide +kernel
theorem tyX4_ok : ∀ k, k < 11 → parseFieldDescriptor (TX4 k).2.2.1 = some (tyX4 k) := by decide +kernel
abbrev cX4_init : ByteArray := prog_1_method_1_code
def yX4_init : MethodName := ⟨RX4, "<init>", "()V"⟩
abbrev cX4_type : ByteArray := prog_1_method_2_code
def yX4_type : MethodName := ⟨RX4, "type", "(I)I"⟩
abbrev cX4_clear : ByteArray := prog_1_method_3_code
def yX4_clear : MethodName := ⟨RX4, "clear", "()I"⟩
abbrev cX4_wold : ByteArray := prog_1_method_4_code
def yX4_wold : MethodName := ⟨RX4, "wold", "()I"⟩
abbrev cX4_column : ByteArray := prog_1_method_5_code
def yX4_column : MethodName := ⟨RX4, "column", "(II)I"⟩
abbrev cX4_field : ByteArray := prog_1_method_6_code
def yX4_field : MethodName := ⟨RX4, "field", "(III)I"⟩
abbrev cX4_voter : ByteArray := prog_1_method_7_code
def yX4_voter : MethodName := ⟨RX4, "voter", "(II)I"⟩
abbrev cX4_days : ByteArray := prog_1_method_8_code
def yX4_days : MethodName := ⟨RX4, "days", "(I)I"⟩
abbrev cX4_warms : ByteArray := prog_1_method_9_code
def yX4_warms : MethodName := ⟨RX4, "warms", "(I)I"⟩
abbrev cX4_stakes : ByteArray := prog_1_method_10_code
def yX4_stakes : MethodName := ⟨RX4, "stakes", "(I)I"⟩
abbrev cX4_pulls : ByteArray := prog_1_method_11_code
def yX4_pulls : MethodName := ⟨RX4, "pulls", "(I)I"⟩
abbrev cX4_undo : ByteArray := prog_1_method_12_code
def yX4_undo : MethodName := ⟨RX4, "undo", "()I"⟩
abbrev cX4_now : ByteArray := prog_1_method_13_code
def yX4_now : MethodName := ⟨RX4, "now", "(I)I"⟩
abbrev cX4_first : ByteArray := prog_1_method_14_code
def yX4_first : MethodName := ⟨RX4, "first", "(II)I"⟩
abbrev cX4_fair : ByteArray := prog_1_method_15_code
def yX4_fair : MethodName := ⟨RX4, "fair", "(I)I"⟩
abbrev cX4_best : ByteArray := prog_1_method_16_code
def yX4_best : MethodName := ⟨RX4, "best", "(I)I"⟩
abbrev cX4_power : ByteArray := prog_1_method_17_code
def yX4_power : MethodName := ⟨RX4, "power", "(II)I"⟩
abbrev cX4_duel : ByteArray := prog_1_method_18_code
def yX4_duel : MethodName := ⟨RX4, "duel", "(I)I"⟩
abbrev cX4_odds : ByteArray := prog_1_method_19_code
def yX4_odds : MethodName := ⟨RX4, "odds", "(IIIII)I"⟩
abbrev cX4_hears : ByteArray := prog_1_method_20_code
def yX4_hears : MethodName := ⟨RX4, "hears", "(IIII)I"⟩
abbrev cX4_forget : ByteArray := prog_1_method_21_code
def yX4_forget : MethodName := ⟨RX4, "forget", "()I"⟩
abbrev cX4_warmth : ByteArray := prog_1_method_22_code
def yX4_warmth : MethodName := ⟨RX4, "warmth", "(I)I"⟩
abbrev cX4_ask : ByteArray := prog_1_method_23_code
def yX4_ask : MethodName := ⟨RX4, "ask", "()I"⟩
abbrev cX4_mark : ByteArray := prog_1_method_24_code
def yX4_mark : MethodName := ⟨RX4, "mark", "(II)I"⟩
abbrev cX4_keep : ByteArray := prog_1_method_25_code
def yX4_keep : MethodName := ⟨RX4, "keep", "(I)I"⟩
abbrev cX4_back : ByteArray := prog_1_method_26_code
def yX4_back : MethodName := ⟨RX4, "back", "(I)I"⟩
abbrev cX4_count : ByteArray := prog_1_method_27_code
def yX4_count : MethodName := ⟨RX4, "count", "(I)I"⟩
abbrev cX4_trace : ByteArray := prog_1_method_28_code
def yX4_trace : MethodName := ⟨RX4, "trace", "()J"⟩
abbrev cX4_within : ByteArray := prog_1_method_29_code
def yX4_within : MethodName := ⟨RX4, "within", "(III)Z"⟩
abbrev cX4_isColumn : ByteArray := prog_1_method_30_code
def yX4_isColumn : MethodName := ⟨RX4, "isColumn", "(I)Z"⟩
abbrev cX4_isField : ByteArray := prog_1_method_31_code
def yX4_isField : MethodName := ⟨RX4, "isField", "(II)Z"⟩
abbrev cX4_isVoter : ByteArray := prog_1_method_32_code
def yX4_isVoter : MethodName := ⟨RX4, "isVoter", "(I)Z"⟩
abbrev cX4_warmToday : ByteArray := prog_1_method_33_code
def yX4_warmToday : MethodName := ⟨RX4, "warmToday", "()I"⟩
abbrev cX4_mild : ByteArray := prog_1_method_34_code
def yX4_mild : MethodName := ⟨RX4, "mild", "(II)I"⟩
abbrev cX4_falls : ByteArray := prog_1_method_35_code
def yX4_falls : MethodName := ⟨RX4, "falls", "(II)I"⟩
abbrev cX4_lowestUpTo : ByteArray := prog_1_method_36_code
def yX4_lowestUpTo : MethodName := ⟨RX4, "lowestUpTo", "(II)I"⟩
abbrev cX4_edge : ByteArray := prog_1_method_37_code
def yX4_edge : MethodName := ⟨RX4, "edge", "(I)I"⟩
abbrev cX4_wet : ByteArray := prog_1_method_38_code
def yX4_wet : MethodName := ⟨RX4, "wet", "(I)I"⟩
abbrev cX4_claim : ByteArray := prog_1_method_39_code
def yX4_claim : MethodName := ⟨RX4, "claim", "(II)I"⟩
abbrev cX4_halves : ByteArray := prog_1_method_40_code
def yX4_halves : MethodName := ⟨RX4, "halves", "(IZ)I"⟩
abbrev cX4_greaterHalf : ByteArray := prog_1_method_41_code
def yX4_greaterHalf : MethodName := ⟨RX4, "greaterHalf", "(I)I"⟩
abbrev cX4_snowyFields : ByteArray := prog_1_method_42_code
def yX4_snowyFields : MethodName := ⟨RX4, "snowyFields", "(I)I"⟩
abbrev cX4_rainyFields : ByteArray := prog_1_method_43_code
def yX4_rainyFields : MethodName := ⟨RX4, "rainyFields", "()I"⟩
abbrev cX4_widest : ByteArray := prog_1_method_44_code
def yX4_widest : MethodName := ⟨RX4, "widest", "()I"⟩
abbrev cX4_vote : ByteArray := prog_1_method_45_code
def yX4_vote : MethodName := ⟨RX4, "vote", "()I"⟩
abbrev cX4_decidedOrders : ByteArray := prog_1_method_46_code
def yX4_decidedOrders : MethodName := ⟨RX4, "decidedOrders", "(I)I"⟩
abbrev cX4_weightOf : ByteArray := prog_1_method_47_code
def yX4_weightOf : MethodName := ⟨RX4, "weightOf", "(I)I"⟩
abbrev cX4_snowyWays : ByteArray := prog_1_method_48_code
def yX4_snowyWays : MethodName := ⟨RX4, "snowyWays", "(III)I"⟩
abbrev cX4_leastTerms : ByteArray := prog_1_method_49_code
def yX4_leastTerms : MethodName := ⟨RX4, "leastTerms", "(III)I"⟩
abbrev cX4_greatestShared : ByteArray := prog_1_method_50_code
def yX4_greatestShared : MethodName := ⟨RX4, "greatestShared", "(II)I"⟩
abbrev cX4_hearNothing : ByteArray := prog_1_method_51_code
def yX4_hearNothing : MethodName := ⟨RX4, "hearNothing", "()V"⟩
abbrev cX4_warmths : ByteArray := prog_1_method_52_code
def yX4_warmths : MethodName := ⟨RX4, "warmths", "()I"⟩
abbrev cX4_greaterPart : ByteArray := prog_1_method_53_code
def yX4_greaterPart : MethodName := ⟨RX4, "greaterPart", "(II)I"⟩
abbrev cX4_columnMark : ByteArray := prog_1_method_54_code
def yX4_columnMark : MethodName := ⟨RX4, "columnMark", "(I)I"⟩
abbrev cX4_moorMark : ByteArray := prog_1_method_55_code
def yX4_moorMark : MethodName := ⟨RX4, "moorMark", "(I)I"⟩
abbrev cX4_fenMark : ByteArray := prog_1_method_56_code
def yX4_fenMark : MethodName := ⟨RX4, "fenMark", "(I)I"⟩
abbrev cX4_fellMark : ByteArray := prog_1_method_57_code
def yX4_fellMark : MethodName := ⟨RX4, "fellMark", "(I)I"⟩
abbrev cX4_saltingMark : ByteArray := prog_1_method_58_code
def yX4_saltingMark : MethodName := ⟨RX4, "saltingMark", "(I)I"⟩
abbrev cX4_woodMark : ByteArray := prog_1_method_59_code
def yX4_woodMark : MethodName := ⟨RX4, "woodMark", "(I)I"⟩
def RX5 : String := "SleetLineModel"
def TX5 : u_T := fun k => match k with
  | 0 => ("SleetLineModel", "columns", "I", false)
  | 1 => ("SleetLineModel", "voters", "I", false)
  | 2 => ("SleetLineModel", "daysMany", "I", false)
  | 3 => ("SleetLineModel", "gap", "I", false)
  | 4 => ("SleetLineModel", "hand", "[I", true)
  | 5 => ("SleetLineModel", "lows", "[I", true)
  | 6 => ("SleetLineModel", "hills", "[I", true)
  | 7 => ("SleetLineModel", "seas", "[I", true)
  | 8 => ("SleetLineModel", "weights", "[I", true)
  | 9 => ("SleetLineModel", "wants", "[I", true)
  | 10 => ("SleetLineModel", "warm", "[I", true)
  | 11 => ("SleetLineModel", "number", "I", false)
  | 12 => ("SleetLineModel", "extra", "I", false)
  | 13 => ("SleetLineModel", "staked", "[I", true)
  | 14 => ("SleetLineModel", "heardMany", "I", false)
  | 15 => ("SleetLineModel", "heard", "[I", true)
  | 16 => ("SleetLineModel", "traced", "J", false)
  | 17 => ("SleetLineModel", "text", "[I", true)
  | 18 => ("SleetLineModel", "size", "I", false)
  | 19 => ("SleetLineModel", "readAt", "I", false)
  | 20 => ("SleetLineModel", "readColumns", "I", false)
  | 21 => ("SleetLineModel", "readVoters", "I", false)
  | 22 => ("SleetLineModel", "readDays", "I", false)
  | 23 => ("SleetLineModel", "readGap", "I", false)
  | 24 => ("SleetLineModel", "readHands", "I", false)
  | 25 => ("SleetLineModel", "readNumber", "I", false)
  | 26 => ("SleetLineModel", "readColumn", "[I", true)
  | 27 => ("SleetLineModel", "readVoter", "[I", true)
  | 28 => ("SleetLineModel", "readWarm", "[I", true)
  | 29 => ("SleetLineModel", "readHand", "[I", true)
  | 30 => ("SleetLineModel", "comings", "I", false)
  | 31 => ("SleetLineModel", "ahead", "[I", true)
  | 32 => ("SleetLineModel", "undoMany", "I", false)
  | 33 => ("SleetLineModel", "line", "[I", true)
  | 34 => ("SleetLineModel", "snows", "[I", true)
  | 35 => ("SleetLineModel", "snowsThen", "[I", true)
  | _ => ("SleetLineModel", "images", "[I", true)
def tyX5 : Nat → FieldType := fun k => match k with
  | 0 => .int
  | 1 => .int
  | 2 => .int
  | 3 => .int
  | 4 => .array .int
  | 5 => .array .int
  | 6 => .array .int
  | 7 => .array .int
  | 8 => .array .int
  | 9 => .array .int
  | 10 => .array .int
  | 11 => .int
  | 12 => .int
  | 13 => .array .int
  | 14 => .int
  | 15 => .array .int
  | 16 => .long
  | 17 => .array .int
  | 18 => .int
  | 19 => .int
  | 20 => .int
  | 21 => .int
  | 22 => .int
  | 23 => .int
  | 24 => .int
  | 25 => .int
  | 26 => .array .int
  | 27 => .array .int
  | 28 => .array .int
  | 29 => .array .int
  | 30 => .int
  | 31 => .array .int
  | 32 => .int
  | 33 => .array .int
  | 34 => .array .int
  | 35 => .array .int
  | _ => .array .int
abbrev wsX50 : List Cond := u_ws RX5 TX5 37
theorem nmX5 : ∀ a, a < 37 → ∀ b, b < 37 → a ≠ b → (TX5 a).2.1 ≠ (TX5 b).2.1 := by decide +kernel
theorem tyX5_ok : ∀ k, k < 37 → parseFieldDescriptor (TX5 k).2.2.1 = some (tyX5 k) := by decide +kernel
abbrev cX5_in : ByteArray := prog_7_method_1_code
def yX5_in : MethodName := ⟨RX5, "in", "(III)Z"⟩
abbrev cX5_common : ByteArray := prog_7_method_2_code
def yX5_common : MethodName := ⟨RX5, "common", "(II)I"⟩
abbrev cX5_init : ByteArray := prog_7_method_3_code
def yX5_init : MethodName := ⟨RX5, "<init>", "()V"⟩
abbrev cX5_isColumn : ByteArray := prog_7_method_4_code
def yX5_isColumn : MethodName := ⟨RX5, "isColumn", "(I)Z"⟩
abbrev cX5_isField : ByteArray := prog_7_method_5_code
def yX5_isField : MethodName := ⟨RX5, "isField", "(I)Z"⟩
abbrev cX5_type : ByteArray := prog_7_method_6_code
def yX5_type : MethodName := ⟨RX5, "type", "(I)I"⟩
abbrev cX5_clear : ByteArray := prog_7_method_7_code
def yX5_clear : MethodName := ⟨RX5, "clear", "()I"⟩
abbrev cX5_here : ByteArray := prog_7_method_8_code
def yX5_here : MethodName := ⟨RX5, "here", "()I"⟩
abbrev cX5_skip : ByteArray := prog_7_method_9_code
def yX5_skip : MethodName := ⟨RX5, "skip", "()V"⟩
abbrev cX5_number : ByteArray := prog_7_method_10_code
def yX5_number : MethodName := ⟨RX5, "number", "(II)Z"⟩
abbrev cX5_ends : ByteArray := prog_7_method_11_code
def yX5_ends : MethodName := ⟨RX5, "ends", "()Z"⟩
abbrev cX5_readsColumn : ByteArray := prog_7_method_12_code
def yX5_readsColumn : MethodName := ⟨RX5, "readsColumn", "()Z"⟩
abbrev cX5_readsVoter : ByteArray := prog_7_method_13_code
def yX5_readsVoter : MethodName := ⟨RX5, "readsVoter", "()Z"⟩
abbrev cX5_readsDay : ByteArray := prog_7_method_14_code
def yX5_readsDay : MethodName := ⟨RX5, "readsDay", "()Z"⟩
abbrev cX5_readsGap : ByteArray := prog_7_method_15_code
def yX5_readsGap : MethodName := ⟨RX5, "readsGap", "()Z"⟩
abbrev cX5_readsHands : ByteArray := prog_7_method_16_code
def yX5_readsHands : MethodName := ⟨RX5, "readsHands", "()Z"⟩
abbrev cX5_readsItem : ByteArray := prog_7_method_17_code
def yX5_readsItem : MethodName := ⟨RX5, "readsItem", "()Z"⟩
abbrev cX5_wold : ByteArray := prog_7_method_18_code
def yX5_wold : MethodName := ⟨RX5, "wold", "()I"⟩
abbrev cX5_comesRead : ByteArray := prog_7_method_19_code
def yX5_comesRead : MethodName := ⟨RX5, "comesRead", "()V"⟩
abbrev cX5_warmAt : ByteArray := prog_7_method_20_code
def yX5_warmAt : MethodName := ⟨RX5, "warmAt", "(I)I"⟩
abbrev cX5_mildBy : ByteArray := prog_7_method_21_code
def yX5_mildBy : MethodName := ⟨RX5, "mildBy", "(III)I"⟩
abbrev cX5_warmthNow : ByteArray := prog_7_method_22_code
def yX5_warmthNow : MethodName := ⟨RX5, "warmthNow", "()I"⟩
abbrev cX5_mild : ByteArray := prog_7_method_23_code
def yX5_mild : MethodName := ⟨RX5, "mild", "(II)I"⟩
abbrev cX5_lowestBy : ByteArray := prog_7_method_24_code
def yX5_lowestBy : MethodName := ⟨RX5, "lowestBy", "(II)I"⟩
abbrev cX5_edge : ByteArray := prog_7_method_25_code
def yX5_edge : MethodName := ⟨RX5, "edge", "(I)I"⟩
abbrev cX5_wet : ByteArray := prog_7_method_26_code
def yX5_wet : MethodName := ⟨RX5, "wet", "(I)I"⟩
abbrev cX5_halves : ByteArray := prog_7_method_27_code
def yX5_halves : MethodName := ⟨RX5, "halves", "(I)I"⟩
abbrev cX5_column : ByteArray := prog_7_method_28_code
def yX5_column : MethodName := ⟨RX5, "column", "(II)I"⟩
abbrev cX5_falls : ByteArray := prog_7_method_29_code
def yX5_falls : MethodName := ⟨RX5, "falls", "(II)I"⟩
abbrev cX5_field : ByteArray := prog_7_method_30_code
def yX5_field : MethodName := ⟨RX5, "field", "(III)I"⟩
abbrev cX5_voter : ByteArray := prog_7_method_31_code
def yX5_voter : MethodName := ⟨RX5, "voter", "(II)I"⟩
abbrev cX5_fallMany : ByteArray := prog_7_method_32_code
def yX5_fallMany : MethodName := ⟨RX5, "fallMany", "(I)I"⟩
abbrev cX5_writes : ByteArray := prog_7_method_33_code
def yX5_writes : MethodName := ⟨RX5, "writes", "([II)V"⟩
abbrev cX5_readsBack : ByteArray := prog_7_method_34_code
def yX5_readsBack : MethodName := ⟨RX5, "readsBack", "([II)V"⟩
abbrev cX5_notes : ByteArray := prog_7_method_35_code
def yX5_notes : MethodName := ⟨RX5, "notes", "()V"⟩
abbrev cX5_days : ByteArray := prog_7_method_36_code
def yX5_days : MethodName := ⟨RX5, "days", "(I)I"⟩
abbrev cX5_warms : ByteArray := prog_7_method_37_code
def yX5_warms : MethodName := ⟨RX5, "warms", "(I)I"⟩
abbrev cX5_stakes : ByteArray := prog_7_method_38_code
def yX5_stakes : MethodName := ⟨RX5, "stakes", "(I)I"⟩
abbrev cX5_pulls : ByteArray := prog_7_method_39_code
def yX5_pulls : MethodName := ⟨RX5, "pulls", "(I)I"⟩
abbrev cX5_undo : ByteArray := prog_7_method_40_code
def yX5_undo : MethodName := ⟨RX5, "undo", "()I"⟩
abbrev cX5_widest : ByteArray := prog_7_method_41_code
def yX5_widest : MethodName := ⟨RX5, "widest", "()I"⟩
abbrev cX5_stakeMany : ByteArray := prog_7_method_42_code
def yX5_stakeMany : MethodName := ⟨RX5, "stakeMany", "()I"⟩
abbrev cX5_vote : ByteArray := prog_7_method_43_code
def yX5_vote : MethodName := ⟨RX5, "vote", "()I"⟩
abbrev cX5_now : ByteArray := prog_7_method_44_code
def yX5_now : MethodName := ⟨RX5, "now", "(I)I"⟩
abbrev cX5_first : ByteArray := prog_7_method_45_code
def yX5_first : MethodName := ⟨RX5, "first", "(II)I"⟩
abbrev cX5_firstLine : ByteArray := prog_7_method_46_code
def yX5_firstLine : MethodName := ⟨RX5, "firstLine", "()V"⟩
abbrev cX5_nextLine : ByteArray := prog_7_method_47_code
def yX5_nextLine : MethodName := ⟨RX5, "nextLine", "()Z"⟩
abbrev cX5_lineNumber : ByteArray := prog_7_method_48_code
def yX5_lineNumber : MethodName := ⟨RX5, "lineNumber", "()I"⟩
abbrev cX5_hasHill : ByteArray := prog_7_method_49_code
def yX5_hasHill : MethodName := ⟨RX5, "hasHill", "()I"⟩
abbrev cX5_hasSea : ByteArray := prog_7_method_50_code
def yX5_hasSea : MethodName := ⟨RX5, "hasSea", "()I"⟩
abbrev cX5_allOf : ByteArray := prog_7_method_51_code
def yX5_allOf : MethodName := ⟨RX5, "allOf", "([I)I"⟩
abbrev cX5_fair : ByteArray := prog_7_method_52_code
def yX5_fair : MethodName := ⟨RX5, "fair", "(I)I"⟩
abbrev cX5_best : ByteArray := prog_7_method_53_code
def yX5_best : MethodName := ⟨RX5, "best", "(I)I"⟩
abbrev cX5_orders : ByteArray := prog_7_method_54_code
def yX5_orders : MethodName := ⟨RX5, "orders", "(I)I"⟩
abbrev cX5_weightOf : ByteArray := prog_7_method_55_code
def yX5_weightOf : MethodName := ⟨RX5, "weightOf", "(I)I"⟩
abbrev cX5_power : ByteArray := prog_7_method_56_code
def yX5_power : MethodName := ⟨RX5, "power", "(II)I"⟩
abbrev cX5_duel : ByteArray := prog_7_method_57_code
def yX5_duel : MethodName := ⟨RX5, "duel", "(I)I"⟩
abbrev cX5_odds : ByteArray := prog_7_method_58_code
def yX5_odds : MethodName := ⟨RX5, "odds", "(IIIII)I"⟩
abbrev cX5_hears : ByteArray := prog_7_method_59_code
def yX5_hears : MethodName := ⟨RX5, "hears", "(IIII)I"⟩
abbrev cX5_forget : ByteArray := prog_7_method_60_code
def yX5_forget : MethodName := ⟨RX5, "forget", "()I"⟩
abbrev cX5_says : ByteArray := prog_7_method_61_code
def yX5_says : MethodName := ⟨RX5, "says", "(IIII)Z"⟩
abbrev cX5_isSo : ByteArray := prog_7_method_62_code
def yX5_isSo : MethodName := ⟨RX5, "isSo", "(I)Z"⟩
abbrev cX5_warmth : ByteArray := prog_7_method_63_code
def yX5_warmth : MethodName := ⟨RX5, "warmth", "(I)I"⟩
abbrev cX5_ask : ByteArray := prog_7_method_64_code
def yX5_ask : MethodName := ⟨RX5, "ask", "()I"⟩
abbrev cX5_marked : ByteArray := prog_7_method_65_code
def yX5_marked : MethodName := ⟨RX5, "marked", "(II)I"⟩
abbrev cX5_mark : ByteArray := prog_7_method_66_code
def yX5_mark : MethodName := ⟨RX5, "mark", "(II)I"⟩
abbrev cX5_keep : ByteArray := prog_7_method_67_code
def yX5_keep : MethodName := ⟨RX5, "keep", "(I)I"⟩
abbrev cX5_back : ByteArray := prog_7_method_68_code
def yX5_back : MethodName := ⟨RX5, "back", "(I)I"⟩
abbrev cX5_count : ByteArray := prog_7_method_69_code
def yX5_count : MethodName := ⟨RX5, "count", "(I)I"⟩
abbrev cX5_trace : ByteArray := prog_7_method_70_code
def yX5_trace : MethodName := ⟨RX5, "trace", "()J"⟩
def RJ6 : String := "java/lang/Integer"
def TJ6 : u_T := fun k => match k with
  | _ => ("", "", "", false)
def tyJ6 : Nat → FieldType := fun k => match k with
  | _ => .int
abbrev wsJ60 : List Cond := u_ws RJ6 TJ6 0
theorem nmJ6 : ∀ a, a < 0 → ∀ b, b < 0 → a ≠ b → (TJ6 a).2.1 ≠ (TJ6 b).2.1 := by decide +kernel
theorem tyJ6_ok : ∀ k, k < 0 → parseFieldDescriptor (TJ6 k).2.2.1 = some (tyJ6 k) := by decide +kernel
abbrev cJ6_bitCount_0f7a4 : ByteArray := prog_8_method_49_code
def yJ6_bitCount_0f7a4 : MethodName := ⟨RJ6, "bitCount", "(I)I"⟩
end
section
/-! A small machine over whole numbers, and how its cells stand for the heap's. -/
abbrev ms_V : Type := Int ⊕ (Int ⊕ (Int ⊕ Nat))
abbrev mI (z : Int) : ms_V := Sum.inl z
abbrev mL (z : Int) : ms_V := Sum.inr (Sum.inl z)
abbrev mR (z : Int) : ms_V := Sum.inr (Sum.inr (Sum.inl z))
abbrev mE (n : Nat) : ms_V := Sum.inr (Sum.inr (Sum.inr n))
/-- an instruction's own data: c, a, b, d, a table, a place among the words -/
abbrev ms_X : Type := Int × Nat × Nat × Nat × List (Int × Nat) × Nat
abbrev ms_E : Type := Nat × Instr × Nat × ms_X
abbrev ms_B : Type := List ms_E
abbrev ms_S : Type := List (Nat × Nat)
abbrev ms_G : Type := ms_S × Nat × Nat
abbrev ms_H : Type := Int → Int → Int
abbrev ms_K : Type := List ms_V → List ms_V → ms_G → ms_H → Prop
abbrev ms_Q : Type := Option ms_V → ms_S → ms_H → Prop
abbrev ms_O : Type := Nat → List ms_V → ms_S → ms_H → ms_Q → Prop
abbrev ms_Z : Type := Nat → Option (Nat × (Int → Int))
def rg (z : Int) : Prop := -2147483648 ≤ z ∧ z ≤ 2147483647
def hs (h : ms_H) (z k v : Int) : ms_H := fun a b => if a = z ∧ b = k then v else h a b
def ms_cpy (h : ms_H) (s sp d dp n : Int) : ms_H := fun a b => if a = d ∧ dp ≤ b ∧ b < dp + n then h s (sp + (b - dp)) else h a b
/-- the types of fields: 0 int, 1 boolean, 2 long, 3 a reference -/
def ms_ftl : List (List Nat) := [[1, 0, 0, 0, 0, 0, 0], [0, 0, 3, 0, 3, 3, 3], [3, 0, 0, 0, 0, 0, 1, 1, 3], [0, 3, 3, 3, 0, 3, 0, 3, 3, 0, 3], [3, 3, 3, 3, 3, 3, 3, 0, 0, 0, 2], [0, 0, 0, 0, 3, 3, 3, 3, 3, 3, 3, 0, 0, 3, 0, 3, 2, 3, 0, 0, 0, 0, 0, 0, 0, 0, 3, 3, 3, 3, 0, 3, 0, 3, 3, 3, 3]]
def ms_ft (ci : Nat) (k : Int) : Nat := if k < 0 then 0 else (ms_ftl.getD ci []).getD k.toNat 0
def ms_N (ci : Nat) : Nat := (ms_ftl.getD ci []).length
def ms_nw (h : ms_H) (z : Int) (kd : Nat) : ms_H := fun a b => if a = z then (if kd = 12 ∨ (kd < 10 ∧ ms_ft kd b = 3) then -1 else 0) else h a b
/-- the shape of a cell: (class, fields), or (10 int, 11 boolean, 12 references; length) -/
def ms_sh (S : ms_S) (z : Int) : Option (Nat × Nat) := if z < 0 then none else S[z.toNat]?
def ms_ob (S : ms_S) (z : Int) (ci : Nat) : Prop := ms_sh S z = some (ci, ms_N ci)
def ms_ar (S : ms_S) (z : Int) (kd : Nat) (i : Int) (k : Prop) : Prop := ∃ n : Nat, ms_sh S z = some (kd, n) ∧ 0 ≤ i ∧ i < n ∧ k
-- the stack
def i1 (st : List ms_V) (k : Int → List ms_V → Prop) : Prop := match st with
  | Sum.inl z :: r => k z r
  | _ => False
def l1 (st : List ms_V) (k : Int → List ms_V → Prop) : Prop := match st with
  | Sum.inr (Sum.inl z) :: r => k z r
  | _ => False
def r1 (st : List ms_V) (k : Int → List ms_V → Prop) : Prop := match st with
  | Sum.inr (Sum.inr (Sum.inl z)) :: r => k z r
  | _ => False
theorem i1_c (z : Int) (r : List ms_V) (k : Int → List ms_V → Prop) : i1 (mI z :: r) k = k z r := rfl
theorem l1_c (z : Int) (r : List ms_V) (k : Int → List ms_V → Prop) : l1 (mL z :: r) k = k z r := rfl
theorem r1_c (z : Int) (r : List ms_V) (k : Int → List ms_V → Prop) : r1 (mR z :: r) k = k z r := rfl
theorem i1_x {st : List ms_V} {k : Int → List ms_V → Prop} (h : i1 st k) : ∃ z r, st = mI z :: r ∧ k z r := by
  unfold i1 at h
  split at h
  · exact ⟨_, _, rfl, h⟩
  · exact h.elim
theorem l1_x {st : List ms_V} {k : Int → List ms_V → Prop} (h : l1 st k) : ∃ z r, st = mL z :: r ∧ k z r := by
  unfold l1 at h
  split at h
  · exact ⟨_, _, rfl, h⟩
  · exact h.elim
theorem r1_x {st : List ms_V} {k : Int → List ms_V → Prop} (h : r1 st k) : ∃ z r, st = mR z :: r ∧ k z r := by
  unfold r1 at h
  split at h
  · exact ⟨_, _, rfl, h⟩
  · exact h.elim
theorem i1_m {st : List ms_V} {k k' : Int → List ms_V → Prop} (hk : ∀ z r, k z r → k' z r) (h : i1 st k) : i1 st k' := by
  obtain ⟨z, r, rfl, h⟩ := i1_x h
  exact hk z r h
theorem l1_m {st : List ms_V} {k k' : Int → List ms_V → Prop} (hk : ∀ z r, k z r → k' z r) (h : l1 st k) : l1 st k' := by
  obtain ⟨z, r, rfl, h⟩ := l1_x h
  exact hk z r h
theorem r1_m {st : List ms_V} {k k' : Int → List ms_V → Prop} (hk : ∀ z r, k z r → k' z r) (h : r1 st k) : r1 st k' := by
  obtain ⟨z, r, rfl, h⟩ := r1_x h
  exact hk z r h
theorem ms_ar_m {S : ms_S} {z : Int} {kd : Nat} {i : Int} {k k' : Prop} (hk : k → k') (h : ms_ar S z kd i k) : ms_ar S z kd i k' := by
  obtain ⟨n, h1, h2, h3, h4⟩ := h
  exact ⟨n, h1, h2, h3, hk h4⟩
def ms_nl : ms_V → Bool
  | Sum.inr (Sum.inl _) => false
  | _ => true
-- what each instruction does
def o_iload (a : Nat) (K : ms_K) : ms_K := fun L st G h => match L[a]? with
  | some (Sum.inl z) => K L (mI z :: st) G h
  | _ => False
def o_aload (a : Nat) (K : ms_K) : ms_K := fun L st G h => match L[a]? with
  | some (Sum.inr (Sum.inr x)) => K L (Sum.inr (Sum.inr x) :: st) G h
  | _ => False
def o_istore (a : Nat) (K : ms_K) : ms_K := fun L st G h => a < L.length ∧ i1 st (fun z r => K (L.set a (mI z)) r G h)
def o_astore (a : Nat) (K : ms_K) : ms_K := fun L st G h => a < L.length ∧ r1 st (fun z r => K (L.set a (mR z)) r G h)
def o_iinc (a : Nat) (c : Int) (K : ms_K) : ms_K := fun L st G h => match L[a]? with
  | some (Sum.inl z) => rg (z + c) ∧ K (L.set a (mI (z + c))) st G h
  | _ => False
def o_bin (f : Int → Int → Int) (K : ms_K) : ms_K := fun L st G h => i1 st (fun y r => i1 r (fun x r => rg (f x y) ∧ K L (mI (f x y) :: r) G h))
def o_div (K : ms_K) : ms_K := fun L st G h => i1 st (fun y r => i1 r (fun x r => ¬ y = 0 ∧ rg (x.tdiv y) ∧ K L (mI (x.tdiv y) :: r) G h))
def o_rem (K : ms_K) : ms_K := fun L st G h => i1 st (fun y r => i1 r (fun x r => ¬ y = 0 ∧ K L (mI (x.tmod y) :: r) G h))
def o_neg (K : ms_K) : ms_K := fun L st G h => i1 st (fun x r => rg (-x) ∧ K L (mI (-x) :: r) G h)
def o_and (K : ms_K) : ms_K := fun L st G h => i1 st (fun y r => i1 r (fun x r => if y = 1 then K L (mI (x % 2) :: r) G h else if y = 31 then K L (mI (x % 32) :: r) G h else 0 ≤ x ∧ 0 ≤ y ∧ K L (mI ((x.toNat &&& y.toNat : Nat) : Int) :: r) G h))
def o_shl (K : ms_K) : ms_K := fun L st G h => i1 st (fun y r => i1 r (fun x r => 0 ≤ y ∧ y ≤ 30 ∧ 0 ≤ x ∧ rg (x * 2 ^ y.toNat) ∧ K L (mI (x * 2 ^ y.toNat) :: r) G h))
def o_shr (K : ms_K) : ms_K := fun L st G h => i1 st (fun y r => i1 r (fun x r => 0 ≤ y ∧ y ≤ 30 ∧ 0 ≤ x ∧ K L (mI (x / 2 ^ y.toNat) :: r) G h))
def o_dup (K : ms_K) : ms_K := fun L st G h => match st with
  | Sum.inl z :: r => K L (mI z :: mI z :: r) G h
  | Sum.inr (Sum.inr x) :: r => K L (Sum.inr (Sum.inr x) :: Sum.inr (Sum.inr x) :: r) G h
  | _ => False
def o_pop (K : ms_K) : ms_K := fun L st G h => i1 st (fun _ r => K L r G h)
def o_dup2 (K : ms_K) : ms_K := fun L st G h => i1 st (fun i r => r1 r (fun z r => K L (mI i :: mR z :: mI i :: mR z :: r) G h))
def o_if (q : ClassFile.Cond) (J K : ms_K) : ms_K := fun L st G h => i1 st (fun x r => match q with
  | .eq => (x = 0 → J L r G h) ∧ (¬ x = 0 → K L r G h)
  | .ne => (¬ x = 0 → J L r G h) ∧ (x = 0 → K L r G h)
  | .lt => (x < 0 → J L r G h) ∧ (0 ≤ x → K L r G h)
  | .ge => (0 ≤ x → J L r G h) ∧ (x < 0 → K L r G h)
  | .gt => (0 < x → J L r G h) ∧ (x ≤ 0 → K L r G h)
  | .le => (x ≤ 0 → J L r G h) ∧ (0 < x → K L r G h))
def o_icmp (q : ClassFile.Cond) (J K : ms_K) : ms_K := fun L st G h => i1 st (fun y r => i1 r (fun x r => match q with
  | .eq => (x = y → J L r G h) ∧ (¬ x = y → K L r G h)
  | .ne => (¬ x = y → J L r G h) ∧ (x = y → K L r G h)
  | .lt => (x < y → J L r G h) ∧ (y ≤ x → K L r G h)
  | .ge => (y ≤ x → J L r G h) ∧ (x < y → K L r G h)
  | .gt => (y < x → J L r G h) ∧ (x ≤ y → K L r G h)
  | .le => (x ≤ y → J L r G h) ∧ (y < x → K L r G h)))
def o_sw : List (Int × Nat) → Nat → Int → (Nat → Prop) → Prop
  | [], d, _, k => k d
  | (v, tg) :: t, d, x, k => (x = v → k tg) ∧ (¬ x = v → o_sw t d x k)
def o_switch (t : List (Int × Nat)) (d : Nat) (J : Nat → ms_K) : ms_K := fun L st G h => i1 st (fun x r => o_sw t d x (fun tg => J tg L r G h))
def o_get (c : Int) (a b : Nat) (K : ms_K) : ms_K := fun L st G h => r1 st (fun z r => ms_ob G.1 z a ∧ (if b = 3 then 0 ≤ h z c ∧ K L (mR (h z c) :: r) G h else if b = 2 then K L (mL (h z c) :: r) G h else K L (mI (h z c) :: r) G h))
def o_put (c : Int) (a b : Nat) (K : ms_K) : ms_K := fun L st G h =>
  if b = 3 then r1 st (fun v r => r1 r (fun z r => ms_ob G.1 z a ∧ K L r G (hs h z c v)))
  else if b = 2 then l1 st (fun v r => r1 r (fun z r => ms_ob G.1 z a ∧ K L r G (hs h z c v)))
  else if b = 1 then i1 st (fun v r => r1 r (fun z r => ms_ob G.1 z a ∧ (v = 0 ∨ v = 1) ∧ K L r G (hs h z c v)))
  else i1 st (fun v r => r1 r (fun z r => ms_ob G.1 z a ∧ K L r G (hs h z c v)))
def o_iald (X : ms_Z) (K : ms_K) : ms_K := fun L st G h => i1 st (fun i r => match r with
  | Sum.inr (Sum.inr (Sum.inl z)) :: r => ms_ar G.1 z 10 i (K L (mI (h z i) :: r) G h)
  | Sum.inr (Sum.inr (Sum.inr n)) :: r => ∃ q, X n = some q ∧ 0 ≤ i ∧ i < q.1 ∧ K L (mI (q.2 i) :: r) G h
  | _ => False)
def o_iast (K : ms_K) : ms_K := fun L st G h => i1 st (fun v r => i1 r (fun i r => r1 r (fun z r => ms_ar G.1 z 10 i (K L r G (hs h z i v)))))
def o_zald (K : ms_K) : ms_K := fun L st G h => i1 st (fun i r => r1 r (fun z r => ms_ar G.1 z 11 i (K L (mI (h z i) :: r) G h)))
def o_zast (K : ms_K) : ms_K := fun L st G h => i1 st (fun v r => i1 r (fun i r => r1 r (fun z r => (v = 0 ∨ v = 1) ∧ ms_ar G.1 z 11 i (K L r G (hs h z i v)))))
def o_aald (K : ms_K) : ms_K := fun L st G h => i1 st (fun i r => r1 r (fun z r => ms_ar G.1 z 12 i (0 ≤ h z i ∧ K L (mR (h z i) :: r) G h)))
def o_aast (K : ms_K) : ms_K := fun L st G h => r1 st (fun v r => i1 r (fun i r => r1 r (fun z r => ms_ob G.1 v 1 ∧ ms_ar G.1 z 12 i (K L r G (hs h z i v)))))
def o_len (X : ms_Z) (K : ms_K) : ms_K := fun L st G h => match st with
  | Sum.inr (Sum.inr (Sum.inr n)) :: r => ∃ q, X n = some q ∧ K L (mI q.1 :: r) G h
  | _ => False
/-- how a call goes on -/
def o_back (kc ks : Nat) (K : ms_K) (L r : List ms_V) (G : ms_G) : ms_Q := fun v S' h' => match v with
  | none => K L r (S', G.2.1 + kc, G.2.2 + ks) h'
  | some v => K L (v :: r) (S', G.2.1 + kc, G.2.2 + ks) h'
/-- a call of method a with b arguments; d: the receiver's class and 1, or 0 -/
def o_call (O : ms_O) (mc ms a b d : Nat) (t : List (Int × Nat)) (K : ms_K) : ms_K := fun L st G h =>
  b ≤ st.length ∧ (st.drop b).length ≤ 4 ∧ (st.take b).all ms_nl = true ∧ (match d with | 0 => True | ci + 1 => ∃ z As, (st.take b).reverse = mR z :: As ∧ ms_ob G.1 z ci) ∧
  (match t with | [] => O a (st.take b).reverse G.1 h (o_back 0 0 K L (st.drop b) G) | (kc, ks) :: _ => G.2.1 + kc.toNat ≤ mc ∧ G.2.2 + ks ≤ ms ∧ O a (st.take b).reverse G.1 h (o_back kc.toNat ks K L (st.drop b) G))
def o_max (K : ms_K) : ms_K := fun L st G h => i1 st (fun y r => i1 r (fun x r => r.length ≤ 4 ∧ K L (mI (max x y) :: r) G h))
def o_min (K : ms_K) : ms_K := fun L st G h => i1 st (fun y r => i1 r (fun x r => r.length ≤ 4 ∧ K L (mI (min x y) :: r) G h))
def o_copy (K : ms_K) : ms_K := fun L st G h => i1 st (fun n r => i1 r (fun dp r => r1 r (fun d r => i1 r (fun sp r => r1 r (fun s r => r.length ≤ 4 ∧ 0 ≤ n ∧ 0 ≤ sp ∧ 0 ≤ dp ∧
  ∃ n0 n1 : Nat, ms_sh G.1 s = some (10, n0) ∧ ms_sh G.1 d = some (10, n1) ∧ sp + n ≤ n0 ∧ dp + n ≤ n1 ∧ K L r G (ms_cpy h s sp d dp n))))))
def o_obj (K : ms_K) : ms_K := fun L st G h => r1 st (fun _ r => r.length ≤ 4 ∧ K L r G h)
def o_lpush (c : Int) (K : ms_K) : ms_K := fun L st G h => K L (mL c :: st) G h
def o_ladd (K : ms_K) : ms_K := fun L st G h => l1 st (fun y r => l1 r (fun x r => rg (x + y) ∧ K L (mL (x + y) :: r) G h))
def o_lcmp (K : ms_K) : ms_K := fun L st G h => l1 st (fun y r => l1 r (fun x r => x = y ∧ K L (mI 0 :: r) G h))
def o_new (mc ms a : Nat) (K : ms_K) : ms_K := fun L st G h => G.1.length < 1000 ∧ G.2.1 + 1 ≤ mc ∧ G.2.2 + ms_N a ≤ ms ∧ K L (mR G.1.length :: st) (G.1 ++ [(a, ms_N a)], G.2.1 + 1, G.2.2 + ms_N a) (ms_nw h G.1.length a)
def o_newa (mc ms kd : Nat) (K : ms_K) : ms_K := fun L st G h => i1 st (fun n r => 0 ≤ n ∧ (n ≤ 100000 ∧ G.1.length < 1000) ∧ G.2.1 + 1 ≤ mc ∧ G.2.2 + n.toNat ≤ ms ∧ K L (mR G.1.length :: r) (G.1 ++ [(kd, n.toNat)], G.2.1 + 1, G.2.2 + n.toNat) (ms_nw h G.1.length kd))
def o_iret (mc ms b : Nat) (Q : ms_Q) : ms_K := fun _ st G h => match st with
  | [Sum.inl z] => (b = 1 → z = 0 ∨ z = 1) ∧ G.2.1 ≤ mc ∧ G.2.2 ≤ ms ∧ Q (some (mI z)) G.1 h
  | _ => False
def o_lret (mc ms : Nat) (Q : ms_Q) : ms_K := fun _ st G h => match st with
  | [Sum.inr (Sum.inl z)] => G.2.1 ≤ mc ∧ G.2.2 ≤ ms ∧ Q (some (mL z)) G.1 h
  | _ => False
def o_vret (mc ms : Nat) (Q : ms_Q) : ms_K := fun _ st G h => match st with
  | [] => G.2.1 ≤ mc ∧ G.2.2 ≤ ms ∧ Q none G.1 h
  | _ => False
/-- one instruction -/
def ms_ex (O : ms_O) (X : ms_Z) (mc ms : Nat) (Q : ms_Q) (J : Nat → ms_K) (K : ms_K) (raw : Instr) (x : ms_X) : ms_K := match x with
  | (c, a, b, d, t, _) => match raw with
    | .iconst _ => fun L st G h => K L (mI c :: st) G h
    | .bipush _ => fun L st G h => K L (mI c :: st) G h
    | .sipush _ => fun L st G h => K L (mI c :: st) G h
    | .ldc _ => fun L st G h => K L (mI c :: st) G h
    | .ldc_w _ => fun L st G h => K L (mI c :: st) G h
    | .iload _ => o_iload a K
    | .iload_n _ => o_iload a K
    | .aload _ => o_aload a K
    | .aload_n _ => o_aload a K
    | .istore _ => o_istore a K
    | .istore_n _ => o_istore a K
    | .astore _ => o_astore a K
    | .astore_n _ => o_astore a K
    | .iinc _ _ => o_iinc a c K
    | .iadd => o_bin (fun x y => x + y) K
    | .isub => o_bin (fun x y => x - y) K
    | .imul => o_bin (fun x y => x * y) K
    | .idiv => o_div K
    | .irem => o_rem K
    | .ineg => o_neg K
    | .iand => o_and K
    | .ishl => o_shl K
    | .ishr => o_shr K
    | .iushr => o_shr K
    | .dup => o_dup K
    | .pop => o_pop K
    | .dup2 => o_dup2 K
    | .ifCond q _ => o_if q (J a) K
    | .if_icmp q _ => o_icmp q (J a) K
    | .goto _ => J a
    | .nop => J a
    | .tableswitch _ _ _ _ => o_switch t a J
    | .lookupswitch _ _ => o_switch t a J
    | .getfield _ => o_get c a b K
    | .putfield _ => o_put c a b K
    | .iaload => o_iald X K
    | .iastore => o_iast K
    | .baload => o_zald K
    | .bastore => o_zast K
    | .aaload => o_aald K
    | .aastore => o_aast K
    | .arraylength => o_len X K
    | .getstatic _ => fun L st G h => K L (mE 1 :: st) G h
    | .invokevirtual _ => o_call O mc ms a b d t K
    | .invokestatic _ => if a = 1000 then o_max K else if a = 1001 then o_min K else if a = 1002 then o_copy K else o_call O mc ms a b d t K
    | .invokespecial _ => if a = 1003 then o_obj K else o_call O mc ms a b d t K
    | .lconst _ => o_lpush c K
    | .ldc2_w _ => o_lpush c K
    | .ladd => o_ladd K
    | .lcmp => o_lcmp K
    | .new _ => o_new mc ms a K
    | .newarray _ => o_newa mc ms b K
    | .anewarray _ => o_newa mc ms b K
    | .ireturn => o_iret mc ms b Q
    | .lreturn => o_lret mc ms Q
    | .return_ => o_vret mc ms Q
    | _ => fun _ _ _ _ => False
end
section
/-! The small machine is monotone; blocks, runs, what a method is owed. -/
section
variable {K K' : ms_K} {L st : List ms_V} {G : ms_G} {h : ms_H}
theorem o_iload_m {a : Nat} (hK : ∀ L st G h, K L st G h → K' L st G h) (q : o_iload a K L st G h) : o_iload a K' L st G h := by
  unfold o_iload at q ⊢
  split at q
  · exact hK _ _ _ _ q
  · exact q.elim
theorem o_aload_m {a : Nat} (hK : ∀ L st G h, K L st G h → K' L st G h) (q : o_aload a K L st G h) : o_aload a K' L st G h := by
  unfold o_aload at q ⊢
  split at q
  · exact hK _ _ _ _ q
  · exact q.elim
theorem o_iinc_m {a : Nat} {c : Int} (hK : ∀ L st G h, K L st G h → K' L st G h) (q : o_iinc a c K L st G h) : o_iinc a c K' L st G h := by
  unfold o_iinc at q ⊢
  split at q
  · exact ⟨q.1, hK _ _ _ _ q.2⟩
  · exact q.elim
theorem o_dup_m (hK : ∀ L st G h, K L st G h → K' L st G h) (q : o_dup K L st G h) : o_dup K' L st G h := by
  unfold o_dup at q ⊢
  split at q
  · exact hK _ _ _ _ q
  · exact hK _ _ _ _ q
  · exact q.elim
theorem o_if_m {q : ClassFile.Cond} {J J' : ms_K} (hJ : ∀ L st G h, J L st G h → J' L st G h) (hK : ∀ L st G h, K L st G h → K' L st G h) (x : o_if q J K L st G h) : o_if q J' K' L st G h := by
  refine i1_m (fun z r => ?_) x
  cases q <;> exact fun w => ⟨fun u => hJ _ _ _ _ (w.1 u), fun u => hK _ _ _ _ (w.2 u)⟩
theorem o_icmp_m {q : ClassFile.Cond} {J J' : ms_K} (hJ : ∀ L st G h, J L st G h → J' L st G h) (hK : ∀ L st G h, K L st G h → K' L st G h) (x : o_icmp q J K L st G h) : o_icmp q J' K' L st G h := by
  refine i1_m (fun z r => i1_m (fun z2 r => ?_)) x
  cases q <;> exact fun w => ⟨fun u => hJ _ _ _ _ (w.1 u), fun u => hK _ _ _ _ (w.2 u)⟩
theorem o_sw_m {x : Int} {d : Nat} {k k' : Nat → Prop} (hk : ∀ t, k t → k' t) : ∀ (t : List (Int × Nat)), o_sw t d x k → o_sw t d x k'
  | [], q => hk _ q
  | (_, _) :: t, q => ⟨fun u => hk _ (q.1 u), fun u => o_sw_m hk t (q.2 u)⟩
theorem o_switch_m {t : List (Int × Nat)} {d : Nat} {J J' : Nat → ms_K} (hJ : ∀ t L st G h, J t L st G h → J' t L st G h) (x : o_switch t d J L st G h) : o_switch t d J' L st G h :=
  i1_m (fun _ _ q => o_sw_m (fun t => hJ t _ _ _ _) _ q) x
theorem o_and_m (hK : ∀ L st G h, K L st G h → K' L st G h) (q : o_and K L st G h) : o_and K' L st G h := by
  refine i1_m (fun y r => i1_m (fun x r => ?_)) q
  split
  · exact hK _ _ _ _
  · split
    · exact hK _ _ _ _
    · exact fun w => ⟨w.1, w.2.1, hK _ _ _ _ w.2.2⟩
theorem o_get_m {c : Int} {a b : Nat} (hK : ∀ L st G h, K L st G h → K' L st G h) (q : o_get c a b K L st G h) : o_get c a b K' L st G h := by
  refine r1_m (fun z r w => ⟨w.1, ?_⟩) q
  have w2 := w.2
  split
  · rename_i hb; rw [if_pos hb] at w2; exact ⟨w2.1, hK _ _ _ _ w2.2⟩
  · rename_i hb; rw [if_neg hb] at w2
    split
    · rename_i hb; rw [if_pos hb] at w2; exact hK _ _ _ _ w2
    · rename_i hb; rw [if_neg hb] at w2; exact hK _ _ _ _ w2
theorem o_put_m {c : Int} {a b : Nat} (hK : ∀ L st G h, K L st G h → K' L st G h) (q : o_put c a b K L st G h) : o_put c a b K' L st G h := by
  unfold o_put at q ⊢
  split
  · rename_i hb; rw [if_pos hb] at q; exact r1_m (fun v r => r1_m (fun z r w => ⟨w.1, hK _ _ _ _ w.2⟩)) q
  · rename_i hb; rw [if_neg hb] at q
    split
    · rename_i hb; rw [if_pos hb] at q; exact l1_m (fun v r => r1_m (fun z r w => ⟨w.1, hK _ _ _ _ w.2⟩)) q
    · rename_i hb; rw [if_neg hb] at q
      split
      · rename_i hb; rw [if_pos hb] at q; exact i1_m (fun v r => r1_m (fun z r w => ⟨w.1, w.2.1, hK _ _ _ _ w.2.2⟩)) q
      · rename_i hb; rw [if_neg hb] at q; exact i1_m (fun v r => r1_m (fun z r w => ⟨w.1, hK _ _ _ _ w.2⟩)) q
theorem o_iald_m {X : ms_Z} (hK : ∀ L st G h, K L st G h → K' L st G h) (q : o_iald X K L st G h) : o_iald X K' L st G h := by
  refine i1_m (fun i r w => ?_) q
  split at w
  · exact ms_ar_m (hK _ _ _ _) w
  · obtain ⟨x, w1, w2, w3, w4⟩ := w
    exact ⟨x, w1, w2, w3, hK _ _ _ _ w4⟩
  · exact w.elim
theorem o_len_m {X : ms_Z} (hK : ∀ L st G h, K L st G h → K' L st G h) (q : o_len X K L st G h) : o_len X K' L st G h := by
  unfold o_len at q ⊢
  split at q
  · obtain ⟨x, w1, w2⟩ := q
    exact ⟨x, w1, hK _ _ _ _ w2⟩
  · exact q.elim
theorem o_back_m {kc ks : Nat} {r : List ms_V} (hK : ∀ L st G h, K L st G h → K' L st G h) (v : Option ms_V) (S : ms_S) (h : ms_H) (q : o_back kc ks K L r G v S h) : o_back kc ks K' L r G v S h := by
  cases v <;> exact hK _ _ _ _ q
def ms_mono (O : ms_O) : Prop := ∀ y args S h Q Q', (∀ v S h, Q v S h → Q' v S h) → O y args S h Q → O y args S h Q'
theorem o_call_m {O : ms_O} {mc ms a b d : Nat} {t : List (Int × Nat)} (hO : ms_mono O) (hK : ∀ L st G h, K L st G h → K' L st G h) (q : o_call O mc ms a b d t K L st G h) : o_call O mc ms a b d t K' L st G h := by
  refine ⟨q.1, q.2.1, q.2.2.1, q.2.2.2.1, ?_⟩
  have w := q.2.2.2.2
  split at w
  · exact hO _ _ _ _ _ _ (o_back_m hK) w
  · exact ⟨w.1, w.2.1, hO _ _ _ _ _ _ (o_back_m hK) w.2.2⟩
end
section
variable {O : ms_O} {X : ms_Z} {mc ms : Nat} {Q Q' : ms_Q} {J J' : Nat → ms_K} {K K' : ms_K} {L st : List ms_V} {G : ms_G} {h : ms_H}
theorem o_iret_m {b : Nat} (hQ : ∀ v S h, Q v S h → Q' v S h) (q : o_iret mc ms b Q L st G h) : o_iret mc ms b Q' L st G h := by
  unfold o_iret at q ⊢
  split at q
  · exact ⟨q.1, q.2.1, q.2.2.1, hQ _ _ _ q.2.2.2⟩
  · exact q.elim
theorem o_lret_m (hQ : ∀ v S h, Q v S h → Q' v S h) (q : o_lret mc ms Q L st G h) : o_lret mc ms Q' L st G h := by
  unfold o_lret at q ⊢
  split at q
  · exact ⟨q.1, q.2.1, hQ _ _ _ q.2.2⟩
  · exact q.elim
theorem o_vret_m (hQ : ∀ v S h, Q v S h → Q' v S h) (q : o_vret mc ms Q L st G h) : o_vret mc ms Q' L st G h := by
  unfold o_vret at q ⊢
  split at q
  · exact ⟨q.1, q.2.1, hQ _ _ _ q.2.2⟩
  · exact q.elim
set_option maxHeartbeats 4000000 in
theorem ms_ex_m (hO : ms_mono O) (hQ : ∀ v S h, Q v S h → Q' v S h) (hJ : ∀ t L st G h, J t L st G h → J' t L st G h) (hK : ∀ L st G h, K L st G h → K' L st G h) (raw : Instr) (x : ms_X)
    (q : ms_ex O X mc ms Q J K raw x L st G h) : ms_ex O X mc ms Q' J' K' raw x L st G h := by
  obtain ⟨c, a, b, d, t, w⟩ := x
  cases raw
  case iconst => exact hK _ _ _ _ q
  case bipush => exact hK _ _ _ _ q
  case sipush => exact hK _ _ _ _ q
  case ldc => exact hK _ _ _ _ q
  case ldc_w => exact hK _ _ _ _ q
  case iload => exact o_iload_m hK q
  case iload_n => exact o_iload_m hK q
  case aload => exact o_aload_m hK q
  case aload_n => exact o_aload_m hK q
  case istore => exact ⟨q.1, i1_m (fun _ _ => hK _ _ _ _) q.2⟩
  case istore_n => exact ⟨q.1, i1_m (fun _ _ => hK _ _ _ _) q.2⟩
  case astore => exact ⟨q.1, r1_m (fun _ _ => hK _ _ _ _) q.2⟩
  case astore_n => exact ⟨q.1, r1_m (fun _ _ => hK _ _ _ _) q.2⟩
  case iinc => exact o_iinc_m hK q
  case iadd => exact i1_m (fun _ _ => i1_m (fun _ _ w => ⟨w.1, hK _ _ _ _ w.2⟩)) q
  case isub => exact i1_m (fun _ _ => i1_m (fun _ _ w => ⟨w.1, hK _ _ _ _ w.2⟩)) q
  case imul => exact i1_m (fun _ _ => i1_m (fun _ _ w => ⟨w.1, hK _ _ _ _ w.2⟩)) q
  case idiv => exact i1_m (fun _ _ => i1_m (fun _ _ w => ⟨w.1, w.2.1, hK _ _ _ _ w.2.2⟩)) q
  case irem => exact i1_m (fun _ _ => i1_m (fun _ _ w => ⟨w.1, hK _ _ _ _ w.2⟩)) q
  case ineg => exact i1_m (fun _ _ w => ⟨w.1, hK _ _ _ _ w.2⟩) q
  case iand => exact o_and_m hK q
  case ishl => exact i1_m (fun _ _ => i1_m (fun _ _ w => ⟨w.1, w.2.1, w.2.2.1, w.2.2.2.1, hK _ _ _ _ w.2.2.2.2⟩)) q
  case ishr => exact i1_m (fun _ _ => i1_m (fun _ _ w => ⟨w.1, w.2.1, w.2.2.1, hK _ _ _ _ w.2.2.2⟩)) q
  case iushr => exact i1_m (fun _ _ => i1_m (fun _ _ w => ⟨w.1, w.2.1, w.2.2.1, hK _ _ _ _ w.2.2.2⟩)) q
  case dup => exact o_dup_m hK q
  case pop => exact i1_m (fun _ _ => hK _ _ _ _) q
  case dup2 => exact i1_m (fun _ _ => r1_m (fun _ _ => hK _ _ _ _)) q
  case ifCond => exact o_if_m (hJ _) hK q
  case if_icmp => exact o_icmp_m (hJ _) hK q
  case goto => exact hJ _ _ _ _ _ q
  case nop => exact hJ _ _ _ _ _ q
  case tableswitch => exact o_switch_m hJ q
  case lookupswitch => exact o_switch_m hJ q
  case getfield => exact o_get_m hK q
  case putfield => exact o_put_m hK q
  case iaload => exact o_iald_m hK q
  case iastore => exact i1_m (fun _ _ => i1_m (fun _ _ => r1_m (fun _ _ => ms_ar_m (hK _ _ _ _)))) q
  case baload => exact i1_m (fun _ _ => r1_m (fun _ _ => ms_ar_m (hK _ _ _ _))) q
  case bastore => exact i1_m (fun _ _ => i1_m (fun _ _ => r1_m (fun _ _ w => ⟨w.1, ms_ar_m (hK _ _ _ _) w.2⟩))) q
  case aaload => exact i1_m (fun _ _ => r1_m (fun _ _ => ms_ar_m (fun w => ⟨w.1, hK _ _ _ _ w.2⟩))) q
  case aastore => exact r1_m (fun _ _ => i1_m (fun _ _ => r1_m (fun _ _ w => ⟨w.1, ms_ar_m (hK _ _ _ _) w.2⟩))) q
  case arraylength => exact o_len_m hK q
  case getstatic => exact hK _ _ _ _ q
  case invokevirtual => exact o_call_m hO hK q
  case invokestatic =>
    simp only [ms_ex] at q ⊢
    split
    · rename_i hb; rw [if_pos hb] at q; exact i1_m (fun _ _ => i1_m (fun _ _ w => ⟨w.1, hK _ _ _ _ w.2⟩)) q
    · rename_i hb; rw [if_neg hb] at q
      split
      · rename_i hb; rw [if_pos hb] at q; exact i1_m (fun _ _ => i1_m (fun _ _ w => ⟨w.1, hK _ _ _ _ w.2⟩)) q
      · rename_i hb; rw [if_neg hb] at q
        split
        · rename_i hb; rw [if_pos hb] at q
          refine i1_m (fun _ _ => i1_m (fun _ _ => r1_m (fun _ _ => i1_m (fun _ _ => r1_m (fun _ _ w => ?_))))) q
          obtain ⟨w1, w2, w3, w4, n0, n1, w5, w6, w7, w8, w9⟩ := w
          exact ⟨w1, w2, w3, w4, n0, n1, w5, w6, w7, w8, hK _ _ _ _ w9⟩
        · rename_i hb; rw [if_neg hb] at q; exact o_call_m hO hK q
  case invokespecial =>
    simp only [ms_ex] at q ⊢
    split
    · rename_i hb; rw [if_pos hb] at q; exact r1_m (fun _ _ w => ⟨w.1, hK _ _ _ _ w.2⟩) q
    · rename_i hb; rw [if_neg hb] at q; exact o_call_m hO hK q
  case lconst => exact hK _ _ _ _ q
  case ldc2_w => exact hK _ _ _ _ q
  case ladd => exact l1_m (fun _ _ => l1_m (fun _ _ w => ⟨w.1, hK _ _ _ _ w.2⟩)) q
  case lcmp => exact l1_m (fun _ _ => l1_m (fun _ _ w => ⟨w.1, hK _ _ _ _ w.2⟩)) q
  case new => exact ⟨q.1, q.2.1, q.2.2.1, hK _ _ _ _ q.2.2.2⟩
  case newarray => exact i1_m (fun _ _ w => ⟨w.1, w.2.1, w.2.2.1, w.2.2.2.1, hK _ _ _ _ w.2.2.2.2⟩) q
  case anewarray => exact i1_m (fun _ _ w => ⟨w.1, w.2.1, w.2.2.1, w.2.2.2.1, hK _ _ _ _ w.2.2.2.2⟩) q
  case ireturn => exact o_iret_m (L := L) hQ q
  case lreturn => exact o_lret_m (L := L) hQ q
  case return_ => exact o_vret_m (L := L) hQ q
  all_goals exact q.elim
end
/-- a method: name, bytes, locals, answer, (cells, slots), (kind: 0 virtual, 1 static, 2 <init>; arguments), places of its words, blocks, heads of loops -/
abbrev ms_M : Type := MethodName × ByteArray × Nat × Option FieldType × (Nat × Nat) × (Nat × Nat) × List Nat × List ms_B × List ms_B
def M_nm (M : ms_M) : MethodName := M.1
def M_by (M : ms_M) : ByteArray := M.2.1
def M_ml (M : ms_M) : Nat := M.2.2.1
def M_rt (M : ms_M) : Option FieldType := M.2.2.2.1
def M_mc (M : ms_M) : Nat := M.2.2.2.2.1.1
def M_ms (M : ms_M) : Nat := M.2.2.2.2.1.2
def M_kd (M : ms_M) : Nat := M.2.2.2.2.2.1.1
def M_na (M : ms_M) : Nat := M.2.2.2.2.2.1.2
def M_pl (M : ms_M) : List Nat := M.2.2.2.2.2.2.1
def M_bl (M : ms_M) (t : Nat) : ms_B := if 100 ≤ t then M.2.2.2.2.2.2.2.2.getD (t - 100) [] else M.2.2.2.2.2.2.2.1.getD t []
/-- a relation on states that holds where one instruction leads into it -/
def ms_cl (O : ms_O) (X : ms_Z) (M : ms_M) (Q : ms_Q) (R : ms_B → ms_K) : Prop :=
  ∀ pc raw len x rest L st G h, ms_ex O X (M_mc M) (M_ms M) Q (fun t => R (M_bl M t)) (R rest) raw x L st G h → R ((pc, raw, len, x) :: rest) L st G h
def ms_WP (O : ms_O) (X : ms_Z) (M : ms_M) (Q : ms_Q) (B : ms_B) : ms_K := fun L st G h => ∀ R : ms_B → ms_K, ms_cl O X M Q R → R B L st G h
def ms_seq (O : ms_O) (X : ms_Z) (M : ms_M) (Q : ms_Q) (J : Nat → ms_K) : ms_B → ms_K
  | [] => fun _ _ _ _ => False
  | (_, raw, _, x) :: rest => ms_ex O X (M_mc M) (M_ms M) Q J (ms_seq O X M Q J rest) raw x
def ms_run (O : ms_O) (X : ms_Z) (M : ms_M) (Q : ms_Q) (R : Nat → ms_K) : Nat → Nat → ms_K
  | 0, t => R t
  | k + 1, t => if 100 ≤ t then R t else ms_seq O X M Q (ms_run O X M Q R k) (M_bl M t)
section
variable {O : ms_O} {X : ms_Z} {M : ms_M} {Q : ms_Q}
theorem ms_seq_R {R : ms_B → ms_K} {J : Nat → ms_K} (hO : ms_mono O) (hR : ms_cl O X M Q R) (hJ : ∀ t L st G h, J t L st G h → R (M_bl M t) L st G h) : ∀ (B : ms_B) (L st : List ms_V) (G : ms_G) (h : ms_H), ms_seq O X M Q J B L st G h → R B L st G h
  | [], _, _, _, _, q => q.elim
  | (pc, raw, len, x) :: rest, L, st, G, h, q => hR pc raw len x rest L st G h (ms_ex_m hO (fun _ _ _ u => u) hJ (fun L st G h => ms_seq_R hO hR hJ rest L st G h) raw x q)
theorem ms_run_R {R : ms_B → ms_K} (hO : ms_mono O) (hR : ms_cl O X M Q R) : ∀ (k t : Nat) (L st : List ms_V) (G : ms_G) (h : ms_H), ms_run O X M Q (fun t => R (M_bl M t)) k t L st G h → R (M_bl M t) L st G h
  | 0, t, L, st, G, h, q => q
  | k + 1, t, L, st, G, h, q => by
    unfold ms_run at q
    split at q
    · exact q
    · exact ms_seq_R hO hR (ms_run_R hO hR k) _ _ _ _ _ q
/-- what is owed of a state closes it: from the block's instructions, or from a walk over blocks -/
theorem ms_WP_cl (hO : ms_mono O) : ms_cl O X M Q (fun B => ms_WP O X M Q B) := by
  intro pc raw len x rest L st G h q R hR
  exact hR pc raw len x rest L st G h (ms_ex_m hO (fun _ _ _ u => u) (fun t L st G h u => u R hR) (fun L st G h u => u R hR) raw x q)
theorem ms_go (hO : ms_mono O) (k t : Nat) {L st : List ms_V} {G : ms_G} {h : ms_H} (q : ms_seq O X M Q (ms_run O X M Q (fun t => ms_WP O X M Q (M_bl M t)) k) (M_bl M t) L st G h) : ms_WP O X M Q (M_bl M t) L st G h :=
  ms_seq_R (R := fun B => ms_WP O X M Q B) hO (ms_WP_cl hO) (ms_run_R (R := fun B => ms_WP O X M Q B) hO (ms_WP_cl hO) k) _ _ _ _ _ q
theorem ms_WP_m {Q' : ms_Q} (hO : ms_mono O) (hQ : ∀ v S h, Q v S h → Q' v S h) {B : ms_B} {L st : List ms_V} {G : ms_G} {h : ms_H} (q : ms_WP O X M Q B L st G h) : ms_WP O X M Q' B L st G h := by
  intro R hR
  refine q R (fun pc raw len x rest L st G h w => hR pc raw len x rest L st G h ?_)
  exact ms_ex_m hO hQ (fun _ _ _ _ _ u => u) (fun _ _ _ _ u => u) raw x w
end
/-- the static array of orders -/
def ms_ord (i : Int) : Int := if i = 0 then 1 else if i = 1 then 1 else if i = 2 then 2 else if i = 3 then 6 else if i = 4 then 24 else if i = 5 then 120 else 720
def ms_X1 : ms_Z := fun n => if n = 1 then some (7, ms_ord) else none
def ms_pad (n : Nat) (vs : List ms_V) : List ms_V := vs ++ List.replicate (n - vs.length) (mL 0)
/-- method y, called with these arguments in this heap, comes back with Q, within d frames -/
def ms_Ok (P : List ms_M) : Nat → ms_O
  | 0 => fun _ _ _ _ _ => False
  | d + 1 => fun y args S h Q => ∃ M, P[y]? = some M ∧ args.length = M_na M ∧ ms_WP (ms_Ok P d) ms_X1 M Q (M_bl M 0) (ms_pad (M_ml M) args) [] (S, 0, 0) h
theorem ms_Ok_m (P : List ms_M) : ∀ d, ms_mono (ms_Ok P d)
  | 0, _, _, _, _, _, _, _, q => q.elim
  | d + 1, y, args, S, h, Q, Q', hQ, q => by
    obtain ⟨M, h1, h2, h3⟩ := q
    exact ⟨M, h1, h2, ms_WP_m (ms_Ok_m P d) hQ h3⟩
end
section
/-! Numbers, cells, locals: what the small machine's state stands for. -/
theorem rg_toInt {z : Int} (h : rg z) : (Int32.ofInt z).toInt = z := by
  unfold rg at h
  exact Int32.toInt_ofInt_of_le (by omega) (by omega)
theorem rg_inj {x y : Int} (hx : rg x) (hy : rg y) : Int32.ofInt x = Int32.ofInt y ↔ x = y := ⟨fun h => by rw [← rg_toInt hx, ← rg_toInt hy, h], fun h => by rw [h]⟩
theorem rg_lt {x y : Int} (hx : rg x) (hy : rg y) : Int32.ofInt x < Int32.ofInt y ↔ x < y := by rw [Int32.lt_iff_toInt_lt, rg_toInt hx, rg_toInt hy]
theorem rg_le {x y : Int} (hx : rg x) (hy : rg y) : Int32.ofInt x ≤ Int32.ofInt y ↔ x ≤ y := by rw [Int32.le_iff_toInt_le, rg_toInt hx, rg_toInt hy]
theorem rg_0 : rg 0 := by unfold rg; omega
theorem of_0 : Int32.ofInt 0 = 0 := rfl
theorem rg_div {x y : Int} (hx : rg x) (hy : rg y) (h : rg (x.tdiv y)) : Int32.ofInt x / Int32.ofInt y = Int32.ofInt (x.tdiv y) := by
  rw [← Int32.toInt_inj, Int32.toInt_div, rg_toInt hx, rg_toInt hy, rg_toInt h]
  unfold rg at h
  exact Int.bmod_eq_of_le (by omega) (by omega)
theorem rg_rem1 {x y : Int} (hx : rg x) : rg (x.tmod y) := by
  have h := Int.natAbs_tmod x y
  have h2 : x.natAbs % y.natAbs ≤ x.natAbs := Nat.mod_le _ _
  unfold rg at hx ⊢
  by_cases hp : 0 ≤ x
  · have := Int.tmod_nonneg y hp
    omega
  · have : (x.tmod y) ≤ 0 := by
      have h3 := Int.tmod_nonneg y (show 0 ≤ -x by omega)
      rw [Int.neg_tmod] at h3
      omega
    omega
theorem rg_cl {z : Int} (h : rg z) : (Int32.ofInt z).toNatClampNeg = z.toNat := by
  show (Int32.ofInt z).toInt.toNat = z.toNat
  rw [rg_toInt h]
theorem rg_in {z : Int} {n : Nat} (h : rg z) (h0 : 0 ≤ z) (h1 : z < n) : vp_in (Int32.ofInt z) n := by
  rw [vp_in_iff, rg_toInt h]
  exact ⟨h0, h1⟩
theorem of_nI {z : Int} (h : 0 ≤ z) : Int32.ofInt z = nI z.toNat := by
  show _ = Int32.ofNat z.toNat
  rw [← Int32.ofInt_eq_ofNat, Int.toNat_of_nonneg h]
theorem nI_of_cast (n : Nat) : nI n = Int32.ofInt (n : Int) := by
  show Int32.ofNat n = _
  rw [Int32.ofInt_eq_ofNat]
theorem of_tn (z : Int) : (Int32.ofInt z).toBitVec.toNat = (z % 4294967296).toNat := by
  show (BitVec.ofInt 32 z).toNat = _
  rw [BitVec.toNat_ofInt]
  rfl
theorem of_and1 (x : Int) : Int32.ofInt x &&& 1 = Int32.ofInt (x % 2) := by
  rw [pk_and (Int32.ofInt x) (m := 1) 1 (by decide), of_tn, nI_of_cast]
  congr 1
  omega
theorem of_and31 (x : Int) : Int32.ofInt x &&& 31 = Int32.ofInt (x % 32) := by
  rw [pk_and (Int32.ofInt x) (m := 31) 5 (by decide), of_tn, nI_of_cast]
  congr 1
  omega
theorem nb_and (a b : Nat) : nI a &&& nI b = nI (a &&& b) := by
  rw [← Int32.toBitVec_inj]
  show (BitVec.ofNat 32 a) &&& (BitVec.ofNat 32 b) = BitVec.ofNat 32 (a &&& b)
  rw [BitVec.ofNat_and]
theorem of_and {x y : Int} (hx : 0 ≤ x) (hy : 0 ≤ y) : Int32.ofInt x &&& Int32.ofInt y = Int32.ofInt ((x.toNat &&& y.toNat : Nat) : Int) := by
  rw [of_nI hx, of_nI hy, nb_and, nI_of_cast]
theorem sh_l : ∀ n, n < 31 → ((nI n &&& 31).toBitVec.smod 32).toNat = n := by decide +kernel
theorem sh_u : ∀ n, n < 31 → (((nI n).toUInt32 &&& Int32.toUInt32 31).toBitVec % 32).toNat = n := by decide +kernel
theorem cast_pow (k : Nat) : ((2 ^ k : Nat) : Int) = (2 : Int) ^ k := by
  rw [Int.natCast_pow]; rfl
theorem of_shl {x y : Int} (hx : 0 ≤ x) (hy : 0 ≤ y) (hy2 : y ≤ 30) (h : rg (x * 2 ^ y.toNat)) : Int32.ofInt x <<< (Int32.ofInt y &&& 31) = Int32.ofInt (x * 2 ^ y.toNat) := by
  have e : ((x.toNat * 2 ^ y.toNat : Nat) : Int) = x * 2 ^ y.toNat := by
    rw [Int.natCast_mul, cast_pow, Int.toNat_of_nonneg hx]
  rw [of_nI hx, of_nI hy, pk_shlN _ y.toNat (sh_l _ (by omega)) (by unfold rg at h; omega), nI_of_cast, e]
theorem of_shr {x y : Int} (hr : rg x) (hx : 0 ≤ x) (hy : 0 ≤ y) (hy2 : y ≤ 30) : Int32.ofInt x >>> (Int32.ofInt y &&& 31) = Int32.ofInt (x / 2 ^ y.toNat) := by
  have e : ((x.toNat / 2 ^ y.toNat : Nat) : Int) = x / 2 ^ y.toNat := by
    rw [Int.natCast_ediv, cast_pow, Int.toNat_of_nonneg hx]
  rw [of_nI hx, of_nI hy, pk_shrN (by unfold rg at hr; omega) _ y.toNat (sh_l _ (by omega)), nI_of_cast, e]
theorem of_ushr {x y : Int} (hr : rg x) (hx : 0 ≤ x) (hy : 0 ≤ y) (hy2 : y ≤ 30) : ((Int32.ofInt x).toUInt32 >>> ((Int32.ofInt y).toUInt32 &&& Int32.toUInt32 31)).toInt32 = Int32.ofInt (x / 2 ^ y.toNat) := by
  have e : ((x.toNat / 2 ^ y.toNat : Nat) : Int) = x / 2 ^ y.toNat := by
    rw [Int.natCast_ediv, cast_pow, Int.toNat_of_nonneg hx]
  rw [of_nI hx, of_nI hy, pk_ushrN (by unfold rg at hr; omega) _ y.toNat (sh_u _ (by omega)), nI_of_cast, e]
theorem rg_shr {x : Int} {k : Nat} (hr : rg x) (hx : 0 ≤ x) : rg (x / 2 ^ k) := by
  have h1 : 0 ≤ x / 2 ^ k := Int.ediv_nonneg hx (Int.pow_nonneg (by omega))
  have h2 : x / 2 ^ k ≤ x := Int.ediv_le_self _ hx
  unfold rg at hr ⊢
  omega
theorem rg_and {x y : Int} (hr : rg x) (hx : 0 ≤ x) : rg ((x.toNat &&& y.toNat : Nat) : Int) := by
  have h := Nat.and_le_left (n := x.toNat) (m := y.toNat)
  unfold rg at hr ⊢
  omega
theorem rg_max {x y : Int} (hx : rg x) (hy : rg y) : (if Int32.ofInt x < Int32.ofInt y then Int32.ofInt y else Int32.ofInt x) = Int32.ofInt (max x y) := by
  by_cases h : x < y
  · rw [if_pos ((rg_lt hx hy).mpr h), Int.max_eq_right (by omega)]
  · rw [if_neg (fun q => h ((rg_lt hx hy).mp q)), Int.max_eq_left (by omega)]
theorem rg_min {x y : Int} (hx : rg x) (hy : rg y) : (if Int32.ofInt y < Int32.ofInt x then Int32.ofInt y else Int32.ofInt x) = Int32.ofInt (min x y) := by
  by_cases h : y < x
  · rw [if_pos ((rg_lt hy hx).mpr h), Int.min_eq_right (by omega)]
  · rw [if_neg (fun q => h ((rg_lt hy hx).mp q)), Int.min_eq_left (by omega)]
/-- values -/
def ms_c (ad ex : Nat → Nat) : ms_V → Value
  | Sum.inl z => .int (Int32.ofInt z)
  | Sum.inr (Sum.inl z) => .long (Int64.ofInt z)
  | Sum.inr (Sum.inr (Sum.inl z)) => .ref (ad z.toNat)
  | Sum.inr (Sum.inr (Sum.inr n)) => .ref (ex n)
def ms_vok (S : ms_S) : ms_V → Prop
  | Sum.inl z => rg z
  | Sum.inr (Sum.inl z) => rg z
  | Sum.inr (Sum.inr (Sum.inl z)) => rg z ∧ 0 ≤ z ∧ z < S.length
  | Sum.inr (Sum.inr (Sum.inr _)) => True
theorem ms_c_cat {ad ex : Nat → Nat} {v : ms_V} (h : ms_nl v = true) : (ms_c ad ex v).category = 1 := by
  rcases v with z | z | z | z
  · rfl
  · cases h
  · rfl
  · rfl
theorem ms_c_cat2 (ad ex : Nat → Nat) (v : ms_V) : (ms_c ad ex v).category ≤ 2 := by
  rcases v with z | z | z | z <;> simp [ms_c, Value.category]
theorem ms_sum (ad ex : Nat → Nat) : ∀ (st : List ms_V), (((st.map (ms_c ad ex)).map fun v => v.category).sum) ≤ 2 * st.length
  | [] => by simp
  | v :: st => by
    have h1 := ms_sum ad ex st
    have h2 := ms_c_cat2 ad ex v
    simp only [List.map_cons, List.sum_cons, List.length_cons]
    omega
theorem ms_vok_mono {S S' : ms_S} (h : S.length ≤ S'.length) {v : ms_V} (hv : ms_vok S v) : ms_vok S' v := by
  rcases v with z | z | z | z
  · exact hv
  · exact hv
  · exact ⟨hv.1, hv.2.1, by have := hv.2.2; omega⟩
  · trivial
theorem ms_c_ext {S : ms_S} {ad ad' ex : Nat → Nat} (h : ∀ k, k < S.length → ad' k = ad k) {v : ms_V} (hv : ms_vok S v) : ms_c ad' ex v = ms_c ad ex v := by
  rcases v with z | z | z | z
  · rfl
  · rfl
  · show Value.ref _ = Value.ref _
    rw [h z.toNat (by have := hv.2; omega)]
  · rfl
theorem ms_c_exts {S : ms_S} {ad ad' ex : Nat → Nat} (h : ∀ k, k < S.length → ad' k = ad k) {vs : List ms_V} (hv : ∀ v ∈ vs, ms_vok S v) : vs.map (ms_c ad' ex) = vs.map (ms_c ad ex) :=
  List.map_congr_left (fun v hm => ms_c_ext h (hv v hm))
/-- locals -/
def lv1 (ad ex : Nat → Nat) (L : List ms_V) (i : Nat) : Option (Nat × Value) := match L[i]? with
  | some v => if ms_nl v = true then some (i, ms_c ad ex v) else none
  | none => none
def lvl (ad ex : Nat → Nat) (L : List ms_V) : List (Nat × Value) := (List.range L.length).filterMap (lv1 ad ex L)
theorem lvl_mem {ad ex : Nat → Nat} {L : List ms_V} {q : Nat × Value} : q ∈ lvl ad ex L ↔ ∃ v, L[q.1]? = some v ∧ ms_nl v = true ∧ q.2 = ms_c ad ex v := by
  unfold lvl
  rw [List.mem_filterMap]
  constructor
  · rintro ⟨i, hi, h⟩
    unfold lv1 at h
    split at h
    · rename_i v hv
      split at h
      · rename_i hn
        cases h
        exact ⟨v, hv, hn, rfl⟩
      · cases h
    · cases h
  · rintro ⟨v, hv, hn, he⟩
    refine ⟨q.1, List.mem_range.mpr (List.getElem?_eq_some_iff.mp hv).1, ?_⟩
    unfold lv1
    rw [hv]
    simp only [hn, if_true]
    rw [← he]
theorem lvl_at {ad ex : Nat → Nat} {L : List ms_V} {ls : Array Slot} {nL i : Nat} {v : ms_V} (h : lv_has ls nL (lvl ad ex L)) (hv : L[i]? = some v) (hn : ms_nl v = true) : ls[i]? = some (.val (ms_c ad ex v)) :=
  h.2.2 (i, ms_c ad ex v) (lvl_mem.mpr ⟨v, hv, hn, rfl⟩)
theorem lvl_set {ad ex : Nat → Nat} {L : List ms_V} {ls : Array Slot} {nL i : Nat} {v : ms_V} (hi : i < L.length) (h : lv_has ls nL ((i, ms_c ad ex v) :: (lvl ad ex L).filter (fun q => !(q.1 == i) && !(q.1 + 1 == i && q.2.category == 2)))) : lv_has ls nL (lvl ad ex (L.set i v)) := by
  refine ⟨h.1, h.2.1, fun q hq => ?_⟩
  obtain ⟨w, h1, h2, h3⟩ := lvl_mem.mp hq
  by_cases hqi : q.1 = i
  · rw [hqi, List.getElem?_set_self hi] at h1
    cases h1
    refine h.2.2 q (List.mem_cons.mpr (Or.inl ?_))
    rw [← h3, ← hqi]
  · rw [List.getElem?_set_ne (fun z => hqi z.symm)] at h1
    refine h.2.2 q (List.mem_cons.mpr (Or.inr (List.mem_filter.mpr ⟨lvl_mem.mpr ⟨w, h1, h2, h3⟩, ?_⟩)))
    have hc : q.2.category = 1 := by rw [h3]; exact ms_c_cat h2
    simp [hqi, hc]
theorem lvl_ext {S : ms_S} {ad ad' ex : Nat → Nat} {L : List ms_V} (h : ∀ k, k < S.length → ad' k = ad k) (hv : ∀ v ∈ L, ms_vok S v) : lvl ad' ex L = lvl ad ex L := by
  unfold lvl
  have : lv1 ad' ex L = lv1 ad ex L := by
    funext i
    unfold lv1
    split
    · rename_i v hi
      rw [ms_c_ext h (hv v (List.mem_of_getElem? hi))]
    · rfl
  rw [this]
end
section
/-! Cells: what the small machine's heap stands for. -/
abbrev ms_cls : List vw_C := [(RX0, TX0, 7), (RX1, TX1, 7), (RX2, TX2, 9), (RX3, TX3, 11), (RX4, TX4, 11), (RX5, TX5, 37)]
def ms_ty : Nat → Nat → FieldType
  | 0 => tyX0
  | 1 => tyX1
  | 2 => tyX2
  | 3 => tyX3
  | 4 => tyX4
  | _ => tyX5
def ms_tys (cA : Nat → ClassId) : List (ClassId × FieldType) := [(cA 0, .int), (cA 1, .boolean), (cA 2, .object RX1)]
def ms_rf (ad : Nat → Nat) (v : Int) : Option Nat := if v < 0 then none else some (ad v.toNat)
def ms_fv (ad : Nat → Nat) (t : Nat) (v : Int) : Value := if t = 3 then va_rf (ms_rf ad v) else if t = 2 then .long (Int64.ofInt v) else .int (Int32.ofInt v)
def ms_cell (ad : Nat → Nat) (cA : Nat → ClassId) (sh : Nat × Nat) (f : Int → Int) : va_E :=
  if sh.1 < 10 then .inr (sh.1, (List.range sh.2).map (fun k : Nat => ms_fv ad (ms_ft sh.1 k) (f k)))
  else if sh.1 = 12 then .inl (cA 2, sh.2, .inr (.inr (.inr (.inr (fun j => ms_rf ad (f j))))))
  else .inl (cA (sh.1 - 10), sh.2, .inl (fun j => Int32.ofInt (f j)))
def ms_ws (ad : Nat → Nat) (cA : Nat → ClassId) (S : ms_S) (h : ms_H) : va_W := (List.range S.length).map (fun z => (ad z, ms_cell ad cA (S.getD z (0, 0)) (h z)))
def ms_isr (kd : Nat) (b : Int) : Prop := kd = 12 ∨ (kd < 10 ∧ ms_ft kd b = 3)
def ms_hok (S : ms_S) (h : ms_H) : Prop := (∀ a b, rg (h a b)) ∧ ∀ a b kd n, ms_sh S a = some (kd, n) → ms_isr kd b → h a b < S.length
theorem ms_sh_x {S : ms_S} {z : Int} {q : Nat × Nat} (h : ms_sh S z = some q) : 0 ≤ z ∧ z.toNat < S.length ∧ S[z.toNat]? = some q ∧ ((z.toNat : Nat) : Int) = z := by
  unfold ms_sh at h
  split at h
  · cases h
  · exact ⟨by omega, (List.getElem?_eq_some_iff.mp h).1, h, by omega⟩
theorem ms_sh_nat (S : ms_S) (k : Nat) : ms_sh S (k : Int) = S[k]? := by
  unfold ms_sh
  rw [if_neg (by omega)]
  rfl
theorem ms_ws_at {ad : Nat → Nat} {cA : Nat → ClassId} {S : ms_S} {h : ms_H} {z : Int} {q : Nat × Nat} (hs : ms_sh S z = some q) : (ms_ws ad cA S h)[z.toNat]? = some (ad z.toNat, ms_cell ad cA q (h z)) := by
  obtain ⟨h0, h1, h2, h3⟩ := ms_sh_x hs
  unfold ms_ws
  rw [List.getElem?_map, List.getElem?_range h1]
  show some (ad z.toNat, ms_cell ad cA (S.getD z.toNat (0, 0)) (h z.toNat)) = _
  rw [h3, List.getD_eq_getElem?_getD, h2]
  rfl
theorem ms_ws_len {ad : Nat → Nat} {cA : Nat → ClassId} {S : ms_S} {h : ms_H} : (ms_ws ad cA S h).length = S.length := by simp [ms_ws]
theorem ms_ws_nat {ad : Nat → Nat} {cA : Nat → ClassId} {S : ms_S} {h : ms_H} {k : Nat} (hk : k < S.length) : (ms_ws ad cA S h)[k]? = some (ad k, ms_cell ad cA (S.getD k (0, 0)) (h k)) := by
  unfold ms_ws
  rw [List.getElem?_map, List.getElem?_range hk]
  rfl
/-- one cell changed -/
theorem ms_ws_set {ad : Nat → Nat} {cA : Nat → ClassId} {S : ms_S} {h h' : ms_H} {z : Int} {q : Nat × Nat} {e : va_E} (hs : ms_sh S z = some q) (ho : ∀ a, a ≠ z → h' a = h a) (he : ms_cell ad cA q (h' z) = e) : (ms_ws ad cA S h).set z.toNat (ad z.toNat, e) = ms_ws ad cA S h' := by
  obtain ⟨h0, h1, h2, h3⟩ := ms_sh_x hs
  apply List.ext_getElem?
  intro k
  by_cases hk : k < S.length
  · by_cases hkz : k = z.toNat
    · subst hkz
      rw [List.getElem?_set_self (by rw [ms_ws_len]; exact hk), ms_ws_at hs, he]
    · rw [List.getElem?_set_ne (fun q => hkz q.symm), ms_ws_nat hk, ms_ws_nat hk, ho (k : Int) (by omega)]
  · rw [List.getElem?_eq_none (by rw [List.length_set, ms_ws_len]; omega), List.getElem?_eq_none (by rw [ms_ws_len]; omega)]
theorem hs_ne {h : ms_H} {z k v a : Int} (ha : a ≠ z) : hs h z k v a = h a := by
  funext b
  unfold hs
  rw [if_neg (fun q => ha q.1)]
theorem ms_obj_cell {ad : Nat → Nat} {cA : Nat → ClassId} {ci n : Nat} {f : Int → Int} (hc : ci < 10) : ms_cell ad cA (ci, n) f = .inr (ci, (List.range n).map (fun k : Nat => ms_fv ad (ms_ft ci k) (f k))) := by
  unfold ms_cell
  rw [if_pos hc]
theorem ms_int_cell {ad : Nat → Nat} {cA : Nat → ClassId} {n : Nat} {f : Int → Int} : ms_cell ad cA (10, n) f = .inl (cA 0, n, .inl (fun j => Int32.ofInt (f j))) := rfl
theorem ms_bool_cell {ad : Nat → Nat} {cA : Nat → ClassId} {n : Nat} {f : Int → Int} : ms_cell ad cA (11, n) f = .inl (cA 1, n, .inl (fun j => Int32.ofInt (f j))) := rfl
theorem ms_ref_cell {ad : Nat → Nat} {cA : Nat → ClassId} {n : Nat} {f : Int → Int} : ms_cell ad cA (12, n) f = .inl (cA 2, n, .inr (.inr (.inr (.inr (fun j => ms_rf ad (f j)))))) := rfl
/-- a field written -/
theorem ms_ws_put {ad : Nat → Nat} {cA : Nat → ClassId} {S : ms_S} {h : ms_H} {z v : Int} {ci n k : Nat} (hs0 : ms_sh S z = some (ci, n)) (hc : ci < 10) :
    (ms_ws ad cA S h).set z.toNat (ad z.toNat, .inr (ci, ((List.range n).map (fun k : Nat => ms_fv ad (ms_ft ci k) (h z k))).set k (ms_fv ad (ms_ft ci k) v))) = ms_ws ad cA S (hs h z k v) := by
  refine ms_ws_set hs0 (fun a ha => hs_ne ha) ?_
  rw [ms_obj_cell hc]
  congr 2
  apply List.ext_getElem?
  intro j
  by_cases hj : j < n
  · by_cases hjk : j = k
    · subst hjk
      rw [List.getElem?_set_self (by simpa using hj), List.getElem?_map, List.getElem?_range hj]
      show some (ms_fv ad (ms_ft ci j) (hs h z j v z j)) = _
      unfold hs
      rw [if_pos ⟨rfl, rfl⟩]
    · rw [List.getElem?_set_ne (fun q => hjk q.symm), List.getElem?_map, List.getElem?_map, List.getElem?_range hj]
      show some (ms_fv ad (ms_ft ci j) (hs h z k v z j)) = some (ms_fv ad (ms_ft ci j) (h z j))
      unfold hs
      rw [if_neg (fun q => hjk (by have := q.2; omega))]
  · rw [List.getElem?_eq_none (by simpa using hj), List.getElem?_eq_none (by simpa using hj)]
/-- an element written -/
theorem ms_upd {f : Int → Int} {i v : Int} (hi : 0 ≤ i) (g : Int → Int) (hg : ∀ b, g b = if b = i then v else f b) : (fun j : Nat => Int32.ofInt (g j)) = upd (fun j : Nat => Int32.ofInt (f j)) i.toNat (Int32.ofInt v) := by
  funext j
  show _ = if j = i.toNat then _ else _
  rw [hg]
  by_cases hj : (j : Int) = i
  · rw [if_pos hj, if_pos (by omega)]
  · rw [if_neg hj, if_neg (by omega)]
theorem hs_at (h : ms_H) (z i v b : Int) : hs h z i v z b = if b = i then v else h z b := by
  unfold hs
  by_cases hb : b = i
  · rw [if_pos ⟨rfl, hb⟩, if_pos hb]
  · rw [if_neg (fun q => hb q.2), if_neg hb]
theorem ms_ws_int {ad : Nat → Nat} {cA : Nat → ClassId} {S : ms_S} {h : ms_H} {z i v : Int} {n : Nat} (hs0 : ms_sh S z = some (10, n)) (hi : 0 ≤ i) :
    (ms_ws ad cA S h).set z.toNat (ad z.toNat, .inl (cA 0, n, .inl (upd (fun j : Nat => Int32.ofInt (h z j)) i.toNat (Int32.ofInt v)))) = ms_ws ad cA S (hs h z i v) := by
  refine ms_ws_set hs0 (fun a ha => hs_ne ha) ?_
  rw [ms_int_cell, ms_upd hi (hs h z i v z) (hs_at h z i v)]
theorem ms_ws_bool {ad : Nat → Nat} {cA : Nat → ClassId} {S : ms_S} {h : ms_H} {z i v : Int} {n : Nat} (hs0 : ms_sh S z = some (11, n)) (hi : 0 ≤ i) :
    (ms_ws ad cA S h).set z.toNat (ad z.toNat, .inl (cA 1, n, .inl (upd (fun j : Nat => Int32.ofInt (h z j)) i.toNat (Int32.ofInt v)))) = ms_ws ad cA S (hs h z i v) := by
  refine ms_ws_set hs0 (fun a ha => hs_ne ha) ?_
  rw [ms_bool_cell, ms_upd hi (hs h z i v z) (hs_at h z i v)]
theorem ms_ws_ref {ad : Nat → Nat} {cA : Nat → ClassId} {S : ms_S} {h : ms_H} {z i v : Int} {n : Nat} (hs0 : ms_sh S z = some (12, n)) (hi : 0 ≤ i) (hv : 0 ≤ v) :
    (ms_ws ad cA S h).set z.toNat (ad z.toNat, .inl (cA 2, n, .inr (.inr (.inr (.inr (va_up (fun j : Nat => ms_rf ad (h z j)) i.toNat (some (ad v.toNat)))))))) = ms_ws ad cA S (hs h z i v) := by
  refine ms_ws_set hs0 (fun a ha => hs_ne ha) ?_
  rw [ms_ref_cell]
  congr 6
  apply congrArg Sum.inr
  funext j
  show ms_rf ad (hs h z i v z j) = if j = i.toNat then _ else _
  rw [hs_at]
  by_cases hj : (j : Int) = i
  · rw [if_pos hj, if_pos (by omega)]
    unfold ms_rf
    rw [if_neg (by omega)]
  · rw [if_neg hj, if_neg (by omega)]
theorem ms_cpy_ne {h : ms_H} {s sp d dp n a : Int} (ha : a ≠ d) : ms_cpy h s sp d dp n a = h a := by
  funext b
  unfold ms_cpy
  rw [if_neg (fun q => ha q.1)]
theorem ms_ws_cpy {ad : Nat → Nat} {cA : Nat → ClassId} {S : ms_S} {h : ms_H} {s sp d dp n : Int} {n1 : Nat} (hs1 : ms_sh S d = some (10, n1)) (h1 : 0 ≤ sp) (h2 : 0 ≤ dp) (h3 : 0 ≤ n) :
    (ms_ws ad cA S h).set d.toNat (ad d.toNat, .inl (cA 0, n1, .inl (va_cpy (fun j : Nat => Int32.ofInt (h s j)) (fun j : Nat => Int32.ofInt (h d j)) sp.toNat dp.toNat n.toNat))) = ms_ws ad cA S (ms_cpy h s sp d dp n) := by
  refine ms_ws_set hs1 (fun a ha => ms_cpy_ne ha) ?_
  rw [ms_int_cell]
  congr 3
  apply congrArg Sum.inl
  funext j
  unfold va_cpy ms_cpy
  by_cases hj : dp ≤ (j : Int) ∧ (j : Int) < dp + n
  · rw [if_pos ⟨rfl, hj.1, hj.2⟩, if_pos (by omega)]
    congr 2
    omega
  · rw [if_neg (fun q => hj q.2), if_neg (by omega)]
/-- a cell made -/
def ms_ad (ad : Nat → Nat) (n q : Nat) : Nat → Nat := fun k => if k = n then q else ad k
theorem ms_ad_lt {ad : Nat → Nat} {n q k : Nat} (h : k < n) : ms_ad ad n q k = ad k := by
  unfold ms_ad
  rw [if_neg (by omega)]
theorem ms_ad_self {ad : Nat → Nat} {n q : Nat} : ms_ad ad n q n = q := by
  unfold ms_ad
  rw [if_pos rfl]
theorem ms_rf_ext {S : ms_S} {ad ad' : Nat → Nat} (h : ∀ k, k < S.length → ad' k = ad k) {v : Int} (hv : v < S.length) : ms_rf ad' v = ms_rf ad v := by
  unfold ms_rf
  split
  · rfl
  · rw [h _ (by omega)]
theorem ms_cell_ext {S : ms_S} {ad ad' : Nat → Nat} {cA : Nat → ClassId} (h : ∀ k, k < S.length → ad' k = ad k) {q : Nat × Nat} {f : Int → Int} (hf : ∀ b, ms_isr q.1 b → f b < S.length) : ms_cell ad' cA q f = ms_cell ad cA q f := by
  unfold ms_cell
  split
  · rename_i hc
    congr 2
    apply List.map_congr_left
    intro k _
    unfold ms_fv
    split
    · rename_i h3
      rw [ms_rf_ext h (hf k (Or.inr ⟨hc, h3⟩))]
    · rfl
  · split
    · rename_i hc
      congr 6
      apply congrArg Sum.inr
      funext j
      exact ms_rf_ext h (hf j (Or.inl hc))
    · rfl
theorem ms_ws_push {ad : Nat → Nat} {cA : Nat → ClassId} {S : ms_S} {h : ms_H} {q : Nat × Nat} {a : Nat} {e : va_E} (hh : ms_hok S h) (he : ms_cell (ms_ad ad S.length a) cA q (ms_nw h S.length q.1 S.length) = e) :
    ms_ws ad cA S h ++ [(a, e)] = ms_ws (ms_ad ad S.length a) cA (S ++ [q]) (ms_nw h S.length q.1) := by
  apply List.ext_getElem?
  intro k
  by_cases hk : k < S.length
  · rw [List.getElem?_append_left (by rw [ms_ws_len]; exact hk), ms_ws_nat hk, ms_ws_nat (by simp; omega), ms_ad_lt hk]
    have h1 : (S ++ [q]).getD k (0, 0) = S.getD k (0, 0) := by
      rw [List.getD_eq_getElem?_getD, List.getD_eq_getElem?_getD, List.getElem?_append_left hk]
    have h2 : ms_nw h S.length q.1 k = h k := by
      funext b
      unfold ms_nw
      rw [if_neg (by omega)]
    rw [h1, h2, ms_cell_ext (S := S) (fun j hj => ms_ad_lt hj)]
    intro b hb
    refine hh.2 k b (S.getD k (0, 0)).1 (S.getD k (0, 0)).2 ?_ hb
    rw [ms_sh_nat, List.getD_eq_getElem?_getD, List.getElem?_eq_getElem hk]
    rfl
  · by_cases hk2 : k = S.length
    · subst hk2
      rw [List.getElem?_append_right (by rw [ms_ws_len]; omega), ms_ws_nat (by simp)]
      have h1 : (S ++ [q]).getD S.length (0, 0) = q := by
        rw [List.getD_eq_getElem?_getD]
        simp
      rw [h1, ms_ad_self, he, ms_ws_len]
      simp
    · rw [List.getElem?_eq_none (by simp [ms_ws_len]; omega), List.getElem?_eq_none (by rw [ms_ws_len]; simp; omega)]
-- the heap stays as it must be
theorem hok_set {S : ms_S} {h : ms_H} {z k v : Int} (hh : ms_hok S h) (hv : rg v) (hr : ∀ kd n, ms_sh S z = some (kd, n) → ms_isr kd k → v < S.length) : ms_hok S (hs h z k v) := by
  refine ⟨fun a b => ?_, fun a b kd n hs1 hi => ?_⟩
  · unfold hs
    split
    · exact hv
    · exact hh.1 a b
  · unfold hs
    split
    · rename_i hq
      obtain ⟨rfl, rfl⟩ := hq
      exact hr kd n hs1 hi
    · exact hh.2 a b kd n hs1 hi
theorem hok_cpy {S : ms_S} {h : ms_H} {s sp d dp n : Int} {n1 : Nat} (hh : ms_hok S h) (hd : ms_sh S d = some (10, n1)) : ms_hok S (ms_cpy h s sp d dp n) := by
  refine ⟨fun a b => ?_, fun a b kd n hs1 hi => ?_⟩
  · unfold ms_cpy
    split
    · exact hh.1 _ _
    · exact hh.1 a b
  · unfold ms_cpy
    split
    · rename_i hq
      obtain ⟨rfl, -⟩ := hq
      rw [hd] at hs1
      cases hs1
      rcases hi with hi | hi
      · cases hi
      · exact absurd hi.1 (by decide)
    · exact hh.2 a b kd n hs1 hi
theorem hok_new {S : ms_S} {h : ms_H} {q : Nat × Nat} (hh : ms_hok S h) : ms_hok (S ++ [q]) (ms_nw h S.length q.1) := by
  refine ⟨fun a b => ?_, fun a b kd n hs1 hi => ?_⟩
  · unfold ms_nw
    split
    · split
      · unfold rg; omega
      · unfold rg; omega
    · exact hh.1 a b
  · unfold ms_nw
    split
    · rw [List.length_append]
      split <;> simp <;> omega
    · rename_i hq
      have h1 := ms_sh_x hs1
      have h2 : ms_sh S a = some (kd, n) := by
        unfold ms_sh
        rw [if_neg (by omega)]
        have h3 := h1.2.2.1
        rw [List.getElem?_append_left (by have h4 := h1.2.1; rw [List.length_append] at h4; simp at h4; omega)] at h3
        exact h3
      have h5 := hh.2 a b kd n h2 hi
      rw [List.length_append]
      simp
      omega
end
section
/-! What a program decides about the methods: their bytes, links, words. -/
def gw : List Cond := lw_tbl.filter goodWord
def wd (i : Nat) (w : Cond) : Bool := decide (lw_tbl[i]? = some w) && goodWord w
theorem wd_in {i : Nat} {w : Cond} (h : wd i w = true) : w ∈ gw := by
  unfold wd at h
  rw [Bool.and_eq_true, decide_eq_true_eq] at h
  exact List.mem_filter.mpr ⟨List.mem_of_getElem? h.1, h.2⟩
theorem gw_good {w : Cond} (h : w ∈ gw) : (w.onTables && w.keeps) = true ∨ ∃ ty, w = .arrayClass ty := good_of_word (List.mem_filter.mp h).2
def ms_tc : FieldType → Nat
  | .boolean => 1
  | .long => 2
  | .int => 0
  | .object _ => 3
  | .array _ => 3
  | _ => 4
def ms_clok (q : vw_C) (ty : Nat → FieldType) (ci : Nat) : Bool := decide (∀ k, k < q.2.2 → (q.2.1 k).1 = q.1) && decide (∀ k, k < q.2.2 → ms_tc (ty k) = ms_ft ci k) && decide (q.2.2 = ms_N ci) && ((List.range q.2.2).all fun k => gw.contains (u_lay q.1 q.2.1 k))
set_option maxRecDepth 100000 in
theorem ms_cl0 : ms_clok (RX0, TX0, 7) tyX0 0 = true := by decide +kernel
set_option maxRecDepth 100000 in
theorem ms_cl1 : ms_clok (RX1, TX1, 7) tyX1 1 = true := by decide +kernel
set_option maxRecDepth 100000 in
theorem ms_cl2 : ms_clok (RX2, TX2, 9) tyX2 2 = true := by decide +kernel
set_option maxRecDepth 100000 in
theorem ms_cl3 : ms_clok (RX3, TX3, 11) tyX3 3 = true := by decide +kernel
set_option maxRecDepth 100000 in
theorem ms_cl4 : ms_clok (RX4, TX4, 11) tyX4 4 = true := by decide +kernel
set_option maxRecDepth 100000 in
theorem ms_cl5 : ms_clok (RX5, TX5, 37) tyX5 5 = true := by decide +kernel
theorem ms_clx {q : vw_C} {ty : Nat → FieldType} {ci : Nat} (h : ms_clok q ty ci = true) : (∀ k, k < q.2.2 → (q.2.1 k).1 = q.1) ∧ (∀ k, k < q.2.2 → ms_tc (ty k) = ms_ft ci k) ∧ q.2.2 = ms_N ci ∧ ∀ w ∈ u_ws q.1 q.2.1 q.2.2, w ∈ gw := by
  unfold ms_clok at h
  simp only [Bool.and_eq_true, decide_eq_true_eq, List.all_eq_true, List.mem_range, List.contains_iff_mem] at h
  refine ⟨h.1.1.1, h.1.1.2, h.1.2, fun w hw => ?_⟩
  obtain ⟨k, hk, rfl⟩ := List.mem_map.mp hw
  exact h.2 k (List.mem_range.mp hk)
/-- what is known of a class of the worlds -/
theorem ms_cls_ok {ci : Nat} {q : vw_C} (h : ms_cls[ci]? = some q) : ci < 6 ∧ (∀ k, k < q.2.2 → (q.2.1 k).1 = q.1) ∧ (∀ k, k < q.2.2 → ms_tc (ms_ty ci k) = ms_ft ci k) ∧ q.2.2 = ms_N ci ∧ (∀ w ∈ u_ws q.1 q.2.1 q.2.2, w ∈ gw) ∧ (∀ k, k < q.2.2 → parseFieldDescriptor (q.2.1 k).2.2.1 = some (ms_ty ci k)) ∧ (∀ a, a < q.2.2 → ∀ b, b < q.2.2 → a ≠ b → (q.2.1 a).2.1 ≠ (q.2.1 b).2.1) := by
  match ci, h with
  | 0, h => cases h; obtain ⟨a, b, c, d⟩ := ms_clx ms_cl0; exact ⟨by decide, a, b, c, d, tyX0_ok, nmX0⟩
  | 1, h => cases h; obtain ⟨a, b, c, d⟩ := ms_clx ms_cl1; exact ⟨by decide, a, b, c, d, tyX1_ok, nmX1⟩
  | 2, h => cases h; obtain ⟨a, b, c, d⟩ := ms_clx ms_cl2; exact ⟨by decide, a, b, c, d, tyX2_ok, nmX2⟩
  | 3, h => cases h; obtain ⟨a, b, c, d⟩ := ms_clx ms_cl3; exact ⟨by decide, a, b, c, d, tyX3_ok, nmX3⟩
  | 4, h => cases h; obtain ⟨a, b, c, d⟩ := ms_clx ms_cl4; exact ⟨by decide, a, b, c, d, tyX4_ok, nmX4⟩
  | 5, h => cases h; obtain ⟨a, b, c, d⟩ := ms_clx ms_cl5; exact ⟨by decide, a, b, c, d, tyX5_ok, nmX5⟩
  | n + 6, h => simp [ms_cls] at h
def rgb (c : Int) : Bool := decide (-2147483648 ≤ c ∧ c ≤ 2147483647)
theorem rgb_x {c : Int} (h : rgb c = true) : rg c := by
  have h2 : -2147483648 ≤ c ∧ c ≤ 2147483647 := of_decide_eq_true h
  exact h2
def B_pc : ms_B → Nat
  | [] => 0
  | (pc, _) :: _ => pc
/-- links between the classes of the nest -/
def ms_nest : List (String × Nat × MethodName) := [(RX4, 9, yX2_init), (RX4, 18, yX3_init), (RX4, 28, yX0_init), (RX4, 35, yX1_init), (RX2, 103, yX4_within)]
def ms_cktab (M : ms_M) (pc : Nat) (lo : Int) : List Int → List (Int × Nat) → Bool
  | [], [] => true
  | o :: os, (v, tg) :: t => decide (v = lo) && decide ((pc : Int) + o = (B_pc (M_bl M tg) : Int)) && ms_cktab M pc (lo + 1) os t
  | _, _ => false
def ms_cklk (M : ms_M) (pc : Nat) : List (Int × Int) → List (Int × Nat) → Bool
  | [], [] => true
  | (v', o) :: os, (v, tg) :: t => decide (v = v') && decide ((pc : Int) + o = (B_pc (M_bl M tg) : Int)) && ms_cklk M pc os t
  | _, _ => false
def ms_ckf (M : ms_M) (i : Nat) (x : ms_X) : Bool := match x with
  | (c, a, b, _, _, w) => match ms_cls[a]? with
    | some (C, T, N) => decide (0 ≤ c) && decide (c.toNat < N) && decide (ms_ft a c = b) && wd w (.fieldLink (M_nm M).cls i C (T c.toNat).2.1 (T c.toNat).2.2.1)
    | none => false
def ms_ckw (M : ms_M) (x : ms_X) : Bool := match x with
  | (c, a, b, _, _, _) => match ms_cls[a]? with
    | some (C, T, _) => decide ((T c.toNat).2.2.2 = false) || (decide ((M_nm M).name = "<init>") && decide (C = (M_nm M).cls) && decide (b = 3))
    | none => false
def ms_ckc (P : List ms_M) (M : ms_M) (i kd : Nat) (x : ms_X) : Bool := match x with
  | (_, a, b, d, t, w) => match P[a]? with
    | none => false
    | some M' => decide (M_kd M' = kd) && decide (M_na M' = b) && (wd w (.methodLink (M_nm M).cls i (M_nm M')) || decide (((M_nm M).cls, i, M_nm M') ∈ ms_nest)) &&
      (match d with | 0 => decide (kd = 1) | ci + 1 => decide (kd ≠ 1) && (match ms_cls[ci]? with | some q => decide (q.1 = (M_nm M').cls) | none => false)) &&
      (match t with | [] => decide (M_mc M' = 0) && decide (M_ms M' = 0) | (kc, ks) :: _ => decide (kc.toNat = M_mc M') && decide (ks = M_ms M'))
def ms_cke (M : ms_M) (i : Nat) (x : ms_X) (y : MethodName) : Bool := match x with
  | (_, _, _, _, _, w) => wd w (.methodLink (M_nm M).cls i y)
/-- one instruction's data against its code -/
def ms_ckx (P : List ms_M) (M : ms_M) (pc : Nat) (raw : Instr) (x : ms_X) : Bool := match raw with
  | .iconst n => decide (n = x.1) && rgb x.1
  | .bipush n => decide ((Int8.ofInt n).toInt32 = Int32.ofInt x.1) && rgb x.1
  | .sipush n => decide ((Int16.ofInt n).toInt32 = Int32.ofInt x.1) && rgb x.1
  | .ldc i => wd x.2.2.2.2.2 (.constant (M_nm M).cls i (Int32.ofInt x.1)) && rgb x.1
  | .ldc_w i => wd x.2.2.2.2.2 (.constant (M_nm M).cls i (Int32.ofInt x.1)) && rgb x.1
  | .iload i => decide (i = x.2.1)
  | .iload_n k => decide (k.val = x.2.1)
  | .aload i => decide (i = x.2.1)
  | .aload_n k => decide (k.val = x.2.1)
  | .istore i => decide (i = x.2.1)
  | .istore_n k => decide (k.val = x.2.1)
  | .astore i => decide (i = x.2.1)
  | .astore_n k => decide (k.val = x.2.1)
  | .iinc i n => decide (i = x.2.1) && decide (n = x.1)
  | .ifCond _ off => decide ((pc : Int) + off = (B_pc (M_bl M x.2.1) : Int))
  | .if_icmp _ off => decide ((pc : Int) + off = (B_pc (M_bl M x.2.1) : Int))
  | .goto off => decide ((pc : Int) + off = (B_pc (M_bl M x.2.1) : Int))
  | .nop => decide (pc = B_pc (M_bl M x.2.1))
  | .tableswitch dflt lo hi offs => decide ((pc : Int) + dflt = (B_pc (M_bl M x.2.1) : Int)) && decide (hi = lo + offs.toList.length - 1) && ms_cktab M pc lo offs.toList x.2.2.2.2.1
  | .lookupswitch dflt ps => decide ((pc : Int) + dflt = (B_pc (M_bl M x.2.1) : Int)) && (ps.toList.zip (ps.toList.drop 1)).all (fun (a, next) => a.1 < next.1) && ms_cklk M pc ps.toList x.2.2.2.2.1
  | .getfield i => ms_ckf M i x
  | .putfield i => ms_ckf M i x && ms_ckw M x
  | .getstatic i => wd x.2.2.2.2.2 (.fieldLink (M_nm M).cls i "SleetLine" "ORDERS" "[I")
  | .invokevirtual i => ms_ckc P M i 0 x
  | .invokestatic i => if x.2.1 = 1000 then ms_cke M i x Lib.Math.max.name else if x.2.1 = 1001 then ms_cke M i x Lib.Math.min.name else if x.2.1 = 1002 then ms_cke M i x arraycopyName else ms_ckc P M i 1 x
  | .invokespecial i => if x.2.1 = 1003 then ms_cke M i x Lib.objectInit else ms_ckc P M i 2 x
  | .lconst n => decide (Int64.ofNat (n : Nat) = Int64.ofInt x.1) && rgb x.1
  | .ldc2_w i => wd x.2.2.2.2.2 (.constantLong (M_nm M).cls i (Int64.ofInt x.1)) && rgb x.1
  | .new i => (match ms_cls[x.2.1]? with | some (C, _, N) => wd x.2.2.2.2.2 (.classLink (M_nm M).cls i C) && wd x.2.2.1 (.instantiable C N) && wd x.2.2.2.1 (.initialized C) | none => false)
  | .newarray ty => (match ty with | .int => decide (x.2.2.1 = 10) | .boolean => decide (x.2.2.1 = 11) | _ => false)
  | .anewarray i => decide (x.2.2.1 = 12) && wd x.2.2.2.2.2 (.classLink (M_nm M).cls i RX1)
  | .ireturn => (match M_rt M with | some .int => decide (x.2.2.1 = 0) | some .boolean => decide (x.2.2.1 = 1) | _ => false)
  | .lreturn => decide (M_rt M = some .long)
  | .return_ => decide (M_rt M = none)
  | _ => true
def ms_falls : Instr → Bool
  | .goto _ => false
  | .nop => false
  | .tableswitch _ _ _ _ => false
  | .lookupswitch _ _ => false
  | .ireturn => false
  | .lreturn => false
  | .return_ => false
  | _ => true
/-- how long an instruction is -/
def ms_ln (raw : Instr) (n : Nat) : Nat := match raw with
  | .bipush _ => 2
  | .sipush _ => 3
  | .ldc _ => 2
  | .ldc_w _ => 3
  | .ldc2_w _ => 3
  | .iload _ => 2
  | .aload _ => 2
  | .istore _ => 2
  | .astore _ => 2
  | .iinc _ _ => 3
  | .ifCond _ _ => 3
  | .if_icmp _ _ => 3
  | .goto _ => 3
  | .tableswitch _ _ _ _ => n
  | .lookupswitch _ _ => n
  | .getfield _ => 3
  | .putfield _ => 3
  | .getstatic _ => 3
  | .invokevirtual _ => 3
  | .invokestatic _ => 3
  | .invokespecial _ => 3
  | .new _ => 3
  | .newarray _ => 2
  | .anewarray _ => 3
  | _ => 1
def ms_ckB (P : List ms_M) (M : ms_M) : ms_B → Bool
  | [] => true
  | (pc, raw, len, x) :: rest => (decide (raw = .nop) || decide (decode (M_by M) pc = .ok (raw, len))) && decide (len = ms_ln raw len) && ms_ckx P M pc raw x && (!ms_falls raw || decide (B_pc rest = pc + len)) && ms_ckB P M rest
/-- a method's own words, and all its blocks -/
def ms_ckM (P : List ms_M) (M : ms_M) : Bool := match M_pl M with
  | [p1, p2, p3, p4] => wd p1 (.code (M_nm M) (M_by M) (M_ml M) (M_rt M)) && wd p4 (.initialized (M_nm M).cls) &&
    (match M_kd M with
      | 0 => wd p2 (.instanceMethod (M_nm M)) && wd p3 (.selects (M_nm M).cls (M_nm M) (M_nm M)) && decide ((parseMethodDescriptor (M_nm M).desc).map (fun d => d.parameters.length + 1) = some (M_na M))
      | 1 => wd p2 (.static (M_nm M)) && decide ((parseMethodDescriptor (M_nm M).desc).map (fun d => d.parameters.length) = some (M_na M))
      | _ => wd p2 (.instanceMethod (M_nm M)) && decide ((M_nm M).name = "<init>") && decide (M_rt M = none) && decide ((parseMethodDescriptor (M_nm M).desc).map (fun d => d.parameters.length + 1) = some (M_na M))) &&
    decide ((M_nm M).cls ≠ "java/lang/invoke/MethodHandle" ∧ (M_nm M).cls ≠ "java/lang/invoke/VarHandle") && plainName (M_nm M).cls && decide (M_ml M ≤ 30) && decide (M_na M ≤ M_ml M) &&
    decide (M_rt M = none ∨ M_rt M = some .int ∨ M_rt M = some .boolean ∨ M_rt M = some .long) && decide (B_pc (M_bl M 0) = 0) &&
    (M.2.2.2.2.2.2.2.1.all (ms_ckB P M)) && (M.2.2.2.2.2.2.2.2.all (ms_ckB P M))
  | _ => false
theorem ms_ckM_bl {P : List ms_M} {M : ms_M} (h1 : M.2.2.2.2.2.2.2.1.all (ms_ckB P M) = true) (h2 : M.2.2.2.2.2.2.2.2.all (ms_ckB P M) = true) (t : Nat) : ms_ckB P M (M_bl M t) = true := by
  have key : ∀ (l : List ms_B) (k : Nat), l.all (ms_ckB P M) = true → ms_ckB P M (l.getD k []) = true := by
    intro l k hl
    rw [List.getD_eq_getElem?_getD]
    cases hk : l[k]? with
    | none => rfl
    | some B => exact List.all_eq_true.mp hl B (List.mem_of_getElem? hk)
  unfold M_bl
  split
  · exact key _ _ h2
  · exact key _ _ h1
end
section
/-! How a state of the small machine stands for one of the machine; contracts; calls. -/
def ms_nestok (U : State) : Prop := ∀ q ∈ ms_nest, va_Nw (.methodLinkNest q.1 q.2.1 q.2.2 "SleetLine") U
/-- what of the tables and statics the methods read, beside words -/
def ms_stat (ex : Nat → Nat) (A : Nat → Prop) (U : State) : Prop := va_Z "SleetLine" "ORDERS" "[I" (.ref (ex 1)) A U U.heap ∧ va_T .int (ex 1) 7 (fun j => .int (Int32.ofInt (ms_ord j))) A U U.heap ∧ va_AO RX1 U ∧ ms_nestok U
theorem ms_stat_to {ex : Nat → Nat} {A B : Nat → Prop} {s U : State} {locs : List Loc} (h : ms_stat ex A s) (hS : va_S A s.heap U.heap locs) (hAB : ∀ q, B q → A q) (hW : s.WarmedH U.vm) : ms_stat ex B U := by
  obtain ⟨h1, h2, h3, h4⟩ := h
  refine ⟨?_, ?_, va_AO.moved hW.alike h3, fun q hq => va_Nw.warmM hW (h4 q hq)⟩
  · exact ((h1.kept (fun a h5 h6 => hS.2.1 a h5 h6)).narrow hAB).moved hW.alike
  · exact ((h2.kept (fun a h5 h6 => hS.2.1 a h5 h6)).narrow hAB).moved hW.alike
theorem ms_stat_calling {ex : Nat → Nat} {A : Nat → Prop} {U : State} {g : JFrame} {mk : MethodId} {a : Array Value} (h : ms_stat ex A U) : ms_stat ex A (U.calling g mk a) := by
  obtain ⟨h1, h2, h3, h4⟩ := h
  refine ⟨?_, ?_, va_AO.moved (u := U) (U := U.calling g mk a) (Vm.Alike.refl U.vm) h3, fun q hq => va_Nw.same rfl (u := U) (U := U.calling g mk a) rfl (h4 q hq)⟩
  · exact va_Z.moved (u := U) (U := U.calling g mk a) (Vm.Alike.refl U.vm) h1
  · exact va_T.moved (u := U) (U := U.calling g mk a) (Vm.Alike.refl U.vm) h2
def ms_rm (d : Nat) (M : ms_M) : Room := { frames := d, cells := M_mc M, slots := M_ms M, locals := 60 * d }
def ms_wsM (M : ms_M) : List Cond := .code (M_nm M) (M_by M) (M_ml M) (M_rt M) :: gw
abbrev ms_U : Type := ms_S × ms_H × (Nat → Nat)
def ms_pre (D : va_G) (cA : Nat → ClassId) (ex ad : Nat → Nat) (S : ms_S) (h : ms_H) (sz : Nat) (U : State) : Prop :=
  U.heap.size = sz ∧ va_P D ms_cls (ms_ws ad cA S h) U.heap ∧ va_K D ms_cls (ms_tys cA) U ∧ va_D (fun _ => True) (ms_ws ad cA S h) ∧ ms_stat ex (va_A (ms_ws ad cA S h) sz) U
def ms_ps (ad : Nat → Nat) (S : ms_S) (Q : ms_Q) (r : Option ms_V) (u : ms_U) : Prop := Q r u.1 u.2.1 ∧ S.length ≤ u.1.length ∧ (∀ k, k < S.length → u.2.2 k = ad k) ∧ ms_hok u.1 u.2.1
def ms_wd (D : va_G) (cA : Nat → ClassId) (A : Nat → Prop) (u : ms_U) (t : State) : Prop := va_P D ms_cls (ms_ws u.2.2 cA u.1 u.2.1) t.heap ∧ va_K D ms_cls (ms_tys cA) t ∧ va_D A (ms_ws u.2.2 cA u.1 u.2.1)
def ms_Qc (rt : Option FieldType) (D : va_G) (cA : Nat → ClassId) (A : Nat → Prop) (ad : Nat → Nat) (S : ms_S) (Q : ms_Q) : Array Value → State → Outcome → State → Prop := match rt with
  | none => va_Qv (ms_ps ad S Q none) (ms_wd D cA A) A
  | some .long => va_Ql (fun r u => ∃ z, r = Int64.ofInt z ∧ rg z ∧ ms_ps ad S Q (some (mL z)) u) (ms_wd D cA A) A
  | some _ => va_Qi (fun r u => ∃ z, r = Int32.ofInt z ∧ rg z ∧ ms_ps ad S Q (some (mI z)) u) (ms_wd D cA A) A
def ms_met (l : Launch) (D : va_G) (cA : Nat → ClassId) (ex : Nat → Nat) (d : Nat) (M : ms_M) (Q : ms_Q) (vs : List ms_V) (S : ms_S) (h : ms_H) (ad : Nat → Nat) (sz : Nat) : Prop :=
  Met l (M_nm M) (ms_wsM M) (ms_rm d M) (va_Pc (vs.map (ms_c ad ex)) (ms_pre D cA ex ad S h sz)) (ms_Qc (M_rt M) D cA (va_A (ms_ws ad cA S h) sz) ad S Q) (M_mc M) (M_ms M) (va_A (ms_ws ad cA S h) sz)
/-- what the oracle says of a method is met -/
def ms_os (l : Launch) (D : va_G) (cA : Nat → ClassId) (ex : Nat → Nat) (P : List ms_M) (d : Nat) (O : ms_O) : Prop :=
  ∀ y M vs S h Q, P[y]? = some M → O y vs S h Q → (∀ v ∈ vs, ms_vok S v) → (∀ v ∈ vs, ms_nl v = true) → ms_hok S h → ∀ ad sz, ms_met l D cA ex d M Q vs S h ad sz
theorem ms_blind (vs : List Value) {D : va_G} {cA : Nat → ClassId} {ex ad : Nat → Nat} {S : ms_S} {h : ms_H} {sz : Nat} : FrameBlind (va_Pc vs (ms_pre D cA ex ad S h sz)) := by
  intro a U g mk q
  obtain ⟨q0, q1, q2, q3, q4, q5⟩ := q
  exact ⟨q0, q1, q2, va_K.moved (u := U) (U := U.calling g mk a) (Vm.Alike.refl U.vm) q3, q4, ms_stat_calling q5⟩
/-- the heap's part of a state -/
def ms_rh (D : va_G) (cA : Nat → ClassId) (A : Nat → Prop) (s : State) (S0 : ms_S) (ad0 : Nat → Nat) (M : ms_M) (ad : Nat → Nat) (G : ms_G) (h : ms_H) (H : Heap) (locs : List Loc) : Prop :=
  va_P D ms_cls (ms_ws ad cA G.1 h) H ∧ va_D A (ms_ws ad cA G.1 h) ∧ va_S A s.heap H locs ∧ ms_hok G.1 h ∧ (G.2.1 ≤ M_mc M ∧ G.2.2 ≤ M_ms M) ∧ S0.length ≤ G.1.length ∧ ∀ k, k < S0.length → ad k = ad0 k
def ms_rl (ad ex : Nat → Nat) (nL : Nat) (S : ms_S) (L : List ms_V) (ls : Array Slot) : Prop := lv_has ls nL (lvl ad ex L) ∧ L.length = nL ∧ ∀ v ∈ L, ms_vok S v
def ms_RW (p : Program) (l : Launch) (e : Env) (R : Room) (s : State) (m : MethodId) (args : Array Value) (below : List Frame) (meth : Method) (c : Code) (Qf : State → Prop) (D : va_G) (cA : Nat → ClassId) (ex : Nat → Nat) (A : Nat → Prop) (S0 : ms_S) (ad0 : Nat → Nat) (P : List ms_M) (M : ms_M) (B : ms_B) : ms_K := fun L st G h =>
  ms_ckB P M B = true → ∀ (ad : Nat → Nat) (H : Heap) (locs : List Loc) (ls : Array Slot), ms_rh D cA A s S0 ad0 M ad G h H locs → ms_rl ad ex (M_ml M) G.1 L ls → (∀ v ∈ st, ms_vok G.1 v) → W p l e R s m args below meth c H locs G.2.1 G.2.2 Qf (F0 m (B_pc B) ls (st.map (ms_c ad ex)))
/-- the end of a method -/
def ms_fin (p : Program) (l : Launch) (e : Env) (R : Room) (s : State) (m : MethodId) (args : Array Value) (below : List Frame) (meth : Method) (c : Code) (Qf : State → Prop) (D : va_G) (cA : Nat → ClassId) (ex : Nat → Nat) (A : Nat → Prop) (S0 : ms_S) (ad0 : Nat → Nat) (M : ms_M) (Q : ms_Q) : Prop :=
  ∀ (pc : Nat) (ls : Array Slot) (ad : Nat → Nat) (G : ms_G) (h : ms_H) (H : Heap) (locs : List Loc), ms_rh D cA A s S0 ad0 M ad G h H locs →
    (∀ z : Int, Q (some (mI z)) G.1 h → rg z → decode (M_by M) pc = .ok (.ireturn, 1) → (M_rt M = some .int ∨ (M_rt M = some .boolean ∧ (z = 0 ∨ z = 1))) → W p l e R s m args below meth c H locs G.2.1 G.2.2 Qf (F0 m pc ls [.int (Int32.ofInt z)])) ∧
    (∀ z : Int, Q (some (mL z)) G.1 h → rg z → decode (M_by M) pc = .ok (.lreturn, 1) → M_rt M = some .long → W p l e R s m args below meth c H locs G.2.1 G.2.2 Qf (F0 m pc ls [.long (Int64.ofInt z)])) ∧
    (Q none G.1 h → decode (M_by M) pc = .ok (.return_, 1) → M_rt M = none → W p l e R s m args below meth c H locs G.2.1 G.2.2 Qf (F0 m pc ls []))
/-- all that a walk stands on -/
def ms_cx (p : Program) (l : Launch) (e : Env) (R : Room) (s : State) (m : MethodId) (args : Array Value) (below : List Frame) (meth : Method) (c : Code) (Qf : State → Prop) (D : va_G) (cA : Nat → ClassId) (ex : Nat → Nat) (A : Nat → Prop) (S0 : ms_S) (ad0 : Nat → Nat) (P : List ms_M) (M : ms_M) (d : Nat) (O : ms_O) (X : ms_Z) (Q : ms_Q) : Prop :=
  p.tables.exec = Jvm.exec ∧ c.code = M_by M ∧ c.maxLocals = M_ml M ∧ s.vm.findClass (M_nm M).cls = some m.cls ∧ (∀ w ∈ gw, w.before args s = true) ∧ va_K D ms_cls (ms_tys cA) s ∧ (∀ q, s.heap.size ≤ q → A q) ∧
  ((M_nm M).name = "<init>" → meth.name = "<init>") ∧ ms_stat ex A s ∧ (d + 1 ≤ R.frames ∧ 60 * d + 60 ≤ R.locals ∧ M_mc M ≤ R.cells ∧ M_ms M ≤ R.slots) ∧ ms_os l D cA ex P d O ∧ (∀ M' ∈ P, ms_ckM P M' = true) ∧ (∀ t, ms_ckB P M (M_bl M t) = true) ∧
  (∀ n q, X n = some q → va_T .int (ex n) q.1 (fun j => .int (Int32.ofInt (q.2 j))) A s s.heap ∧ q.1 < 2 ^ 31 ∧ ∀ i : Int, 0 ≤ i → i < q.1 → rg (q.2 i)) ∧ ms_fin p l e R s m args below meth c Qf D cA ex A S0 ad0 M Q
theorem ms_cells_in {D : va_G} {cA : Nat → ClassId} {A : Nat → Prop} {s : State} {S : ms_S} {h : ms_H} {ad : Nat → Nat} {H : Heap} {locs : List Loc} (hD : va_D A (ms_ws ad cA S h)) (hS : va_S A s.heap H locs) (hA : ∀ q, s.heap.size ≤ q → A q) : ∀ q, va_A (ms_ws ad cA S h) H.size q → A q := by
  intro q hq
  rcases hq with ⟨k, e, hk⟩ | hq
  · exact hD.2 k (q, e) hk
  · exact hA q (Nat.le_trans hS.1 hq)
section
variable {p : Program} {l : Launch} {e : Env} {R : Room} {s : State} {m : MethodId} {args : Array Value} {below : List Frame} {meth : Method} {c : Code} {Qf : State → Prop}
variable {D : va_G} {cA : Nat → ClassId} {ex : Nat → Nat} {A : Nat → Prop} {S0 : ms_S} {ad0 : Nat → Nat} {P : List ms_M} {M : ms_M}
/-- behind a call -/
theorem ms_after {kc ks : Nat} {rest : ms_B} {L r : List ms_V} {G : ms_G} {h : ms_H} {ad : Nat → Nat} {H : Heap} {locs : List Loc} {ls : Array Slot} {v : Option ms_V} {u : ms_U} {t : State} {H1 : Heap} {locs1 : List Loc}
    (hA : ∀ q, s.heap.size ≤ q → A q) (hck : ms_ckB P M rest = true) (hr : ms_rh D cA A s S0 ad0 M ad G h H locs) (hl : ms_rl ad ex (M_ml M) G.1 L ls) (hst : ∀ v ∈ r, ms_vok G.1 v) (hk : G.2.1 + kc ≤ M_mc M ∧ G.2.2 + ks ≤ M_ms M)
    (hp : ms_ps ad G.1 (o_back kc ks (ms_RW p l e R s m args below meth c Qf D cA ex A S0 ad0 P M rest) L r G) v u) (hw : ms_wd D cA (va_A (ms_ws ad cA G.1 h) H.size) u t) (ht : t.heap = H1) (hS : va_S A s.heap H1 locs1) (hv : ∀ x, v = some x → ms_vok u.1 x) :
    W p l e R s m args below meth c H1 locs1 (G.2.1 + kc) (G.2.2 + ks) Qf (F0 m (B_pc rest) ls ((v.toList.map (ms_c u.2.2 ex)) ++ r.map (ms_c ad ex))) := by
  obtain ⟨hP, hD, hS0, hh, hg, he1, he2⟩ := hr
  obtain ⟨q1, q2, q3, q4⟩ := hp
  obtain ⟨w1, w2, w3⟩ := hw
  have hin := ms_cells_in (h := h) (ad := ad) (D := D) hD hS0 hA
  have hr' : ms_rh D cA A s S0 ad0 M u.2.2 (u.1, G.2.1 + kc, G.2.2 + ks) u.2.1 H1 locs1 :=
    ⟨by rw [← ht]; exact w1, w3.weaken (fun _ q _ hq => hin q.1 hq), hS, q4, hk, Nat.le_trans he1 q2, fun k hk => by rw [q3 k (Nat.lt_of_lt_of_le hk he1)]; exact he2 k hk⟩
  have hl' : ms_rl u.2.2 ex (M_ml M) u.1 L ls := ⟨by rw [lvl_ext q3 hl.2.2]; exact hl.1, hl.2.1, fun v hv => ms_vok_mono q2 (hl.2.2 v hv)⟩
  have hst' : ∀ v ∈ r, ms_vok u.1 v := fun v hv => ms_vok_mono q2 (hst v hv)
  rw [← ms_c_exts q3 hst]
  cases v with
  | none => exact q1 hck u.2.2 H1 locs1 ls hr' hl' hst'
  | some x => exact q1 hck u.2.2 H1 locs1 ls hr' hl' (List.forall_mem_cons.mpr ⟨hv x rfl, hst'⟩)
/-- a call that runs comes back -/
theorem ms_call_end {M' : ms_M} {kc ks pc : Nat} {rest : ms_B} {L r : List ms_V} {G : ms_G} {h : ms_H} {ad : Nat → Nat} {H : Heap} {locs : List Loc} {ls : Array Slot} {st0 : List Value} {av : Array Value}
    (hA : ∀ q, s.heap.size ≤ q → A q) (hck : ms_ckB P M rest = true) (hpc : B_pc rest = pc + 3) (hr : ms_rh D cA A s S0 ad0 M ad G h H locs) (hl : ms_rl ad ex (M_ml M) G.1 L ls) (hst : ∀ v ∈ r, ms_vok G.1 v) (hk : G.2.1 + kc ≤ M_mc M ∧ G.2.2 + ks ≤ M_ms M)
    (hrt : M_rt M' = none ∨ M_rt M' = some .int ∨ M_rt M' = some .boolean ∨ M_rt M' = some .long)
    (run : va_Run p l e R s m args below meth c H locs G.2.1 G.2.2 kc ks (F0 m pc ls st0) (r.map (ms_c ad ex)) (ms_Qc (M_rt M') D cA (va_A (ms_ws ad cA G.1 h) H.size) ad G.1 (o_back kc ks (ms_RW p l e R s m args below meth c Qf D cA ex A S0 ad0 P M rest) L r G) av) (va_A (ms_ws ad cA G.1 h) H.size)) :
    W p l e R s m args below meth c H locs G.2.1 G.2.2 Qf (F0 m pc ls st0) := by
  have hin := ms_cells_in (h := h) (ad := ad) (D := D) hr.2.1 hr.2.2.1 hA
  have goI : ∀ (ty : FieldType), va_Run p l e R s m args below meth c H locs G.2.1 G.2.2 kc ks (F0 m pc ls st0) (r.map (ms_c ad ex)) (va_Qi (fun x u => ∃ z, x = Int32.ofInt z ∧ rg z ∧ ms_ps ad G.1 (o_back kc ks (ms_RW p l e R s m args below meth c Qf D cA ex A S0 ad0 P M rest) L r G) (some (mI z)) u) (ms_wd D cA (va_A (ms_ws ad cA G.1 h) H.size)) (va_A (ms_ws ad cA G.1 h) H.size) av) (va_A (ms_ws ad cA G.1 h) H.size) → W p l e R s m args below meth c H locs G.2.1 G.2.2 Qf (F0 m pc ls st0) := by
    intro _ run
    refine va_calli (a := av) run hr.2.2.1 (fun q _ h => hin q h) hin (fun x u t H1 locs1 ht hvm hp hB hz hk1 hS => ?_)
    obtain ⟨z, rfl, hz2, hp⟩ := hp
    have := ms_after hA hck hr hl hst hk hp hB ht hS (fun x hx => by cases hx; exact hz2)
    rw [hpc] at this
    exact this
  rcases hrt with hrt | hrt | hrt | hrt <;> rw [hrt] at run
  · refine va_callv (a := av) run hr.2.2.1 (fun q _ h => hin q h) hin (fun u t H1 locs1 ht hvm hp hB hz hk1 hS => ?_)
    have := ms_after hA hck hr hl hst hk hp hB ht hS (fun x hx => by cases hx)
    rw [hpc] at this
    exact this
  · exact goI .int run
  · exact goI .boolean run
  · refine va_calll (a := av) run hr.2.2.1 (fun q _ h => hin q h) hin (fun x u t H1 locs1 ht hvm hp hB hz hk1 hS => ?_)
    obtain ⟨z, rfl, hz2, hp⟩ := hp
    have := ms_after hA hck hr hl hst hk hp hB ht hS (fun x hx => by cases hx; exact hz2)
    rw [hpc] at this
    exact this
end
end
section
/-! One instruction of the small machine is one of the machine. -/
theorem ckB_x {P : List ms_M} {M : ms_M} {pc len : Nat} {raw : Instr} {x : ms_X} {rest : ms_B} (h : ms_ckB P M ((pc, raw, len, x) :: rest) = true) :
    (raw = .nop ∨ decode (M_by M) pc = .ok (raw, len)) ∧ len = ms_ln raw len ∧ ms_ckx P M pc raw x = true ∧ (ms_falls raw = true → B_pc rest = pc + len) ∧ ms_ckB P M rest = true := by
  unfold ms_ckB at h
  simp only [Bool.and_eq_true, Bool.or_eq_true, decide_eq_true_eq, Bool.not_eq_true'] at h
  obtain ⟨⟨⟨⟨h1, h2⟩, h3⟩, h4⟩, h5⟩ := h
  refine ⟨h1, h2, h3, fun hf => ?_, h5⟩
  rcases h4 with h4 | h4
  · rw [hf] at h4; cases h4
  · exact h4
theorem cktab_x {M : ms_M} {pc d : Nat} {k : Nat → Prop} {x : Int} : ∀ (os : List Int) (t : List (Int × Nat)) (lo : Int), ms_cktab M pc lo os t = true → o_sw t d x k →
    ((x < lo ∨ lo + os.length ≤ x) ∧ k d) ∨ (lo ≤ x ∧ x < lo + os.length ∧ ∃ off tg, os[(x - lo).toNat]? = some off ∧ (pc : Int) + off = (B_pc (M_bl M tg) : Int) ∧ k tg)
  | [], [], lo, _, q => Or.inl ⟨by simp; omega, q⟩
  | o :: os, (v, tg) :: t, lo, hc, q => by
    simp only [ms_cktab, Bool.and_eq_true, decide_eq_true_eq] at hc
    obtain ⟨⟨rfl, h2⟩, h3⟩ := hc
    by_cases hx : x = v
    · subst hx
      refine Or.inr ⟨Int.le_refl _, by simp only [List.length_cons]; omega, o, tg, ?_, h2, q.1 rfl⟩
      rw [show (x - x).toNat = 0 by omega]; rfl
    · rcases cktab_x os t (v + 1) h3 (q.2 hx) with ⟨h4, h5⟩ | ⟨h4, h5, off, tg', h6, h7, h8⟩
      · exact Or.inl ⟨by simp only [List.length_cons]; omega, h5⟩
      · refine Or.inr ⟨by omega, by simp only [List.length_cons]; omega, off, tg', ?_, h7, h8⟩
        rw [show (x - v).toNat = (x - (v + 1)).toNat + 1 by omega]
        exact h6
theorem cklk_x {M : ms_M} {pc d : Nat} {k : Nat → Prop} {x dflt : Int} (hd : (pc : Int) + dflt = (B_pc (M_bl M d) : Int)) : ∀ (os : List (Int × Int)) (t : List (Int × Nat)), ms_cklk M pc os t = true → o_sw t d x k →
    ∃ off tg, Op.lookupswitch.offset os dflt x = off ∧ (pc : Int) + off = (B_pc (M_bl M tg) : Int) ∧ k tg
  | [], [], _, q => ⟨dflt, d, by simp [Op.lookupswitch.offset], hd, q⟩
  | (v', o) :: os, (v, tg) :: t, hc, q => by
    simp only [ms_cklk, Bool.and_eq_true, decide_eq_true_eq] at hc
    obtain ⟨⟨rfl, h2⟩, h3⟩ := hc
    by_cases hx : x = v
    · subst hx
      exact ⟨o, tg, by simp [Op.lookupswitch.offset], h2, q.1 rfl⟩
    · obtain ⟨off, tg', h4, h5, h6⟩ := cklk_x hd os t h3 (q.2 hx)
      refine ⟨off, tg', ?_, h5, h6⟩
      rw [← h4]
      simp [Op.lookupswitch.offset, Ne.symm hx, hx]
theorem ms_nar {ty : FieldType} {b : Nat} (h : ms_tc ty = b) : (b = 0 → ty = .int) ∧ (b = 1 → ty = .boolean) ∧ (b = 2 → ty = .long) ∧ (b = 3 → (∃ C, ty = .object C) ∨ ∃ C, ty = .array C) := by
  subst h
  cases ty <;> simp [ms_tc]
section
variable {p : Program} {l : Launch} {e : Env} {R : Room} {s : State} {m : MethodId} {args : Array Value} {below : List Frame} {meth : Method} {c : Code} {Qf : State → Prop}
variable {D : va_G} {cA : Nat → ClassId} {ex : Nat → Nat} {A : Nat → Prop} {S0 : ms_S} {ad0 : Nat → Nat} {P : List ms_M} {M : ms_M} {d0 : Nat} {O : ms_O} {X : ms_Z} {Q : ms_Q}
/-- what the check of a method says of its words -/
theorem ckM_x {M' : ms_M} (h : ms_ckM P M' = true) : Cond.code (M_nm M') (M_by M') (M_ml M') (M_rt M') ∈ gw ∧ Cond.initialized (M_nm M').cls ∈ gw ∧
    (M_kd M' = 0 → Cond.instanceMethod (M_nm M') ∈ gw ∧ Cond.selects (M_nm M').cls (M_nm M') (M_nm M') ∈ gw ∧ (parseMethodDescriptor (M_nm M').desc).map (fun d => d.parameters.length + 1) = some (M_na M')) ∧
    (M_kd M' = 1 → Cond.static (M_nm M') ∈ gw ∧ (parseMethodDescriptor (M_nm M').desc).map (fun d => d.parameters.length) = some (M_na M')) ∧
    (M_kd M' = 2 → Cond.instanceMethod (M_nm M') ∈ gw ∧ (M_nm M').name = "<init>" ∧ M_rt M' = none ∧ (parseMethodDescriptor (M_nm M').desc).map (fun d => d.parameters.length + 1) = some (M_na M')) ∧
    ((M_nm M').cls ≠ "java/lang/invoke/MethodHandle" ∧ (M_nm M').cls ≠ "java/lang/invoke/VarHandle") ∧ plainName (M_nm M').cls = true ∧ M_ml M' ≤ 30 ∧ M_na M' ≤ M_ml M' ∧
    (M_rt M' = none ∨ M_rt M' = some .int ∨ M_rt M' = some .boolean ∨ M_rt M' = some .long) ∧ B_pc (M_bl M' 0) = 0 ∧ ∀ t, ms_ckB P M' (M_bl M' t) = true := by
  unfold ms_ckM at h
  split at h
  · rename_i p1 p2 p3 p4 hp
    simp only [Bool.and_eq_true, decide_eq_true_eq] at h
    obtain ⟨⟨⟨⟨⟨⟨⟨⟨⟨⟨a1, a2⟩, a3⟩, a5⟩, a6⟩, a7⟩, a8⟩, a9⟩, a10⟩, a11⟩, a12⟩ := h
    refine ⟨wd_in a1, wd_in a2, fun hk => ?_, fun hk => ?_, fun hk => ?_, a5, a6, a7, a8, a9, a10, ms_ckM_bl a11 a12⟩
    · rw [hk] at a3
      simp only [Bool.and_eq_true, decide_eq_true_eq] at a3
      exact ⟨wd_in a3.1.1, wd_in a3.1.2, a3.2⟩
    · rw [hk] at a3
      simp only [Bool.and_eq_true, decide_eq_true_eq] at a3
      exact ⟨wd_in a3.1, a3.2⟩
    · rw [hk] at a3
      simp only [Bool.and_eq_true, decide_eq_true_eq] at a3
      exact ⟨wd_in a3.1.1.1, a3.1.1.2, a3.1.2, a3.2⟩
  · cases h
end
end
section
/-! The walk: one instruction, all of them. -/
section
variable {p : Program} {l : Launch} {e : Env} {R : Room} {s : State} {m : MethodId} {args : Array Value} {below : List Frame} {meth : Method} {c : Code} {Qf : State → Prop}
variable {D : va_G} {cA : Nat → ClassId} {ex : Nat → Nat} {A : Nat → Prop} {S0 : ms_S} {ad0 : Nat → Nat} {P : List ms_M} {M : ms_M} {d0 : Nat} {O : ms_O} {X : ms_Z} {Q : ms_Q}
theorem ms_vI {S : ms_S} {z : Int} {r : List ms_V} (h : ∀ v ∈ (mI z :: r : List ms_V), ms_vok S v) : rg z ∧ ∀ v ∈ r, ms_vok S v := List.forall_mem_cons.mp h
theorem ms_vL {S : ms_S} {z : Int} {r : List ms_V} (h : ∀ v ∈ (mL z :: r : List ms_V), ms_vok S v) : rg z ∧ ∀ v ∈ r, ms_vok S v := List.forall_mem_cons.mp h
theorem ms_vR {S : ms_S} {z : Int} {r : List ms_V} (h : ∀ v ∈ (mR z :: r : List ms_V), ms_vok S v) : (rg z ∧ 0 ≤ z ∧ z < S.length) ∧ ∀ v ∈ r, ms_vok S v := List.forall_mem_cons.mp h
theorem ms_pI {S : ms_S} {z : Int} {r : List ms_V} (h : rg z) (hr : ∀ v ∈ r, ms_vok S v) : ∀ v ∈ (mI z :: r : List ms_V), ms_vok S v := List.forall_mem_cons.mpr ⟨h, hr⟩
theorem ms_pL {S : ms_S} {z : Int} {r : List ms_V} (h : rg z) (hr : ∀ v ∈ r, ms_vok S v) : ∀ v ∈ (mL z :: r : List ms_V), ms_vok S v := List.forall_mem_cons.mpr ⟨h, hr⟩
theorem ms_pR {S : ms_S} {z : Int} {r : List ms_V} (h : rg z ∧ 0 ≤ z ∧ z < S.length) (hr : ∀ v ∈ r, ms_vok S v) : ∀ v ∈ (mR z :: r : List ms_V), ms_vok S v := List.forall_mem_cons.mpr ⟨h, hr⟩
theorem ms_rl_set {ad : Nat → Nat} {nL : Nat} {S : ms_S} {L : List ms_V} {ls' : Array Slot} {i : Nat} {v : ms_V} (hlen : L.length = nL) (hv : ∀ v ∈ L, ms_vok S v) (hi : i < L.length) (hv2 : ms_vok S v) (h : lv_has ls' nL ((i, ms_c ad ex v) :: (lvl ad ex L).filter (fun q => !(q.1 == i) && !(q.1 + 1 == i && q.2.category == 2)))) : ms_rl ad ex nL S (L.set i v) ls' := by
  refine ⟨lvl_set hi h, by rw [List.length_set]; exact hlen, fun x hx => ?_⟩
  rcases List.mem_or_eq_of_mem_set hx with h1 | h1
  · exact hv x h1
  · rw [h1]; exact hv2
/-- instructions that leave the heap as it is -/
def ms_plain : Instr → Bool
  | .getfield _ | .putfield _ | .iaload | .iastore | .baload | .bastore | .aaload | .aastore | .arraylength | .getstatic _ | .invokevirtual _ | .invokestatic _ | .invokespecial _ | .new _ | .newarray _ | .anewarray _ => false
  | _ => true
set_option maxHeartbeats 4000000 in
theorem ms_step1 (C : ms_cx p l e R s m args below meth c Qf D cA ex A S0 ad0 P M d0 O X Q) {pc len : Nat} {raw : Instr} {x : ms_X} {rest : ms_B} {L st : List ms_V} {G : ms_G} {h : ms_H} (hpl : ms_plain raw = true)
    (q : ms_ex O X (M_mc M) (M_ms M) Q (fun t => ms_RW p l e R s m args below meth c Qf D cA ex A S0 ad0 P M (M_bl M t)) (ms_RW p l e R s m args below meth c Qf D cA ex A S0 ad0 P M rest) raw x L st G h) : ms_RW p l e R s m args below meth c Qf D cA ex A S0 ad0 P M ((pc, raw, len, x) :: rest) L st G h := by
  obtain ⟨hx, hb, hml, hown, hts, hK, hA, hini, hstat, ⟨hfr, hlo, hrc, hrs⟩, hos, hPk, hbl, hX, hfin⟩ := C
  intro hck ad H locs ls hr hl hst
  obtain ⟨hdec, hln, hckx, hnx, hrest⟩ := ckB_x hck
  obtain ⟨c0, a, b, d, t, w⟩ := x
  show W p l e R s m args below meth c H locs G.2.1 G.2.2 Qf (F0 m pc ls (st.map (ms_c ad ex)))
  have nx : ∀ {k : Nat} {L' st' : List ms_V} {ls' : Array Slot}, B_pc rest = pc + k → ms_RW p l e R s m args below meth c Qf D cA ex A S0 ad0 P M rest L' st' G h → ms_rl ad ex (M_ml M) G.1 L' ls' → (∀ v ∈ st', ms_vok G.1 v) → W p l e R s m args below meth c H locs G.2.1 G.2.2 Qf (F0 m (pc + k) ls' (st'.map (ms_c ad ex))) := by
    intro k L' st' ls' hk hq h2 h3
    have := hq hrest ad H locs ls' hr h2 h3
    rw [hk] at this
    exact this
  have jx : ∀ {t : Nat} {L' st' : List ms_V} {ls' : Array Slot}, ms_RW p l e R s m args below meth c Qf D cA ex A S0 ad0 P M (M_bl M t) L' st' G h → ms_rl ad ex (M_ml M) G.1 L' ls' → (∀ v ∈ st', ms_vok G.1 v) → W p l e R s m args below meth c H locs G.2.1 G.2.2 Qf (F0 m (B_pc (M_bl M t)) ls' (st'.map (ms_c ad ex))) := fun hq h2 h3 => hq (hbl _) ad H locs _ hr h2 h3
  have hd : raw = .nop ∨ decode (M_by M) pc = .ok (raw, ms_ln raw len) := by rw [← hln]; exact hdec
  have hn : ms_falls raw = true → B_pc rest = pc + ms_ln raw len := by rw [← hln]; exact hnx
  clear hdec hnx
  cases raw
  case iconst n =>
    simp only [ms_ckx, Bool.and_eq_true, decide_eq_true_eq] at hckx
    refine lv_iconst hx hb (hd.resolve_left (fun z => by cases z)) (v := Int32.ofInt c0) (by rw [hckx.1]) ?_
    exact nx (hn rfl) q hl (ms_pI (rgb_x hckx.2) hst)
  case bipush n =>
    simp only [ms_ckx, Bool.and_eq_true, decide_eq_true_eq] at hckx
    refine lv_bipush hx hb (hd.resolve_left (fun z => by cases z)) (v := Int32.ofInt c0) hckx.1 ?_
    exact nx (hn rfl) q hl (ms_pI (rgb_x hckx.2) hst)
  case sipush n =>
    simp only [ms_ckx, Bool.and_eq_true, decide_eq_true_eq] at hckx
    refine lv_sipush hx hb (hd.resolve_left (fun z => by cases z)) (v := Int32.ofInt c0) hckx.1 ?_
    exact nx (hn rfl) q hl (ms_pI (rgb_x hckx.2) hst)
  case ldc i =>
    simp only [ms_ckx, Bool.and_eq_true] at hckx
    refine lv_ldc hx hb hown (hts _ (wd_in hckx.1)) (hd.resolve_left (fun z => by cases z)) ?_
    exact nx (hn rfl) q hl (ms_pI (rgb_x hckx.2) hst)
  case ldc_w i =>
    simp only [ms_ckx, Bool.and_eq_true] at hckx
    refine lv_ldcw hx hb hown (hts _ (wd_in hckx.1)) (hd.resolve_left (fun z => by cases z)) ?_
    exact nx (hn rfl) q hl (ms_pI (rgb_x hckx.2) hst)
  case iload i =>
    simp only [ms_ckx, decide_eq_true_eq] at hckx
    replace q : o_iload a (ms_RW p l e R s m args below meth c Qf D cA ex A S0 ad0 P M rest) L st G h := q
    unfold o_iload at q
    split at q
    · rename_i z hz
      subst hckx
      refine lv_iload hx hb (hd.resolve_left (fun z => by cases z)) (lvl_at hl.1 hz rfl) ?_
      exact nx (hn rfl) q hl (ms_pI (hl.2.2 _ (List.mem_of_getElem? hz)) hst)
    · exact q.elim
  case iload_n i =>
    simp only [ms_ckx, decide_eq_true_eq] at hckx
    replace q : o_iload a (ms_RW p l e R s m args below meth c Qf D cA ex A S0 ad0 P M rest) L st G h := q
    unfold o_iload at q
    split at q
    · rename_i z hz
      refine lv_iload_n hx hb (hd.resolve_left (fun z => by cases z)) hckx (lvl_at hl.1 hz rfl) ?_
      exact nx (hn rfl) q hl (ms_pI (hl.2.2 _ (List.mem_of_getElem? hz)) hst)
    · exact q.elim
  case aload i =>
    simp only [ms_ckx, decide_eq_true_eq] at hckx
    replace q : o_aload a (ms_RW p l e R s m args below meth c Qf D cA ex A S0 ad0 P M rest) L st G h := q
    unfold o_aload at q
    split at q
    · rename_i z hz
      subst hckx
      rcases z with z | z
      · refine lv_aload hx hb (hd.resolve_left (fun z => by cases z)) (lvl_at hl.1 hz rfl) ?_
        exact nx (hn rfl) q hl (List.forall_mem_cons.mpr ⟨hl.2.2 _ (List.mem_of_getElem? hz), hst⟩)
      · refine lv_aload hx hb (hd.resolve_left (fun z => by cases z)) (lvl_at hl.1 hz rfl) ?_
        exact nx (hn rfl) q hl (List.forall_mem_cons.mpr ⟨hl.2.2 _ (List.mem_of_getElem? hz), hst⟩)
    · exact q.elim
  case aload_n i =>
    simp only [ms_ckx, decide_eq_true_eq] at hckx
    replace q : o_aload a (ms_RW p l e R s m args below meth c Qf D cA ex A S0 ad0 P M rest) L st G h := q
    unfold o_aload at q
    split at q
    · rename_i z hz
      rcases z with z | z
      · refine lv_aload_n hx hb (hd.resolve_left (fun z => by cases z)) hckx (lvl_at hl.1 hz rfl) ?_
        exact nx (hn rfl) q hl (List.forall_mem_cons.mpr ⟨hl.2.2 _ (List.mem_of_getElem? hz), hst⟩)
      · refine lv_aload_n hx hb (hd.resolve_left (fun z => by cases z)) hckx (lvl_at hl.1 hz rfl) ?_
        exact nx (hn rfl) q hl (List.forall_mem_cons.mpr ⟨hl.2.2 _ (List.mem_of_getElem? hz), hst⟩)
    · exact q.elim
  case istore i =>
    simp only [ms_ckx, decide_eq_true_eq] at hckx
    obtain ⟨hi, q⟩ := q
    replace q := i1_x q; obtain ⟨z, r, rfl, q⟩ := q
    replace hst := ms_vI hst; obtain ⟨hz, hst⟩ := hst
    subst hckx
    refine lv_istore hx hb (hd.resolve_left (fun z => by cases z)) hl.1 (by rw [← hl.2.1]; exact hi) rfl (fun ls' hl' => ?_)
    exact nx (hn rfl) q (ms_rl_set hl.2.1 hl.2.2 hi hz hl') hst
  case istore_n i =>
    simp only [ms_ckx, decide_eq_true_eq] at hckx
    obtain ⟨hi, q⟩ := q
    replace q := i1_x q; obtain ⟨z, r, rfl, q⟩ := q
    replace hst := ms_vI hst; obtain ⟨hz, hst⟩ := hst
    refine lv_istore_n hx hb (hd.resolve_left (fun z => by cases z)) hckx hl.1 (by rw [← hl.2.1]; exact hi) rfl (fun ls' hl' => ?_)
    exact nx (hn rfl) q (ms_rl_set hl.2.1 hl.2.2 hi hz hl') hst
  case astore i =>
    simp only [ms_ckx, decide_eq_true_eq] at hckx
    obtain ⟨hi, q⟩ := q
    replace q := r1_x q; obtain ⟨z, r, rfl, q⟩ := q
    replace hst := ms_vR hst; obtain ⟨hz, hst⟩ := hst
    subst hckx
    refine lv_astore hx hb (hd.resolve_left (fun z => by cases z)) hl.1 (by rw [← hl.2.1]; exact hi) rfl (fun ls' hl' => ?_)
    exact nx (hn rfl) q (ms_rl_set hl.2.1 hl.2.2 hi hz hl') hst
  case astore_n i =>
    simp only [ms_ckx, decide_eq_true_eq] at hckx
    obtain ⟨hi, q⟩ := q
    replace q := r1_x q; obtain ⟨z, r, rfl, q⟩ := q
    replace hst := ms_vR hst; obtain ⟨hz, hst⟩ := hst
    refine lv_astore_n hx hb (hd.resolve_left (fun z => by cases z)) hckx hl.1 (by rw [← hl.2.1]; exact hi) rfl (fun ls' hl' => ?_)
    exact nx (hn rfl) q (ms_rl_set hl.2.1 hl.2.2 hi hz hl') hst
  case iinc i n =>
    simp only [ms_ckx, Bool.and_eq_true, decide_eq_true_eq] at hckx
    obtain ⟨rfl, rfl⟩ := hckx
    replace q : o_iinc i n (ms_RW p l e R s m args below meth c Qf D cA ex A S0 ad0 P M rest) L st G h := q
    unfold o_iinc at q
    split at q
    · rename_i z hz
      have hm : (i, ms_c ad ex (mI z)) ∈ lvl ad ex L := lvl_mem.mpr ⟨_, hz, rfl, rfl⟩
      obtain ⟨k, hk⟩ := List.getElem?_of_mem hm
      have hi : i < L.length := (List.getElem?_eq_some_iff.mp hz).1
      refine lv_iinc hx hb (hd.resolve_left (fun z => by cases z)) hl.1 hk (v := Int32.ofInt (z + n)) (by rw [Int32.ofInt_add]) (by rw [← hl.2.1]; exact hi) rfl (fun ls' hl' => ?_)
      exact nx (hn rfl) q.2 (ms_rl_set (v := mI (z + n)) hl.2.1 hl.2.2 hi q.1 hl') hst
    · exact q.elim
  case iadd =>
    replace q := i1_x q; obtain ⟨y, r, rfl, q⟩ := q
    replace q := i1_x q; obtain ⟨x, r, rfl, q⟩ := q
    replace hst := ms_vI hst; obtain ⟨hy, hst⟩ := hst
    replace hst := ms_vI hst; obtain ⟨hz, hst⟩ := hst
    refine lv_iadd hx hb (hd.resolve_left (fun z => by cases z)) ?_
    rw [← Int32.ofInt_add]
    exact nx (hn rfl) q.2 hl (ms_pI q.1 hst)
  case isub =>
    replace q := i1_x q; obtain ⟨y, r, rfl, q⟩ := q
    replace q := i1_x q; obtain ⟨x, r, rfl, q⟩ := q
    replace hst := ms_vI hst; obtain ⟨hy, hst⟩ := hst
    replace hst := ms_vI hst; obtain ⟨hz, hst⟩ := hst
    refine lv_isub hx hb (hd.resolve_left (fun z => by cases z)) ?_
    rw [← Int32.ofInt_sub]
    exact nx (hn rfl) q.2 hl (ms_pI q.1 hst)
  case imul =>
    replace q := i1_x q; obtain ⟨y, r, rfl, q⟩ := q
    replace q := i1_x q; obtain ⟨x, r, rfl, q⟩ := q
    replace hst := ms_vI hst; obtain ⟨hy, hst⟩ := hst
    replace hst := ms_vI hst; obtain ⟨hz, hst⟩ := hst
    refine lv_imul hx hb (hd.resolve_left (fun z => by cases z)) ?_
    rw [← Int32.ofInt_mul]
    exact nx (hn rfl) q.2 hl (ms_pI q.1 hst)
  case idiv =>
    replace q := i1_x q; obtain ⟨y, r, rfl, q⟩ := q
    replace q := i1_x q; obtain ⟨x, r, rfl, q⟩ := q
    replace hst := ms_vI hst; obtain ⟨hy, hst⟩ := hst
    replace hst := ms_vI hst; obtain ⟨hz, hst⟩ := hst
    refine lv_idiv hx hb (hd.resolve_left (fun z => by cases z)) (fun w => q.1 ((rg_inj hy rg_0).mp w)) ?_
    rw [rg_div hz hy q.2.1]
    exact nx (hn rfl) q.2.2 hl (ms_pI q.2.1 hst)
  case irem =>
    replace q := i1_x q; obtain ⟨y, r, rfl, q⟩ := q
    replace q := i1_x q; obtain ⟨x, r, rfl, q⟩ := q
    replace hst := ms_vI hst; obtain ⟨hy, hst⟩ := hst
    replace hst := ms_vI hst; obtain ⟨hz, hst⟩ := hst
    refine lv_irem hx hb (hd.resolve_left (fun z => by cases z)) (fun w => q.1 ((rg_inj hy rg_0).mp w)) ?_
    have e1 : Int32.ofInt x / Int32.ofInt y = Int32.ofInt (x.tdiv y) := by
      rw [← Int32.toInt_inj, Int32.toInt_div, rg_toInt hz, rg_toInt hy, Int32.toInt_ofInt]
    rw [e1, ← Int32.ofInt_mul, ← Int32.ofInt_sub, show x - x.tdiv y * y = x.tmod y by rw [Int.mul_comm]; have := Int.mul_tdiv_add_tmod x y; omega]
    exact nx (hn rfl) q.2 hl (ms_pI (rg_rem1 hz) hst)
  case ineg =>
    replace q := i1_x q; obtain ⟨x, r, rfl, q⟩ := q
    replace hst := ms_vI hst; obtain ⟨hz, hst⟩ := hst
    refine lv_ineg hx hb (hd.resolve_left (fun z => by cases z)) ?_
    rw [← Int32.ofInt_neg]
    exact nx (hn rfl) q.2 hl (ms_pI q.1 hst)
  case iand =>
    replace q := i1_x q; obtain ⟨y, r, rfl, q⟩ := q
    replace q := i1_x q; obtain ⟨x, r, rfl, q⟩ := q
    replace hst := ms_vI hst; obtain ⟨hy, hst⟩ := hst
    replace hst := ms_vI hst; obtain ⟨hz, hst⟩ := hst
    refine lv_iand hx hb (hd.resolve_left (fun z => by cases z)) ?_
    split at q
    · rename_i hy1
      subst hy1
      rw [show Int32.ofInt 1 = 1 from rfl, of_and1]
      exact nx (hn rfl) q hl (ms_pI (by unfold rg; omega) hst)
    · split at q
      · rename_i hy1
        subst hy1
        rw [show Int32.ofInt 31 = 31 from rfl, of_and31]
        exact nx (hn rfl) q hl (ms_pI (by unfold rg; omega) hst)
      · rw [of_and q.1 q.2.1]
        exact nx (hn rfl) q.2.2 hl (ms_pI (rg_and hz q.1) hst)
  case ishl =>
    replace q := i1_x q; obtain ⟨y, r, rfl, q⟩ := q
    replace q := i1_x q; obtain ⟨x, r, rfl, q⟩ := q
    replace hst := ms_vI hst; obtain ⟨hy, hst⟩ := hst
    replace hst := ms_vI hst; obtain ⟨hz, hst⟩ := hst
    refine lv_ishl hx hb (hd.resolve_left (fun z => by cases z)) ?_
    rw [of_shl q.2.2.1 q.1 q.2.1 q.2.2.2.1]
    exact nx (hn rfl) q.2.2.2.2 hl (ms_pI q.2.2.2.1 hst)
  case ishr =>
    replace q := i1_x q; obtain ⟨y, r, rfl, q⟩ := q
    replace q := i1_x q; obtain ⟨x, r, rfl, q⟩ := q
    replace hst := ms_vI hst; obtain ⟨hy, hst⟩ := hst
    replace hst := ms_vI hst; obtain ⟨hz, hst⟩ := hst
    refine lv_ishr hx hb (hd.resolve_left (fun z => by cases z)) ?_
    rw [of_shr hz q.2.2.1 q.1 q.2.1]
    exact nx (hn rfl) q.2.2.2 hl (ms_pI (rg_shr hz q.2.2.1) hst)
  case iushr =>
    replace q := i1_x q; obtain ⟨y, r, rfl, q⟩ := q
    replace q := i1_x q; obtain ⟨x, r, rfl, q⟩ := q
    replace hst := ms_vI hst; obtain ⟨hy, hst⟩ := hst
    replace hst := ms_vI hst; obtain ⟨hz, hst⟩ := hst
    refine lv_iushr hx hb (hd.resolve_left (fun z => by cases z)) (of_ushr hz q.2.2.1 q.1 q.2.1) ?_
    exact nx (hn rfl) q.2.2.2 hl (ms_pI (rg_shr hz q.2.2.1) hst)
  case dup =>
    replace q : o_dup (ms_RW p l e R s m args below meth c Qf D cA ex A S0 ad0 P M rest) L st G h := q
    unfold o_dup at q
    split at q
    · refine lv_dup hx hb (hd.resolve_left (fun z => by cases z)) rfl ?_
      exact nx (hn rfl) q hl (List.forall_mem_cons.mpr ⟨(List.forall_mem_cons.mp hst).1, hst⟩)
    · rename_i z r
      refine lv_dup hx hb (hd.resolve_left (fun z => by cases z)) (ms_c_cat rfl) ?_
      exact nx (hn rfl) q hl (List.forall_mem_cons.mpr ⟨(List.forall_mem_cons.mp hst).1, hst⟩)
    · exact q.elim
  case pop =>
    replace q := i1_x q; obtain ⟨x, r, rfl, q⟩ := q
    replace hst := ms_vI hst; obtain ⟨hz, hst⟩ := hst
    refine lv_pop hx hb (hd.resolve_left (fun z => by cases z)) rfl ?_
    exact nx (hn rfl) q hl hst
  case dup2 =>
    replace q := i1_x q; obtain ⟨y, r, rfl, q⟩ := q
    replace q := r1_x q; obtain ⟨x, r, rfl, q⟩ := q
    replace hst := ms_vI hst; obtain ⟨hy, hst⟩ := hst
    replace hst := ms_vR hst; obtain ⟨hz, hst⟩ := hst
    refine lv_dup2_11 hx hb (hd.resolve_left (fun z => by cases z)) rfl rfl ?_
    exact nx (hn rfl) q hl (ms_pI hy (ms_pR hz (ms_pI hy (ms_pR hz hst))))
  case ifCond q0 off =>
    simp only [ms_ckx, decide_eq_true_eq] at hckx
    replace q := i1_x q; obtain ⟨x, r, rfl, q⟩ := q
    replace hst := ms_vI hst; obtain ⟨hz, hst⟩ := hst
    have hd := hd.resolve_left (fun z => by cases z)
    cases q0
    · exact lv_if_eq hx hb hd hckx (fun u => jx (q.1 ((rg_inj hz rg_0).mp u)) hl hst) (fun u => nx (hn rfl) (q.2 (fun v => u ((rg_inj hz rg_0).mpr v))) hl hst)
    · exact lv_if_ne hx hb hd hckx (fun u => jx (q.1 (fun v => u ((rg_inj hz rg_0).mpr v))) hl hst) (fun u => nx (hn rfl) (q.2 ((rg_inj hz rg_0).mp u)) hl hst)
    · exact lv_if_lt hx hb hd hckx (fun u => jx (q.1 ((rg_lt hz rg_0).mp u)) hl hst) (fun u => nx (hn rfl) (q.2 (Int.not_lt.mp (fun v => u ((rg_lt hz rg_0).mpr v)))) hl hst)
    · exact lv_if_ge hx hb hd hckx (fun u => jx (q.1 ((rg_le rg_0 hz).mp u)) hl hst) (fun u => nx (hn rfl) (q.2 (Int.not_le.mp (fun v => u ((rg_le rg_0 hz).mpr v)))) hl hst)
    · exact lv_if_gt hx hb hd hckx (fun u => jx (q.1 ((rg_lt rg_0 hz).mp u)) hl hst) (fun u => nx (hn rfl) (q.2 (Int.not_lt.mp (fun v => u ((rg_lt rg_0 hz).mpr v)))) hl hst)
    · exact lv_if_le hx hb hd hckx (fun u => jx (q.1 ((rg_le hz rg_0).mp u)) hl hst) (fun u => nx (hn rfl) (q.2 (Int.not_le.mp (fun v => u ((rg_le hz rg_0).mpr v)))) hl hst)
  case if_icmp q0 off =>
    simp only [ms_ckx, decide_eq_true_eq] at hckx
    replace q := i1_x q; obtain ⟨y, r, rfl, q⟩ := q
    replace q := i1_x q; obtain ⟨x, r, rfl, q⟩ := q
    replace hst := ms_vI hst; obtain ⟨hy, hst⟩ := hst
    replace hst := ms_vI hst; obtain ⟨hz, hst⟩ := hst
    have hd := hd.resolve_left (fun z => by cases z)
    cases q0
    · exact lv_icmp_eq hx hb hd hckx (fun u => jx (q.1 ((rg_inj hz hy).mp u)) hl hst) (fun u => nx (hn rfl) (q.2 (fun v => u ((rg_inj hz hy).mpr v))) hl hst)
    · exact lv_icmp_ne hx hb hd hckx (fun u => jx (q.1 (fun v => u ((rg_inj hz hy).mpr v))) hl hst) (fun u => nx (hn rfl) (q.2 ((rg_inj hz hy).mp u)) hl hst)
    · exact lv_icmp_lt hx hb hd hckx (fun u => jx (q.1 ((rg_lt hz hy).mp u)) hl hst) (fun u => nx (hn rfl) (q.2 (Int.not_lt.mp (fun v => u ((rg_lt hz hy).mpr v)))) hl hst)
    · exact lv_icmp_ge hx hb hd hckx (fun u => jx (q.1 ((rg_le hy hz).mp u)) hl hst) (fun u => nx (hn rfl) (q.2 (Int.not_le.mp (fun v => u ((rg_le hy hz).mpr v)))) hl hst)
    · exact lv_icmp_gt hx hb hd hckx (fun u => jx (q.1 ((rg_lt hy hz).mp u)) hl hst) (fun u => nx (hn rfl) (q.2 (Int.not_lt.mp (fun v => u ((rg_lt hy hz).mpr v)))) hl hst)
    · exact lv_icmp_le hx hb hd hckx (fun u => jx (q.1 ((rg_le hz hy).mp u)) hl hst) (fun u => nx (hn rfl) (q.2 (Int.not_le.mp (fun v => u ((rg_le hz hy).mpr v)))) hl hst)
  case goto off =>
    simp only [ms_ckx, decide_eq_true_eq] at hckx
    exact lv_goto hx hb (hd.resolve_left (fun z => by cases z)) hckx (jx q hl hst)
  case nop =>
    simp only [ms_ckx, decide_eq_true_eq] at hckx
    have hckx : pc = B_pc (M_bl M a) := hckx
    rw [hckx]
    exact jx q hl hst
  case tableswitch dflt lo hi offs =>
    simp only [ms_ckx, Bool.and_eq_true, decide_eq_true_eq] at hckx
    obtain ⟨⟨h1, h2⟩, h3⟩ := hckx
    replace q := i1_x q; obtain ⟨x, r, rfl, q⟩ := q
    replace hst := ms_vI hst; obtain ⟨hz, hst⟩ := hst
    have hd := hd.resolve_left (fun z => by cases z)
    rcases cktab_x offs.toList t lo h3 q with ⟨h4, h5⟩ | ⟨h4, h5, off, tg, h6, h7, h8⟩
    · exact lv_tableOut hx hb hd (by rw [rg_toInt hz]; omega) h1 (jx h5 hl hst)
    · exact lv_tableIn hx hb hd (by rw [rg_toInt hz]; omega) (by rw [rg_toInt hz]; omega) (by rw [rg_toInt hz, ← Array.getElem?_toList]; exact h6) h7 (jx h8 hl hst)
  case lookupswitch dflt ps =>
    simp only [ms_ckx, Bool.and_eq_true, decide_eq_true_eq] at hckx
    obtain ⟨⟨h1, h2⟩, h3⟩ := hckx
    replace q := i1_x q; obtain ⟨x, r, rfl, q⟩ := q
    replace hst := ms_vI hst; obtain ⟨hz, hst⟩ := hst
    have hd := hd.resolve_left (fun z => by cases z)
    obtain ⟨off, tg, h6, h7, h8⟩ := cklk_x h1 ps.toList t h3 q
    exact lv_lookup hx hb hd h2 (by rw [rg_toInt hz]; exact h6) h7 (jx h8 hl hst)
  case lconst n =>
    simp only [ms_ckx, Bool.and_eq_true, decide_eq_true_eq] at hckx
    refine lv_lconst hx hb (hd.resolve_left (fun z => by cases z)) (v := Int64.ofInt c0) hckx.1 ?_
    exact nx (hn rfl) q hl (ms_pL (rgb_x hckx.2) hst)
  case ldc2_w i =>
    simp only [ms_ckx, Bool.and_eq_true] at hckx
    refine lv_ldc2 hx hb hown (hts _ (wd_in hckx.1)) (hd.resolve_left (fun z => by cases z)) ?_
    exact nx (hn rfl) q hl (ms_pL (rgb_x hckx.2) hst)
  case ladd =>
    replace q := l1_x q; obtain ⟨y, r, rfl, q⟩ := q
    replace q := l1_x q; obtain ⟨x, r, rfl, q⟩ := q
    replace hst := ms_vL hst; obtain ⟨hy, hst⟩ := hst
    replace hst := ms_vL hst; obtain ⟨hz, hst⟩ := hst
    refine lv_ladd hx hb (hd.resolve_left (fun z => by cases z)) ?_
    rw [← Int64.ofInt_add]
    exact nx (hn rfl) q.2 hl (ms_pL q.1 hst)
  case lcmp =>
    replace q := l1_x q; obtain ⟨y, r, rfl, q⟩ := q
    replace q := l1_x q; obtain ⟨x, r, rfl, q⟩ := q
    replace hst := ms_vL hst; obtain ⟨hy, hst⟩ := hst
    replace hst := ms_vL hst; obtain ⟨hz, hst⟩ := hst
    obtain ⟨rfl, q⟩ := q
    refine W.lcmp hx hb (hd.resolve_left (fun z => by cases z)) ?_
    have e1 : lg_cmp (Int64.ofInt x) (Int64.ofInt x) = Int32.ofInt 0 := by simp [lg_cmp]
    rw [e1]
    exact nx (hn rfl) q hl (ms_pI rg_0 hst)
  case ireturn =>
    replace q : o_iret (M_mc M) (M_ms M) b Q L st G h := q
    unfold o_iret at q
    split at q
    · rename_i z
      obtain ⟨hz, -⟩ := ms_vI hst
      refine (hfin pc ls ad G h H locs hr).1 z q.2.2.2 hz (hd.resolve_left (fun z => by cases z)) ?_
      simp only [ms_ckx] at hckx
      split at hckx
      · rename_i hrt; exact Or.inl hrt
      · rename_i hrt; exact Or.inr ⟨hrt, q.1 (by simpa using hckx)⟩
      · cases hckx
    · exact q.elim
  case lreturn =>
    replace q : o_lret (M_mc M) (M_ms M) Q L st G h := q
    unfold o_lret at q
    split at q
    · rename_i z
      obtain ⟨hz, -⟩ := ms_vL hst
      simp only [ms_ckx, decide_eq_true_eq] at hckx
      exact (hfin pc ls ad G h H locs hr).2.1 z q.2.2 hz (hd.resolve_left (fun z => by cases z)) hckx
    · exact q.elim
  case return_ =>
    replace q : o_vret (M_mc M) (M_ms M) Q L st G h := q
    unfold o_vret at q
    split at q
    · simp only [ms_ckx, decide_eq_true_eq] at hckx
      exact (hfin pc ls ad G h H locs hr).2.2 q.2.2 (hd.resolve_left (fun z => by cases z)) hckx
    · exact q.elim
  all_goals first | (cases hpl; done) | exact q.elim
end
end
section
/-! The walk: instructions on cells, and calls. -/
theorem wd_max : (wd 470 (.static Lib.Math.max.name) && wd 471 (.code Lib.Math.max.name Lib.Math.max.code 2 (some .int)) && wd 473 (.static Lib.Math.min.name) && wd 474 (.code Lib.Math.min.name Lib.Math.min.code 2 (some .int)) && wd 85 (.initialized "java/lang/Math") && wd 459 (.static arraycopyName) && wd 460 (.native arraycopyName) && wd 84 (.initialized "java/lang/System") && wd 93 (.instanceMethod Lib.objectInit) && wd 94 (.code Lib.objectInit ⟨#[0xb1]⟩ 1 none) && wd 130 (.arrayClass .int) && wd 289 (.arrayClass .boolean)) = true := by decide +kernel
theorem ms_dflt (ad : Nat → Nat) {ci : Nat} {q : vw_C} (h : ms_cls[ci]? = some q) (h0 : ms_H) (z : Int) (n : Nat) (hn : n = q.2.2) : ∀ j, j < q.2.2 → defaultValue (ms_ty ci j) = vp_V ((List.range n).map (fun k : Nat => ms_fv ad (ms_ft ci k) (ms_nw h0 z ci z k))) j := by
  intro j hj
  obtain ⟨hc, -, h2, -⟩ := ms_cls_ok h
  subst hn
  unfold vp_V
  rw [List.getD_eq_getElem?_getD, List.getElem?_map, List.getElem?_range hj]
  show _ = ms_fv ad (ms_ft ci j) (ms_nw h0 z ci z j)
  have h3 := h2 j hj
  have h4 := ms_nar h3
  by_cases a3 : ms_ft ci (j : Int) = 3
  · have e : ms_nw h0 z ci z j = -1 := by
      unfold ms_nw
      rw [if_pos rfl, if_pos (Or.inr ⟨by omega, a3⟩)]
    rw [e]
    unfold ms_fv
    rw [if_pos a3]
    rcases h4.2.2.2 a3 with ⟨C, e⟩ | ⟨C, e⟩ <;> rw [e] <;> rfl
  · have e : ms_nw h0 z ci z j = 0 := by
      unfold ms_nw
      rw [if_pos rfl, if_neg (fun z => by rcases z with z | z; exact absurd z (by omega); exact a3 z.2)]
    rw [e]
    unfold ms_fv
    rw [if_neg a3]
    by_cases a2 : ms_ft ci (j : Int) = 2
    · rw [if_pos a2, h4.2.2.1 a2]; rfl
    · rw [if_neg a2]
      have h5 : ms_ft ci (j : Int) = 0 ∨ ms_ft ci (j : Int) = 1 := by
        have : ∀ ci, ci < 6 → ∀ k, k < 37 → ms_ft ci ((k : Nat) : Int) < 4 := by decide +kernel
        have h6 : q.2.2 ≤ 37 := by
          have : ∀ ci, ci < 6 → ms_N ci ≤ 37 := by decide +kernel
          rw [(ms_cls_ok h).2.2.2.1]; exact this ci hc
        have h7 := this ci hc j (by omega)
        omega
      rcases h5 with h5 | h5
      · rw [h4.1 h5]; rfl
      · rw [h4.2.1 h5]; rfl
section
variable {p : Program} {l : Launch} {e : Env} {R : Room} {s : State} {m : MethodId} {args : Array Value} {below : List Frame} {meth : Method} {c : Code} {Qf : State → Prop}
variable {D : va_G} {cA : Nat → ClassId} {ex : Nat → Nat} {A : Nat → Prop} {S0 : ms_S} {ad0 : Nat → Nat} {P : List ms_M} {M : ms_M} {d0 : Nat} {O : ms_O} {X : ms_Z} {Q : ms_Q}
theorem ms_ckf_x {i : Nat} {c0 : Int} {a b d w : Nat} {t : List (Int × Nat)} (h : ms_ckf M i (c0, a, b, d, t, w) = true) : ∃ q : vw_C, ms_cls[a]? = some q ∧ 0 ≤ c0 ∧ c0.toNat < q.2.2 ∧ ms_ft a c0 = b ∧ Cond.fieldLink (M_nm M).cls i q.1 (q.2.1 c0.toNat).2.1 (q.2.1 c0.toNat).2.2.1 ∈ gw := by
  unfold ms_ckf at h
  simp only at h
  split at h
  · rename_i C T N hq
    simp only [Bool.and_eq_true, decide_eq_true_eq] at h
    exact ⟨(C, T, N), hq, h.1.1.1, h.1.1.2, h.1.2, wd_in h.2⟩
  · cases h
set_option maxHeartbeats 4000000 in
theorem ms_get (C : ms_cx p l e R s m args below meth c Qf D cA ex A S0 ad0 P M d0 O X Q) {i pc : Nat} {c0 : Int} {a b d w : Nat} {t : List (Int × Nat)} {rest : ms_B} {L st : List ms_V} {G : ms_G} {h : ms_H} {ad : Nat → Nat} {H : Heap} {locs : List Loc} {ls : Array Slot}
    (hck : ms_ckf M i (c0, a, b, d, t, w) = true) (hd : decode (M_by M) pc = .ok (.getfield i, 3)) (hrest : ms_ckB P M rest = true) (hpc : B_pc rest = pc + 3) (hr : ms_rh D cA A s S0 ad0 M ad G h H locs) (hl : ms_rl ad ex (M_ml M) G.1 L ls) (hst : ∀ v ∈ st, ms_vok G.1 v)
    (q : o_get c0 a b (ms_RW p l e R s m args below meth c Qf D cA ex A S0 ad0 P M rest) L st G h) : W p l e R s m args below meth c H locs G.2.1 G.2.2 Qf (F0 m pc ls (st.map (ms_c ad ex))) := by
  obtain ⟨hx, hb, hml, hown, hts, hK, hA, hini, hstat, ⟨hfr, hlo, hrc, hrs⟩, hos, hPk, hbl, hX, hfin⟩ := C
  obtain ⟨⟨CN, T, N⟩, hq1, hc0, hc1, hft, hlink⟩ := ms_ckf_x hck
  obtain ⟨k1, k2, k3, k4, k5, k6, k7⟩ := ms_cls_ok hq1
  replace q := r1_x q; obtain ⟨z, r, rfl, hob, q⟩ := q
  replace hst := ms_vR hst; obtain ⟨hz, hst⟩ := hst
  have hck0 : ((c0.toNat : Nat) : Int) = c0 := by omega
  have hws := ms_ws_at (ad := ad) (cA := cA) (h := h) hob
  rw [ms_obj_cell (by omega)] at hws
  have hv : ((List.range (ms_N a)).map (fun k : Nat => ms_fv ad (ms_ft a k) (h z k)))[c0.toNat]? = some (ms_fv ad (ms_ft a c0) (h z c0)) := by
    rw [List.getElem?_map, List.getElem?_range (by rw [← k4]; exact hc1)]
    show some (ms_fv ad (ms_ft a ((c0.toNat : Nat) : Int)) (h z ((c0.toNat : Nat) : Int))) = _
    rw [hck0]
  have key : ∀ v' : ms_V, ms_fv ad (ms_ft a c0) (h z c0) = ms_c ad ex v' → ms_vok G.1 v' → ms_RW p l e R s m args below meth c Qf D cA ex A S0 ad0 P M rest L (v' :: r) G h → W p l e R s m args below meth c H locs G.2.1 G.2.2 Qf (F0 m pc ls ((mR z :: r).map (ms_c ad ex))) := by
    intro v' e1 e2 q
    refine va_get (Ts := gw) hx hb hts k5 hown hK hr.1 z.toNat hws hq1 c0.toNat hc1 (hts _ hlink) (fun x hx => by rw [k2 _ hc1] at hx; exact hx) hv hd ?_
    rw [e1]
    have := q hrest ad H locs ls hr hl (List.forall_mem_cons.mpr ⟨e2, hst⟩)
    rw [hpc] at this
    exact this
  have hrg := hr.2.2.2.1.1 z c0
  split at q
  · rename_i hb3
    refine key (mR (h z c0)) ?_ ⟨hrg, q.1, hr.2.2.2.1.2 z c0 a (ms_N a) hob (Or.inr ⟨by omega, by rw [hft]; exact hb3⟩)⟩ q.2
    rw [hft, hb3]
    show va_rf (ms_rf ad (h z c0)) = .ref (ad (h z c0).toNat)
    unfold ms_rf
    rw [if_neg (by have := q.1; omega)]
    rfl
  · split at q
    · rename_i hb3 hb2
      refine key (mL (h z c0)) ?_ hrg q
      rw [hft, hb2]
      rfl
    · rename_i hb3 hb2
      refine key (mI (h z c0)) ?_ hrg q
      rw [hft]
      unfold ms_fv
      rw [if_neg hb3, if_neg hb2]
      rfl
set_option maxHeartbeats 4000000 in
theorem ms_putx (C : ms_cx p l e R s m args below meth c Qf D cA ex A S0 ad0 P M d0 O X Q) {i pc : Nat} {c0 z : Int} {a b d w : Nat} {t : List (Int × Nat)} {rest : ms_B} {L r : List ms_V} {G : ms_G} {h : ms_H} {ad : Nat → Nat} {H : Heap} {locs : List Loc} {ls : Array Slot} {v : Int} {v' : ms_V}
    (hck : ms_ckf M i (c0, a, b, d, t, w) = true) (hckw : ms_ckw M (c0, a, b, d, t, w) = true) (hd : decode (M_by M) pc = .ok (.putfield i, 3)) (hrest : ms_ckB P M rest = true) (hpc : B_pc rest = pc + 3) (hr : ms_rh D cA A s S0 ad0 M ad G h H locs) (hl : ms_rl ad ex (M_ml M) G.1 L ls) (hst : ∀ v ∈ r, ms_vok G.1 v)
    (hob : ms_ob G.1 z a) (hv : ms_fv ad b v = ms_c ad ex v') (hrg : rg v) (hrf : b = 3 → v < G.1.length) (hn : ∀ ty, ms_tc ty = b → narrow ty (ms_c ad ex v') = ms_c ad ex v' ∧ fits ty (ms_c ad ex v') = true)
    (q : ms_RW p l e R s m args below meth c Qf D cA ex A S0 ad0 P M rest L r G (hs h z c0 v)) : W p l e R s m args below meth c H locs G.2.1 G.2.2 Qf (F0 m pc ls (ms_c ad ex v' :: .ref (ad z.toNat) :: r.map (ms_c ad ex))) := by
  obtain ⟨hx, hb, hml, hown, hts, hK, hA, hini, hstat, ⟨hfr, hlo, hrc, hrs⟩, hos, hPk, hbl, hX, hfin⟩ := C
  obtain ⟨⟨CN, T, N⟩, hq1, hc0, hc1, hft, hlink⟩ := ms_ckf_x hck
  obtain ⟨k1, k2, k3, k4, k5, k6, k7⟩ := ms_cls_ok hq1
  have hck0 : ((c0.toNat : Nat) : Int) = c0 := by omega
  have hws := ms_ws_at (ad := ad) (cA := cA) (h := h) hob
  rw [ms_obj_cell (by omega)] at hws
  have htc : ms_tc (ms_ty a c0.toNat) = b := by
    have := k3 c0.toNat hc1
    rw [hck0] at this
    rw [this]; exact hft
  have hN := hn _ htc
  have hlen : c0.toNat < ((List.range (ms_N a)).map (fun k : Nat => ms_fv ad (ms_ft a k) (h z k))).length := by
    simp only [List.length_map, List.length_range]
    rw [← k4]; exact hc1
  have fin : ∀ (H1 : Heap) (locs1 : List Loc), va_P D ms_cls ((ms_ws ad cA G.1 h).set z.toNat (ad z.toNat, .inr (a, ((List.range (ms_N a)).map (fun k : Nat => ms_fv ad (ms_ft a k) (h z k))).set c0.toNat (ms_c ad ex v')))) H1 → va_D A ((ms_ws ad cA G.1 h).set z.toNat (ad z.toNat, .inr (a, ((List.range (ms_N a)).map (fun k : Nat => ms_fv ad (ms_ft a k) (h z k))).set c0.toNat (ms_c ad ex v')))) → va_S A s.heap H1 locs1 → W p l e R s m args below meth c H1 locs1 G.2.1 G.2.2 Qf (F0 m (pc + 3) ls (r.map (ms_c ad ex))) := by
    intro H1 locs1 hP1 hD1 hS1
    have e1 := ms_ws_put (ad := ad) (cA := cA) (h := h) (v := v) (k := c0.toNat) hob (by omega)
    rw [hck0, hft, hv] at e1
    rw [e1] at hP1 hD1
    have := q hrest ad H1 locs1 ls ⟨hP1, hD1, hS1, hok_set hr.2.2.2.1 hrg (fun kd n hs1 hi => hrf ?_), hr.2.2.2.2⟩ hl hst
    · rw [hpc] at this
      exact this
    · have hs2 : ms_sh G.1 z = some (a, ms_N a) := hob
      rw [hs2] at hs1
      cases hs1
      rcases hi with hi | hi
      · omega
      · rw [← hft]; exact hi.2
  unfold ms_ckw at hckw
  dsimp only at hckw
  rw [hq1] at hckw
  simp only [Bool.or_eq_true, Bool.and_eq_true, decide_eq_true_eq] at hckw
  rcases hckw with hf | ⟨⟨hf1, hf2⟩, hf3⟩
  · exact va_put (Ts := gw) hx hb hts k5 (ms_ty a) k6 k7 hown hK hr.1 hr.2.1 hr.2.2.1 z.toNat hws hq1 c0.toNat hc1 (hts _ hlink) (fun x hx => by rw [k2 _ hc1] at hx; exact hx) hf (k6 _ hc1) hN.1 hN.2 hlen hd fin
  · by_cases hf : (T c0.toNat).2.2.2 = false
    · exact va_put (Ts := gw) hx hb hts k5 (ms_ty a) k6 k7 hown hK hr.1 hr.2.1 hr.2.2.1 z.toNat hws hq1 c0.toNat hc1 (hts _ hlink) (fun x hx => by rw [k2 _ hc1] at hx; exact hx) hf (k6 _ hc1) hN.1 hN.2 hlen hd fin
    · have hf' : (T c0.toNat).2.2.2 = true := by
        cases hh : (T c0.toNat).2.2.2
        · exact absurd hh hf
        · rfl
      exact va_putF (Ts := gw) hx hb hts k5 (ms_ty a) k6 k7 hown hK hr.1 hr.2.1 hr.2.2.1 z.toNat hws hq1 c0.toNat hc1 (hts _ hlink) (fun x hx => by rw [k2 _ hc1] at hx; exact hx) hf' (hini hf1) (by rw [k2 _ hc1]; exact hf2) (k6 _ hc1) hN.1 hN.2 hlen hd fin
theorem ms_nf_int {b : Nat} (hb : b = 0) (z : Int) : ∀ ty, ms_tc ty = b → narrow ty (.int (Int32.ofInt z)) = .int (Int32.ofInt z) ∧ fits ty (.int (Int32.ofInt z)) = true := by
  intro ty h
  rw [(ms_nar h).1 hb]
  exact ⟨rfl, rfl⟩
theorem ms_nf_bool {b : Nat} (hb : b = 1) {z : Int} (hz : z = 0 ∨ z = 1) : ∀ ty, ms_tc ty = b → narrow ty (.int (Int32.ofInt z)) = .int (Int32.ofInt z) ∧ fits ty (.int (Int32.ofInt z)) = true := by
  intro ty h
  rw [(ms_nar h).2.1 hb]
  rcases hz with rfl | rfl <;> decide
theorem ms_nf_long {b : Nat} (hb : b = 2) (z : Int) : ∀ ty, ms_tc ty = b → narrow ty (.long (Int64.ofInt z)) = .long (Int64.ofInt z) ∧ fits ty (.long (Int64.ofInt z)) = true := by
  intro ty h
  rw [(ms_nar h).2.2.1 hb]
  exact ⟨rfl, rfl⟩
theorem ms_nf_ref {b : Nat} (hb : b = 3) (z : Nat) : ∀ ty, ms_tc ty = b → narrow ty (.ref z) = .ref z ∧ fits ty (.ref z) = true := by
  intro ty h
  rcases (ms_nar h).2.2.2 hb with ⟨C, rfl⟩ | ⟨C, rfl⟩ <;> exact ⟨rfl, rfl⟩
set_option maxHeartbeats 4000000 in
theorem ms_put (C : ms_cx p l e R s m args below meth c Qf D cA ex A S0 ad0 P M d0 O X Q) {i pc : Nat} {c0 : Int} {a b d w : Nat} {t : List (Int × Nat)} {rest : ms_B} {L st : List ms_V} {G : ms_G} {h : ms_H} {ad : Nat → Nat} {H : Heap} {locs : List Loc} {ls : Array Slot}
    (hck : ms_ckf M i (c0, a, b, d, t, w) = true) (hckw : ms_ckw M (c0, a, b, d, t, w) = true) (hd : decode (M_by M) pc = .ok (.putfield i, 3)) (hrest : ms_ckB P M rest = true) (hpc : B_pc rest = pc + 3) (hr : ms_rh D cA A s S0 ad0 M ad G h H locs) (hl : ms_rl ad ex (M_ml M) G.1 L ls) (hst : ∀ v ∈ st, ms_vok G.1 v)
    (q : o_put c0 a b (ms_RW p l e R s m args below meth c Qf D cA ex A S0 ad0 P M rest) L st G h) : W p l e R s m args below meth c H locs G.2.1 G.2.2 Qf (F0 m pc ls (st.map (ms_c ad ex))) := by
  have h4 : b < 4 := by
    obtain ⟨⟨CN, T, N⟩, hq1, hc0, hc1, hft, hlink⟩ := ms_ckf_x hck
    have : ∀ ci, ci < 6 → ∀ k, k < 37 → ms_ft ci ((k : Nat) : Int) < 4 := by decide +kernel
    have h6 : N ≤ 37 := by
      have : ∀ ci, ci < 6 → ms_N ci ≤ 37 := by decide +kernel
      have := this a (ms_cls_ok hq1).1
      have h9 := (ms_cls_ok hq1).2.2.2.1
      simp only at h9
      omega
    have h7 := this a (ms_cls_ok hq1).1 c0.toNat (by simp only at hc1; omega)
    rw [show ((c0.toNat : Nat) : Int) = c0 by omega, hft] at h7
    exact h7
  unfold o_put at q
  split at q
  · rename_i hb3
    replace q := r1_x q; obtain ⟨v, r, rfl, q⟩ := q
    replace q := r1_x q; obtain ⟨z, r, rfl, q⟩ := q
    replace hst := ms_vR hst; obtain ⟨hv, hst⟩ := hst
    replace hst := ms_vR hst; obtain ⟨hz, hst⟩ := hst
    refine ms_putx C (v := v) (v' := mR v) hck hckw hd hrest hpc hr hl hst q.1 ?_ hv.1 (fun _ => hv.2.2) (ms_nf_ref hb3 _) q.2
    rw [hb3]
    show va_rf (ms_rf ad v) = .ref (ad v.toNat)
    unfold ms_rf
    rw [if_neg (by omega)]
    rfl
  · split at q
    · rename_i hb3 hb2
      replace q := l1_x q; obtain ⟨v, r, rfl, q⟩ := q
      replace q := r1_x q; obtain ⟨z, r, rfl, q⟩ := q
      replace hst := ms_vL hst; obtain ⟨hv, hst⟩ := hst
      replace hst := ms_vR hst; obtain ⟨hz, hst⟩ := hst
      exact ms_putx C (v := v) (v' := mL v) hck hckw hd hrest hpc hr hl hst q.1 (by rw [hb2]; rfl) hv (fun z => absurd z hb3) (ms_nf_long hb2 _) q.2
    · split at q
      · rename_i hb3 hb2 hb1
        replace q := i1_x q; obtain ⟨v, r, rfl, q⟩ := q
        replace q := r1_x q; obtain ⟨z, r, rfl, q⟩ := q
        replace hst := ms_vI hst; obtain ⟨hv, hst⟩ := hst
        replace hst := ms_vR hst; obtain ⟨hz, hst⟩ := hst
        exact ms_putx C (v := v) (v' := mI v) hck hckw hd hrest hpc hr hl hst q.1 (by rw [hb1]; rfl) hv (fun z => absurd z hb3) (ms_nf_bool hb1 q.2.1) q.2.2
      · rename_i hb3 hb2 hb1
        replace q := i1_x q; obtain ⟨v, r, rfl, q⟩ := q
        replace q := r1_x q; obtain ⟨z, r, rfl, q⟩ := q
        replace hst := ms_vI hst; obtain ⟨hv, hst⟩ := hst
        replace hst := ms_vR hst; obtain ⟨hz, hst⟩ := hst
        have hb0 : b = 0 := by omega
        exact ms_putx C (v := v) (v' := mI v) hck hckw hd hrest hpc hr hl hst q.1 (by rw [hb0]; rfl) hv (fun z => absurd z hb3) (ms_nf_int hb0 _) q.2
end
end
section
/-! The walk: arrays, cells that are made. -/
section
variable {p : Program} {l : Launch} {e : Env} {R : Room} {s : State} {m : MethodId} {args : Array Value} {below : List Frame} {meth : Method} {c : Code} {Qf : State → Prop}
variable {D : va_G} {cA : Nat → ClassId} {ex : Nat → Nat} {A : Nat → Prop} {S0 : ms_S} {ad0 : Nat → Nat} {P : List ms_M} {M : ms_M} {d0 : Nat} {O : ms_O} {X : ms_Z} {Q : ms_Q}
theorem ms_intu (n : Nat) (hn : n < 2 ^ 31) : rg (n : Int) := by
  unfold rg
  omega
theorem ms_tn {i : Int} (h : 0 ≤ i) : ((i.toNat : Nat) : Int) = i := Int.toNat_of_nonneg h
set_option maxHeartbeats 4000000 in
theorem ms_arr (C : ms_cx p l e R s m args below meth c Qf D cA ex A S0 ad0 P M d0 O X Q) {pc : Nat} {raw : Instr} {x : ms_X} {rest : ms_B} {L st : List ms_V} {G : ms_G} {h : ms_H} {ad : Nat → Nat} {H : Heap} {locs : List Loc} {ls : Array Slot}
    (hraw : raw = .iaload ∨ raw = .iastore ∨ raw = .baload ∨ raw = .bastore ∨ raw = .aaload ∨ raw = .aastore ∨ raw = .arraylength) (hd : decode (M_by M) pc = .ok (raw, 1)) (hrest : ms_ckB P M rest = true) (hpc : B_pc rest = pc + 1) (hr : ms_rh D cA A s S0 ad0 M ad G h H locs) (hl : ms_rl ad ex (M_ml M) G.1 L ls) (hst : ∀ v ∈ st, ms_vok G.1 v)
    (q : ms_ex O X (M_mc M) (M_ms M) Q (fun t => ms_RW p l e R s m args below meth c Qf D cA ex A S0 ad0 P M (M_bl M t)) (ms_RW p l e R s m args below meth c Qf D cA ex A S0 ad0 P M rest) raw x L st G h) : W p l e R s m args below meth c H locs G.2.1 G.2.2 Qf (F0 m pc ls (st.map (ms_c ad ex))) := by
  obtain ⟨hx, hb, hml, hown, hts, hK, hA, hini, hstat, ⟨hfr, hlo, hrc, hrs⟩, hos, hPk, hbl, hX, hfin⟩ := C
  obtain ⟨c0, a, b, d, t, w⟩ := x
  have nx : ∀ {st' : List ms_V} {h' : ms_H} {H' : Heap} {locs' : List Loc}, ms_RW p l e R s m args below meth c Qf D cA ex A S0 ad0 P M rest L st' G h' → ms_rh D cA A s S0 ad0 M ad G h' H' locs' → (∀ v ∈ st', ms_vok G.1 v) → W p l e R s m args below meth c H' locs' G.2.1 G.2.2 Qf (F0 m (pc + 1) ls (st'.map (ms_c ad ex))) := by
    intro st' h' H' locs' hq h1 h3
    have := hq hrest ad H' locs' ls h1 hl h3
    rw [hpc] at this
    exact this
  rcases hraw with rfl | rfl | rfl | rfl | rfl | rfl | rfl
  · -- iaload
    replace q := i1_x q; obtain ⟨i, r, rfl, q⟩ := q
    replace hst := ms_vI hst; obtain ⟨hi, hst⟩ := hst
    split at q
    · rename_i z r
      obtain ⟨n, hsh, h0, h1, q⟩ := q
      have hws := ms_ws_at (ad := ad) (cA := cA) (h := h) hsh
      rw [ms_int_cell] at hws
      refine va_iald hx hb hK hr.1 z.toNat 0 hws rfl (rg_in hi h0 h1) hd ?_
      rw [rg_cl hi, ms_tn h0]
      exact nx q hr (ms_pI (hr.2.2.2.1.1 z i) (List.forall_mem_cons.mp hst).2)
    · rename_i n r
      obtain ⟨x, hx1, h0, h1, q⟩ := q
      obtain ⟨k1, k2, k3⟩ := hX n x hx1
      refine va_ti hx hb k1 hr.2.2.1 (rg_in hi h0 h1) rfl hd ?_
      rw [rg_cl hi, ms_tn h0]
      exact nx q hr (ms_pI (k3 i h0 h1) (List.forall_mem_cons.mp hst).2)
    · exact q.elim
  · -- iastore
    replace q := i1_x q; obtain ⟨v, r, rfl, q⟩ := q
    replace q := i1_x q; obtain ⟨i, r, rfl, q⟩ := q
    replace q := r1_x q; obtain ⟨z, r, rfl, q⟩ := q
    replace hst := ms_vI hst; obtain ⟨hv, hst⟩ := hst
    replace hst := ms_vI hst; obtain ⟨hi, hst⟩ := hst
    replace hst := ms_vR hst; obtain ⟨hz, hst⟩ := hst
    obtain ⟨n, hsh, h0, h1, q⟩ := q
    have hws := ms_ws_at (ad := ad) (cA := cA) (h := h) hsh
    rw [ms_int_cell] at hws
    refine va_iast hx hb hK hr.1 hr.2.1 hr.2.2.1 z.toNat 0 hws rfl (rg_in hi h0 h1) hd (fun H1 locs1 hP1 hD1 hS1 => ?_)
    rw [rg_cl hi, ms_ws_int hsh h0] at hP1 hD1
    refine nx q ⟨hP1, hD1, hS1, hok_set hr.2.2.2.1 hv (fun kd n hs1 hi2 => ?_), hr.2.2.2.2⟩ hst
    rw [hsh] at hs1
    cases hs1
    rcases hi2 with hi2 | hi2
    · cases hi2
    · exact absurd hi2.1 (by decide)
  · -- baload
    replace q := i1_x q; obtain ⟨i, r, rfl, q⟩ := q
    replace q := r1_x q; obtain ⟨z, r, rfl, q⟩ := q
    replace hst := ms_vI hst; obtain ⟨hi, hst⟩ := hst
    replace hst := ms_vR hst; obtain ⟨hz, hst⟩ := hst
    obtain ⟨n, hsh, h0, h1, q⟩ := q
    have hws := ms_ws_at (ad := ad) (cA := cA) (h := h) hsh
    rw [ms_bool_cell] at hws
    refine va_zald hx hb hK hr.1 z.toNat 1 hws rfl (rg_in hi h0 h1) hd ?_
    rw [rg_cl hi, ms_tn h0]
    exact nx q hr (ms_pI (hr.2.2.2.1.1 z i) hst)
  · -- bastore
    replace q := i1_x q; obtain ⟨v, r, rfl, q⟩ := q
    replace q := i1_x q; obtain ⟨i, r, rfl, q⟩ := q
    replace q := r1_x q; obtain ⟨z, r, rfl, q⟩ := q
    replace hst := ms_vI hst; obtain ⟨hv, hst⟩ := hst
    replace hst := ms_vI hst; obtain ⟨hi, hst⟩ := hst
    replace hst := ms_vR hst; obtain ⟨hz, hst⟩ := hst
    obtain ⟨hv01, n, hsh, h0, h1, q⟩ := q
    have hws := ms_ws_at (ad := ad) (cA := cA) (h := h) hsh
    rw [ms_bool_cell] at hws
    have hnar : vp_nar .boolean (Int32.ofInt v) = Int32.ofInt v := by
      rcases hv01 with rfl | rfl <;> rfl
    refine va_zast hx hb hK hr.1 hr.2.1 hr.2.2.1 z.toNat 1 hws rfl (rg_in hi h0 h1) hd (fun H1 locs1 hP1 hD1 hS1 => ?_)
    rw [hnar, rg_cl hi, ms_ws_bool hsh h0] at hP1 hD1
    refine nx q ⟨hP1, hD1, hS1, hok_set hr.2.2.2.1 hv (fun kd n hs1 hi2 => ?_), hr.2.2.2.2⟩ hst
    rw [hsh] at hs1
    cases hs1
    rcases hi2 with hi2 | hi2
    · cases hi2
    · exact absurd hi2.1 (by decide)
  · -- aaload
    replace q := i1_x q; obtain ⟨i, r, rfl, q⟩ := q
    replace q := r1_x q; obtain ⟨z, r, rfl, q⟩ := q
    replace hst := ms_vI hst; obtain ⟨hi, hst⟩ := hst
    replace hst := ms_vR hst; obtain ⟨hz, hst⟩ := hst
    obtain ⟨n, hsh, h0, h1, q0, q⟩ := q
    have hws := ms_ws_at (ad := ad) (cA := cA) (h := h) hsh
    rw [ms_ref_cell] at hws
    refine va_aldq hx hb hK hr.1 z.toNat 2 hws rfl (rg_in hi h0 h1) hd ?_
    rw [rg_cl hi, ms_tn h0]
    have e1 : va_rf (ms_rf ad (h z i)) = .ref (ad (h z i).toNat) := by
      unfold ms_rf
      rw [if_neg (by omega)]
      rfl
    rw [e1]
    exact nx q hr (ms_pR ⟨hr.2.2.2.1.1 z i, q0, hr.2.2.2.1.2 z i 12 n hsh (Or.inl rfl)⟩ hst)
  · -- aastore
    replace q := r1_x q; obtain ⟨v, r, rfl, q⟩ := q
    replace q := i1_x q; obtain ⟨i, r, rfl, q⟩ := q
    replace q := r1_x q; obtain ⟨z, r, rfl, q⟩ := q
    replace hst := ms_vR hst; obtain ⟨hv, hst⟩ := hst
    replace hst := ms_vI hst; obtain ⟨hi, hst⟩ := hst
    replace hst := ms_vR hst; obtain ⟨hz, hst⟩ := hst
    obtain ⟨hob, n, hsh, h0, h1, q⟩ := q
    have hws := ms_ws_at (ad := ad) (cA := cA) (h := h) hsh
    rw [ms_ref_cell] at hws
    have hwv := ms_ws_at (ad := ad) (cA := cA) (h := h) hob
    rw [ms_obj_cell (by decide)] at hwv
    refine va_astq hx hb hK hr.1 hr.2.1 hr.2.2.1 z.toNat 2 v.toNat 1 (r := (RX1, TX1, 7)) hws rfl hwv rfl (rg_in hi h0 h1) hd (fun H1 locs1 hP1 hD1 hS1 => ?_)
    rw [rg_cl hi, ms_ws_ref hsh h0 hv.2.1] at hP1 hD1
    exact nx q ⟨hP1, hD1, hS1, hok_set hr.2.2.2.1 hv.1 (fun kd n hs1 hi2 => hv.2.2), hr.2.2.2.2⟩ hst
  · -- arraylength
    replace q : o_len X (ms_RW p l e R s m args below meth c Qf D cA ex A S0 ad0 P M rest) L st G h := q
    unfold o_len at q
    split at q
    · rename_i n r
      obtain ⟨x, hx1, q⟩ := q
      obtain ⟨k1, k2, k3⟩ := hX n x hx1
      refine va_tlen hx hb k1 hr.2.2.1 (v := Int32.ofInt (x.1 : Int)) (by rw [Int32.ofInt_eq_ofNat]) hd ?_
      exact nx q hr (ms_pI (ms_intu _ k2) (List.forall_mem_cons.mp hst).2)
    · exact q.elim
theorem ms_gets (C : ms_cx p l e R s m args below meth c Qf D cA ex A S0 ad0 P M d0 O X Q) {i pc : Nat} {rest : ms_B} {L st : List ms_V} {G : ms_G} {h : ms_H} {ad : Nat → Nat} {H : Heap} {locs : List Loc} {ls : Array Slot}
    (hck : Cond.fieldLink (M_nm M).cls i "SleetLine" "ORDERS" "[I" ∈ gw) (hd : decode (M_by M) pc = .ok (.getstatic i, 3)) (hrest : ms_ckB P M rest = true) (hpc : B_pc rest = pc + 3) (hr : ms_rh D cA A s S0 ad0 M ad G h H locs) (hl : ms_rl ad ex (M_ml M) G.1 L ls) (hst : ∀ v ∈ st, ms_vok G.1 v)
    (q : ms_RW p l e R s m args below meth c Qf D cA ex A S0 ad0 P M rest L (mE 1 :: st) G h) : W p l e R s m args below meth c H locs G.2.1 G.2.2 Qf (F0 m pc ls (st.map (ms_c ad ex))) := by
  obtain ⟨hx, hb, hml, hown, hts, hK, hA, hini, hstat, ⟨hfr, hlo, hrc, hrs⟩, hos, hPk, hbl, hX, hfin⟩ := C
  refine va_gets hx hb hstat.1 hr.2.2.1 hown (hts _ hck) (fun x hx => hx) hd ?_
  have := q hrest ad H locs ls hr hl (List.forall_mem_cons.mpr ⟨trivial, hst⟩)
  rw [hpc] at this
  exact this
set_option maxHeartbeats 4000000 in
/-- behind a cell that was made -/
theorem ms_made {k pc : Nat} {rest : ms_B} {L r : List ms_V} {G : ms_G} {h : ms_H} {ad : Nat → Nat} {H H1 : Heap} {locs : List Loc} {ls : Array Slot} {q0 : Nat × Nat} {qa n : Nat} {e0 : va_E}
    (hrest : ms_ckB P M rest = true) (hpc : B_pc rest = pc + k) (hr : ms_rh D cA A s S0 ad0 M ad G h H locs) (hl : ms_rl ad ex (M_ml M) G.1 L ls) (hst : ∀ v ∈ r, ms_vok G.1 v) (hm1 : G.2.1 + 1 ≤ M_mc M) (hm2 : G.2.2 + n ≤ M_ms M) (hlen : G.1.length < 1000)
    (he : ms_cell (ms_ad ad G.1.length qa) cA q0 (ms_nw h G.1.length q0.1 G.1.length) = e0) (hP1 : va_P D ms_cls (ms_ws ad cA G.1 h ++ [(qa, e0)]) H1) (hD1 : va_D A (ms_ws ad cA G.1 h ++ [(qa, e0)])) (hS1 : va_S A s.heap H1 locs)
    (q : ms_RW p l e R s m args below meth c Qf D cA ex A S0 ad0 P M rest L (mR G.1.length :: r) (G.1 ++ [q0], G.2.1 + 1, G.2.2 + n) (ms_nw h G.1.length q0.1)) : W p l e R s m args below meth c H1 locs (G.2.1 + 1) (G.2.2 + n) Qf (F0 m (pc + k) ls (.ref qa :: r.map (ms_c ad ex))) := by
  obtain ⟨hP, hD, hS, hh, hg, he1, he2⟩ := hr
  have ea := ms_ws_push (ad := ad) (cA := cA) (a := qa) hh he
  rw [ea] at hP1 hD1
  have hext : ∀ j, j < G.1.length → ms_ad ad G.1.length qa j = ad j := fun j hj => ms_ad_lt hj
  have hle : G.1.length ≤ (G.1 ++ [q0]).length := by rw [List.length_append]; omega
  have hr' : ms_rh D cA A s S0 ad0 M (ms_ad ad G.1.length qa) (G.1 ++ [q0], G.2.1 + 1, G.2.2 + n) (ms_nw h G.1.length q0.1) H1 locs :=
    ⟨hP1, hD1, hS1, hok_new hh, ⟨hm1, hm2⟩, Nat.le_trans he1 hle, fun j hj => by rw [hext j (Nat.lt_of_lt_of_le hj he1)]; exact he2 j hj⟩
  have hl' : ms_rl (ms_ad ad G.1.length qa) ex (M_ml M) (G.1 ++ [q0]) L ls := ⟨by rw [lvl_ext hext hl.2.2]; exact hl.1, hl.2.1, fun v hv => ms_vok_mono hle (hl.2.2 v hv)⟩
  have hst' : ∀ v ∈ (mR G.1.length :: r : List ms_V), ms_vok (G.1 ++ [q0]) v := by
    refine ms_pR ⟨?_, ?_, ?_⟩ (fun v hv => ms_vok_mono hle (hst v hv))
    · unfold rg; omega
    · omega
    · rw [List.length_append]; simp; omega
  have := q hrest _ H1 locs ls hr' hl' hst'
  rw [hpc] at this
  rw [← ms_c_exts hext hst]
  have e2 : ms_c (ms_ad ad G.1.length qa) ex (mR G.1.length) = .ref qa := by
    show Value.ref (ms_ad ad G.1.length qa ((G.1.length : Nat) : Int).toNat) = _
    rw [show ((G.1.length : Nat) : Int).toNat = G.1.length from Int.toNat_natCast _, ms_ad_self]
  rw [List.map_cons, e2] at this
  exact this
theorem ms_RA {U : State} {a b : ClassId} {ty : FieldType} (h1 : va_RA U a ty) (h2 : va_RA U b ty) : a = b := by
  cases ty
  case object C =>
    obtain ⟨_, _, _, _, _, h3⟩ := h1
    obtain ⟨_, _, _, _, _, h4⟩ := h2
    exact Option.some.inj (h3.symm.trans h4)
  all_goals exact Option.some.inj (Eq.trans (Eq.symm h1) h2)
set_option maxHeartbeats 4000000 in
theorem ms_alloc (C : ms_cx p l e R s m args below meth c Qf D cA ex A S0 ad0 P M d0 O X Q) {pc : Nat} {raw : Instr} {x : ms_X} {rest : ms_B} {L st : List ms_V} {G : ms_G} {h : ms_H} {ad : Nat → Nat} {H : Heap} {locs : List Loc} {ls : Array Slot}
    (hraw : (∃ i, raw = .new i) ∨ (∃ i, raw = .newarray i) ∨ (∃ i, raw = .anewarray i)) (hck : ms_ckx P M pc raw x = true) (hd : decode (M_by M) pc = .ok (raw, ms_ln raw 0)) (hrest : ms_ckB P M rest = true) (hpc : B_pc rest = pc + ms_ln raw 0) (hr : ms_rh D cA A s S0 ad0 M ad G h H locs) (hl : ms_rl ad ex (M_ml M) G.1 L ls) (hst : ∀ v ∈ st, ms_vok G.1 v)
    (q : ms_ex O X (M_mc M) (M_ms M) Q (fun t => ms_RW p l e R s m args below meth c Qf D cA ex A S0 ad0 P M (M_bl M t)) (ms_RW p l e R s m args below meth c Qf D cA ex A S0 ad0 P M rest) raw x L st G h) : W p l e R s m args below meth c H locs G.2.1 G.2.2 Qf (F0 m pc ls (st.map (ms_c ad ex))) := by
  obtain ⟨hx, hb, hml, hown, hts, hK, hA, hini, hstat, ⟨hfr, hlo, hrc, hrs⟩, hos, hPk, hbl, hX, hfin⟩ := C
  obtain ⟨c0, a, b, d, t, w⟩ := x
  rcases hraw with ⟨i, rfl⟩ | ⟨i, rfl⟩ | ⟨i, rfl⟩
  · simp only [ms_ckx] at hck
    split at hck
    · rename_i CN T N hq
      simp only [Bool.and_eq_true] at hck
      obtain ⟨⟨w1, w2⟩, w3⟩ := hck
      obtain ⟨k1, k2, k3, k4, k5, k6, k7⟩ := ms_cls_ok hq
      obtain ⟨hlen, q1, q2, q3⟩ := q
      have k4' : N = ms_N a := k4
      refine va_new (Ts := gw) (cl := ms_cls) (fs := (List.range (ms_N a)).map (fun k : Nat => ms_fv ad (ms_ft a k) (ms_nw h G.1.length a G.1.length k))) hx hb hts k5 (ms_ty a) k6 hown (hts _ (wd_in w1)) (hts _ (wd_in w2)) (hts _ (wd_in w3)) hK hr.1 hr.2.1 hr.2.2.1 hA hq (ms_dflt ad hq h _ _ k4'.symm) (by omega) (by show G.2.2 + N ≤ R.slots; omega) hd (fun qa H1 hP1 hD1 hS1 => ?_)
      rw [k4']
      refine ms_made (k := 3) (q0 := (a, ms_N a)) hrest hpc hr hl hst q1 q2 hlen ?_ hP1 hD1 hS1 q3
      have e1 : ms_cell (ms_ad ad G.1.length qa) cA (a, ms_N a) (ms_nw h G.1.length a G.1.length) = ms_cell ad cA (a, ms_N a) (ms_nw h G.1.length a G.1.length) := by
        refine ms_cell_ext (S := G.1) (fun j hj => ms_ad_lt hj) (fun b hb => ?_)
        unfold ms_nw
        have hb2 : a = 12 ∨ (a < 10 ∧ ms_ft a b = 3) := hb
        rw [if_pos rfl, if_pos hb2]
        omega
      rw [e1, ms_obj_cell (by omega)]
    · cases hck
  · simp only [ms_ckx] at hck
    replace q := i1_x q; obtain ⟨n, r, rfl, q⟩ := q
    replace hst := ms_vI hst; obtain ⟨hn, hst⟩ := hst
    obtain ⟨q0, ⟨q1, hlen⟩, q2, q3, q⟩ := q
    have hnn : ¬ Int32.ofInt n < 0 := fun z => by have := (rg_lt hn rg_0).mp z; omega
    have w12 := wd_max
    simp only [Bool.and_eq_true] at w12
    cases i
    case int =>
      simp only [decide_eq_true_eq] at hck
      subst hck
      refine va_newa (atype := .int) (a0 := (n.toNat, .inl (fun _ => 0))) hx hb (hts _ (wd_in w12.1.2)) rfl hK hr.1 hr.2.1 hr.2.2.1 hA (fun _ => rfl) hnn (rg_cl hn) (by show n.toNat * 4 ≤ 536870912; omega) (by omega) (by omega) hd (fun qa cB H1 hK1 hP1 hD1 hS1 => ?_)
      have hcB : cB = cA 0 := ms_RA (hK1.2 3 (cB, .int) rfl).2 (hK.2 0 (cA 0, .int) rfl).2
      subst hcB
      refine ms_made (k := 2) (q0 := (10, n.toNat)) hrest hpc hr hl hst q2 q3 hlen ?_ hP1 hD1 hS1 q
      rw [ms_int_cell]
      congr 3
      apply congrArg Sum.inl
      funext j
      unfold ms_nw
      rw [if_pos rfl, if_neg (fun z => by simp at z)]
      rfl
    case boolean =>
      simp only [decide_eq_true_eq] at hck
      subst hck
      refine va_newa (atype := .boolean) (a0 := (n.toNat, .inl (fun _ => 0))) hx hb (hts _ (wd_in w12.2)) rfl hK hr.1 hr.2.1 hr.2.2.1 hA (fun _ => rfl) hnn (rg_cl hn) (by show n.toNat * 1 ≤ 536870912; omega) (by omega) (by omega) hd (fun qa cB H1 hK1 hP1 hD1 hS1 => ?_)
      have hcB : cB = cA 1 := ms_RA (hK1.2 3 (cB, .boolean) rfl).2 (hK.2 1 (cA 1, .boolean) rfl).2
      subst hcB
      refine ms_made (k := 2) (q0 := (11, n.toNat)) hrest hpc hr hl hst q2 q3 hlen ?_ hP1 hD1 hS1 q
      rw [ms_bool_cell]
      congr 3
      apply congrArg Sum.inl
      funext j
      unfold ms_nw
      rw [if_pos rfl, if_neg (fun z => by simp at z)]
      rfl
    all_goals cases hck
  · simp only [ms_ckx, Bool.and_eq_true, decide_eq_true_eq] at hck
    replace q := i1_x q; obtain ⟨n, r, rfl, q⟩ := q
    replace hst := ms_vI hst; obtain ⟨hn, hst⟩ := hst
    obtain ⟨q0, ⟨q1, hlen⟩, q2, q3, q⟩ := q
    obtain ⟨rfl, w1⟩ := hck
    have hnn : ¬ Int32.ofInt n < 0 := fun z => by have := (rg_lt hn rg_0).mp z; omega
    refine va_newq hx hb hown (hts _ (wd_in w1)) hstat.2.2.1 hK hr.1 hr.2.1 hr.2.2.1 hA hnn (rg_cl hn) (by omega) (by omega) (by omega) hd (fun qa cB H1 hK1 hP1 hD1 hS1 => ?_)
    have hcB : cB = cA 2 := ms_RA (hK1.2 3 (cB, .object RX1) rfl).2 (hK.2 2 (cA 2, .object RX1) rfl).2
    subst hcB
    refine ms_made (k := 3) (q0 := (12, n.toNat)) hrest hpc hr hl hst q2 q3 hlen ?_ hP1 hD1 hS1 q
    rw [ms_ref_cell]
    congr 6
    apply congrArg Sum.inr
    funext j
    unfold ms_nw
    rw [if_pos rfl, if_pos (Or.inl rfl)]
    rfl
end
end
section
/-! The walk: calls. -/
section
variable {p : Program} {l : Launch} {e : Env} {R : Room} {s : State} {m : MethodId} {args : Array Value} {below : List Frame} {meth : Method} {c : Code} {Qf : State → Prop}
variable {D : va_G} {cA : Nat → ClassId} {ex : Nat → Nat} {A : Nat → Prop} {S0 : ms_S} {ad0 : Nat → Nat} {P : List ms_M} {M : ms_M} {d0 : Nat} {O : ms_O} {X : ms_Z} {Q : ms_Q}
theorem ms_ckc_x {i kd : Nat} {c0 : Int} {a b d w : Nat} {t : List (Int × Nat)} (h : ms_ckc P M i kd (c0, a, b, d, t, w) = true) : ∃ M' : ms_M, P[a]? = some M' ∧ M_kd M' = kd ∧ M_na M' = b ∧ (Cond.methodLink (M_nm M).cls i (M_nm M') ∈ gw ∨ ((M_nm M).cls, i, M_nm M') ∈ ms_nest) ∧
    (kd ≠ 1 → ∃ ci q, d = ci + 1 ∧ ms_cls[ci]? = some q ∧ q.1 = (M_nm M').cls) ∧ ((t = [] ∧ M_mc M' = 0 ∧ M_ms M' = 0) ∨ ∃ kc ks t', t = (kc, ks) :: t' ∧ kc.toNat = M_mc M' ∧ ks = M_ms M') := by
  unfold ms_ckc at h
  dsimp only at h
  split at h
  · cases h
  · rename_i M' hM
    simp only [Bool.and_eq_true, Bool.or_eq_true, decide_eq_true_eq] at h
    obtain ⟨⟨⟨⟨h1, h2⟩, h3⟩, h4⟩, h5⟩ := h
    refine ⟨M', hM, h1, h2, ?_, fun hk => ?_, ?_⟩
    · rcases h3 with h3 | h3
      · exact Or.inl (wd_in h3)
      · exact Or.inr h3
    · split at h4
      · simp only [decide_eq_true_eq] at h4
        exact absurd h4 hk
      · rename_i ci
        simp only [Bool.and_eq_true] at h4
        have h6 := h4.2
        split at h6
        · rename_i q hq
          exact ⟨ci, q, rfl, hq, of_decide_eq_true h6⟩
        · cases h6
    · split at h5
      · simp only [Bool.and_eq_true, decide_eq_true_eq] at h5
        exact Or.inl ⟨rfl, h5⟩
      · rename_i kc ks t'
        simp only [Bool.and_eq_true, decide_eq_true_eq] at h5
        exact Or.inr ⟨kc, ks, t', rfl, h5⟩
theorem ms_stk {b : Nat} {st : List ms_V} {ad : Nat → Nat} : st.map (ms_c ad ex) = ((st.take b).reverse.map (ms_c ad ex)).reverse ++ (st.drop b).map (ms_c ad ex) := by
  rw [List.map_reverse, List.reverse_reverse, ← List.map_append, List.take_append_drop]
set_option maxHeartbeats 4000000 in
theorem ms_callx (C : ms_cx p l e R s m args below meth c Qf D cA ex A S0 ad0 P M d0 O X Q) {i pc kd : Nat} {raw : Instr} {c0 : Int} {a b d w : Nat} {t : List (Int × Nat)} {rest : ms_B} {L st : List ms_V} {G : ms_G} {h : ms_H} {ad : Nat → Nat} {H : Heap} {locs : List Loc} {ls : Array Slot}
    (hck : ms_ckc P M i kd (c0, a, b, d, t, w) = true) (hraw : (kd = 0 ∧ raw = .invokevirtual i) ∨ (kd = 1 ∧ raw = .invokestatic i) ∨ (kd = 2 ∧ raw = .invokespecial i)) (hd : decode (M_by M) pc = .ok (raw, 3)) (hrest : ms_ckB P M rest = true) (hpc : B_pc rest = pc + 3) (hr : ms_rh D cA A s S0 ad0 M ad G h H locs) (hl : ms_rl ad ex (M_ml M) G.1 L ls) (hst : ∀ v ∈ st, ms_vok G.1 v)
    (q : o_call O (M_mc M) (M_ms M) a b d t (ms_RW p l e R s m args below meth c Qf D cA ex A S0 ad0 P M rest) L st G h) : W p l e R s m args below meth c H locs G.2.1 G.2.2 Qf (F0 m pc ls (st.map (ms_c ad ex))) := by
  have C' := C
  obtain ⟨hx, hb, hml, hown, hts, hK, hA, hini, hstat, ⟨hfr, hlo, hrc, hrs⟩, hos, hPk, hbl, hX, hfin⟩ := C
  obtain ⟨M', hP', hkd, hna, hlink, hd0, htt⟩ := ms_ckc_x hck
  obtain ⟨g1, g2, g3, g4, g5, g6, g7, g8, g9, g10, g11, g12⟩ := ckM_x (hPk M' (List.mem_of_getElem? hP'))
  obtain ⟨q1, q2, q3, q4, q5⟩ := q
  obtain ⟨kc, ks, e1, e2, e3, e4, hO⟩ : ∃ kc ks, kc = M_mc M' ∧ ks = M_ms M' ∧ G.2.1 + kc ≤ M_mc M ∧ G.2.2 + ks ≤ M_ms M ∧ O a (st.take b).reverse G.1 h (o_back kc ks (ms_RW p l e R s m args below meth c Qf D cA ex A S0 ad0 P M rest) L (st.drop b) G) := by
    rcases htt with ⟨rfl, h1, h2⟩ | ⟨kc, ks, t', rfl, h1, h2⟩
    · exact ⟨0, 0, h1.symm, h2.symm, by have := hr.2.2.2.2.1; omega, by have := hr.2.2.2.2.1; omega, q5⟩
    · exact ⟨kc.toNat, ks, h1, h2, q5.1, q5.2.1, q5.2.2⟩
  have hvs : ∀ v ∈ (st.take b).reverse, ms_vok G.1 v := fun v hv => hst v (List.mem_of_mem_take (List.mem_reverse.mp hv))
  have hrs2 : ∀ v ∈ st.drop b, ms_vok G.1 v := fun v hv => hst v (List.mem_of_mem_drop hv)
  have hnl : ∀ v ∈ (st.take b).reverse, ms_nl v = true := fun v hv => List.all_eq_true.mp q3 v (List.mem_reverse.mp hv)
  have hvl : ((st.take b).reverse).length = b := by rw [List.length_reverse, List.length_take]; omega
  have hM := hos a M' _ G.1 h _ hP' hO hvs hnl hr.2.2.2.1 ad H.size
  unfold ms_met at hM
  subst e1; subst e2
  have hin := ms_cells_in (h := h) (ad := ad) (D := D) hr.2.1 hr.2.2.1 hA
  have hpre : ∀ U : State, U.heap = H → s.WarmedH U.vm → ms_pre D cA ex ad G.1 h H.size U := by
    intro U hU hW
    refine ⟨by rw [hU], by rw [hU]; exact hr.1, va_K.moved hW.alike hK, hr.2.1.weaken (fun _ _ _ _ => trivial), ?_⟩
    exact ms_stat_to hstat (locs := locs) (by rw [hU]; exact hr.2.2.1) hin hW
  have hroom : 2 * (F0 m pc ls (st.map (ms_c ad ex))).monitorRoom + (((st.drop b).map (ms_c ad ex)).map fun v => v.category).sum ≤ 8 := by
    refine lv_room ?_
    have := ms_sum ad ex (st.drop b)
    omega
  have hfit : G.2.1 + M_mc M' ≤ R.cells ∧ G.2.2 + M_ms M' ≤ R.slots := ⟨by omega, by omega⟩
  have wsok : ∀ w ∈ ms_wsM M', w ∈ gw := by
    intro w hw
    rcases List.mem_cons.mp hw with rfl | hw
    · exact g1
    · exact hw
  have base : ∀ n, (parseMethodDescriptor (M_nm M').desc).map (fun d => d.parameters.length) = some n → (ms_rm d0 M').cells = M_mc M' ∧ (ms_rm d0 M').slots = M_ms M' ∧ (ms_rm d0 M').frames + 1 ≤ R.frames ∧ 8 + (M_ml M' + 11) + (ms_rm d0 M').locals ≤ R.locals ∧ (∀ w ∈ ms_wsM M', ∀ (a' : Array Value) (U : State), s.WarmedH U.vm → w.before a' U = true) ∧ Cond.code (M_nm M') (M_by M') (M_ml M') (M_rt M') ∈ ms_wsM M' ∧
      (Cond.code (M_nm M') (M_by M') (M_ml M') (M_rt M')).before args s = true ∧ (Cond.initialized (M_nm M').cls).before args s = true ∧ ((M_nm M').cls ≠ "java/lang/invoke/MethodHandle" ∧ (M_nm M').cls ≠ "java/lang/invoke/VarHandle") ∧ (∀ sig, parseMethodDescriptor (M_nm M').desc = some sig → n = sig.parameters.length) := by
    intro n hn
    refine ⟨rfl, rfl, hfr, by show 8 + (M_ml M' + 11) + 60 * d0 ≤ R.locals; omega, fun w hw a' U hW => word_at hW (gw_good (wsok w hw)) (hts w (wsok w hw)), List.mem_cons_self, hts _ g1, hts _ g2, g6, fun sig hs => ?_⟩
    rw [hs] at hn
    exact (Option.some.inj hn).symm
  have plus : ∀ {o : Option MethodDescriptor} {k : Nat}, o.map (fun d => d.parameters.length + 1) = some (k + 1) → o.map (fun d => d.parameters.length) = some k := by
    intro o k hk
    cases o with
    | none => cases hk
    | some y =>
      have := Option.some.inj hk
      show some _ = some _
      congr 1
      exact Nat.succ.inj this
  rcases hraw with ⟨rfl, rfl⟩ | ⟨rfl, rfl⟩ | ⟨rfl, rfl⟩
  · obtain ⟨ci, qc, rfl, hc1, hc2⟩ := hd0 (by decide)
    obtain ⟨w1, w2, w3⟩ := g3 hkd
    obtain ⟨z, As, hv, hob⟩ := q4
    rw [hv] at hM hvl
    have hstk : st.map (ms_c ad ex) = (As.map (ms_c ad ex)).reverse ++ .ref (ad z.toNat) :: (st.drop b).map (ms_c ad ex) := by
      rw [ms_stk (b := b), hv]
      simp [ms_c]
    have hn : (parseMethodDescriptor (M_nm M').desc).map (fun d => d.parameters.length) = some As.length := plus (by rw [w3, hna, ← hvl]; rfl)
    obtain ⟨b1, b2, b3, b4, b5, b6, b7, b8, b9, b10⟩ := base _ hn
    have hws := ms_ws_at (ad := ad) (cA := cA) (h := h) hob
    rw [ms_obj_cell (by have := (ms_cls_ok hc1).1; omega)] at hws
    have hrecv := va_recv hK hr.1 hc1 hws
    rw [hc2] at hrecv
    have hPre : PreV s H (M_nm M').cls (ad z.toNat) (va_Pc ((mR z :: As).map (ms_c ad ex)) (ms_pre D cA ex ad G.1 h H.size)) (As.map (ms_c ad ex)) := ⟨ms_blind _, hrecv, fun U hU hW => ⟨rfl, hpre U hU hW⟩⟩
    refine ms_call_end (M' := M') (av := (Value.ref (ad z.toNat) :: As.map (ms_c ad ex)).toArray) (kc := M_mc M') (ks := M_ms M') (r := st.drop b) hA hrest hpc hr hl hrs2 ⟨e3, e4⟩ g10 ?_
    rcases hlink with hlink | hlink
    · exact va_runV (nL := M_ml M) (Ts := gw) (n := As.length) (bytes := M_by M') (maxL := M_ml M') (ret := M_rt M') ⟨hx, hb, hml, hown, hts⟩ hM ⟨⟨b1, b2, b3, b4, b5, b6, b7, b8, b9, b10, hts _ hlink⟩, hts _ w1, hts _ w2⟩ hPre rfl (by simp) hl.1.1 hstk hroom hd hfit
    · exact va_runVN (nL := M_ml M) (Ts := gw) (n := As.length) (host := "SleetLine") (bytes := M_by M') (maxL := M_ml M') (ret := M_rt M') ⟨hx, hb, hml, hown, hts⟩ hM ⟨⟨⟨b1, b2, b3, b4, b5, b6⟩, b7, b8, b9, b10, va_Nw.use rfl (hstat.2.2.2 _ hlink)⟩, hts _ w1, hts _ w2⟩ hPre rfl (by simp) hl.1.1 hstk hroom hd hfit
  · obtain ⟨w1, w2⟩ := g4 hkd
    have hstk : st.map (ms_c ad ex) = ((st.take b).reverse.map (ms_c ad ex)).reverse ++ (st.drop b).map (ms_c ad ex) := ms_stk
    have hn : (parseMethodDescriptor (M_nm M').desc).map (fun d => d.parameters.length) = some ((st.take b).reverse).length := by rw [w2, hna, hvl]
    obtain ⟨b1, b2, b3, b4, b5, b6, b7, b8, b9, b10⟩ := base _ hn
    have hPre : PreS s H (va_Pc ((st.take b).reverse.map (ms_c ad ex)) (ms_pre D cA ex ad G.1 h H.size)) ((st.take b).reverse.map (ms_c ad ex)) := ⟨ms_blind _, fun U hU hW => ⟨rfl, hpre U hU hW⟩⟩
    refine ms_call_end (M' := M') (av := ((st.take b).reverse.map (ms_c ad ex)).toArray) (kc := M_mc M') (ks := M_ms M') (r := st.drop b) hA hrest hpc hr hl hrs2 ⟨e3, e4⟩ g10 ?_
    rcases hlink with hlink | hlink
    · exact va_runS (nL := M_ml M) (Ts := gw) (n := ((st.take b).reverse).length) (bytes := M_by M') (maxL := M_ml M') (ret := M_rt M') ⟨hx, hb, hml, hown, hts⟩ hM ⟨⟨b1, b2, b3, b4, b5, b6, b7, b8, b9, b10, hts _ hlink⟩, hts _ w1⟩ hPre rfl (List.length_map _) hl.1.1 hstk hroom hd hfit
    · exact va_runSN (nL := M_ml M) (Ts := gw) (n := ((st.take b).reverse).length) (host := "SleetLine") (bytes := M_by M') (maxL := M_ml M') (ret := M_rt M') ⟨hx, hb, hml, hown, hts⟩ hM ⟨⟨⟨b1, b2, b3, b4, b5, b6⟩, b7, b8, b9, b10, va_Nw.use rfl (hstat.2.2.2 _ hlink)⟩, hts _ w1, trivial⟩ hPre rfl (List.length_map _) hl.1.1 hstk hroom hd hfit
  · obtain ⟨w1, w2, w3, w4⟩ := g5 hkd
    obtain ⟨ci, qc, rfl, hc1, hc2⟩ := hd0 (by decide)
    obtain ⟨z, As, hv, hob⟩ := q4
    rw [hv] at hM hvl
    have hstk : st.map (ms_c ad ex) = (As.map (ms_c ad ex)).reverse ++ .ref (ad z.toNat) :: (st.drop b).map (ms_c ad ex) := by
      rw [ms_stk (b := b), hv]
      simp [ms_c]
    have hn : (parseMethodDescriptor (M_nm M').desc).map (fun d => d.parameters.length) = some As.length := plus (by rw [w4, hna, ← hvl]; rfl)
    obtain ⟨b1, b2, b3, b4, b5, b6, b7, b8, b9, b10⟩ := base _ hn
    rw [w3] at b6 b7
    have hPre : PreS s H (va_Pc ((mR z :: As).map (ms_c ad ex)) (ms_pre D cA ex ad G.1 h H.size)) (.ref (ad z.toNat) :: As.map (ms_c ad ex)) := ⟨ms_blind _, fun U hU hW => ⟨rfl, hpre U hU hW⟩⟩
    refine ms_call_end (M' := M') (av := (Value.ref (ad z.toNat) :: As.map (ms_c ad ex)).toArray) (kc := M_mc M') (ks := M_ms M') (r := st.drop b) hA hrest hpc hr hl hrs2 ⟨e3, e4⟩ g10 ?_
    rcases hlink with hlink | hlink
    · exact va_runI (nL := M_ml M) (Ts := gw) (n := As.length) (bytes := M_by M') (maxL := M_ml M') ⟨hx, hb, hml, hown, hts⟩ hM ⟨⟨b1, b2, b3, b4, b5, b6, b7, b8, b9, b10, hts _ hlink⟩, w2, hts _ w1⟩ hPre rfl (by simp) hl.1.1 hstk hroom hd hfit
    · exact va_runIN (nL := M_ml M) (Ts := gw) (n := As.length) (host := "SleetLine") (bytes := M_by M') (maxL := M_ml M') ⟨hx, hb, hml, hown, hts⟩ hM ⟨⟨⟨b1, b2, b3, b4, b5, b6⟩, b7, b8, b9, b10, va_Nw.use rfl (hstat.2.2.2 _ hlink)⟩, w2, hts _ w1⟩ hPre rfl (by simp) hl.1.1 hstk hroom hd hfit
end
end
section
/-! The small machine is sound. -/
section
variable {p : Program} {l : Launch} {e : Env} {R : Room} {s : State} {m : MethodId} {args : Array Value} {below : List Frame} {meth : Method} {c : Code} {Qf : State → Prop}
variable {D : va_G} {cA : Nat → ClassId} {ex : Nat → Nat} {A : Nat → Prop} {S0 : ms_S} {ad0 : Nat → Nat} {P : List ms_M} {M : ms_M} {d0 : Nat} {O : ms_O} {X : ms_Z} {Q : ms_Q}
set_option maxHeartbeats 4000000 in
theorem ms_step (C : ms_cx p l e R s m args below meth c Qf D cA ex A S0 ad0 P M d0 O X Q) : ms_cl O X M Q (ms_RW p l e R s m args below meth c Qf D cA ex A S0 ad0 P M) := by
  intro pc raw len x rest L st G h q
  by_cases hpl : ms_plain raw = true
  · exact ms_step1 C hpl q
  · intro hck ad H locs ls hr hl hst
    obtain ⟨hdec, hln, hckx, hnx, hrest⟩ := ckB_x hck
    show W p l e R s m args below meth c H locs G.2.1 G.2.2 Qf (F0 m pc ls (st.map (ms_c ad ex)))
    have hd : raw = .nop ∨ decode (M_by M) pc = .ok (raw, ms_ln raw len) := by rw [← hln]; exact hdec
    have hn : ms_falls raw = true → B_pc rest = pc + ms_ln raw len := by rw [← hln]; exact hnx
    clear hdec hnx
    obtain ⟨c0, a, b, d, t, w⟩ := x
    have w12 := wd_max
    simp only [Bool.and_eq_true] at w12
    obtain ⟨⟨⟨⟨⟨⟨⟨⟨⟨⟨⟨u1, u2⟩, u3⟩, u4⟩, u5⟩, u6⟩, u7⟩, u8⟩, u9⟩, u10⟩, u11⟩, u12⟩ := w12
    cases raw
    case getfield i => exact ms_get (d := d) (t := t) C hckx (hd.resolve_left (fun z => by cases z)) hrest (hn rfl) hr hl hst q
    case putfield i =>
      simp only [ms_ckx, Bool.and_eq_true] at hckx
      exact ms_put C hckx.1 hckx.2 (hd.resolve_left (fun z => by cases z)) hrest (hn rfl) hr hl hst q
    case iaload => exact ms_arr C (by simp) (hd.resolve_left (fun z => by cases z)) hrest (hn rfl) hr hl hst q
    case iastore => exact ms_arr C (by simp) (hd.resolve_left (fun z => by cases z)) hrest (hn rfl) hr hl hst q
    case baload => exact ms_arr C (by simp) (hd.resolve_left (fun z => by cases z)) hrest (hn rfl) hr hl hst q
    case bastore => exact ms_arr C (by simp) (hd.resolve_left (fun z => by cases z)) hrest (hn rfl) hr hl hst q
    case aaload => exact ms_arr C (by simp) (hd.resolve_left (fun z => by cases z)) hrest (hn rfl) hr hl hst q
    case aastore => exact ms_arr C (by simp) (hd.resolve_left (fun z => by cases z)) hrest (hn rfl) hr hl hst q
    case arraylength => exact ms_arr C (by simp) (hd.resolve_left (fun z => by cases z)) hrest (hn rfl) hr hl hst q
    case getstatic i => exact ms_gets C (wd_in hckx) (hd.resolve_left (fun z => by cases z)) hrest (hn rfl) hr hl hst q
    case new i => exact ms_alloc C (Or.inl ⟨i, rfl⟩) hckx (hd.resolve_left (fun z => by cases z)) hrest (hn rfl) hr hl hst q
    case newarray i => exact ms_alloc C (Or.inr (Or.inl ⟨i, rfl⟩)) hckx (hd.resolve_left (fun z => by cases z)) hrest (hn rfl) hr hl hst q
    case anewarray i => exact ms_alloc C (Or.inr (Or.inr ⟨i, rfl⟩)) hckx (hd.resolve_left (fun z => by cases z)) hrest (hn rfl) hr hl hst q
    case invokevirtual i => exact ms_callx (c0 := c0) C (kd := 0) hckx (Or.inl ⟨rfl, rfl⟩) (hd.resolve_left (fun z => by cases z)) hrest (hn rfl) hr hl hst q
    case invokestatic i =>
      have hd := hd.resolve_left (fun z => by cases z)
      have hn := hn rfl
      simp only [ms_ckx] at hckx
      simp only [ms_ex] at q
      have C' := C
      obtain ⟨hx, hb, hml, hown, hts, hK, hA, hini, hstat, ⟨hfr, hlo, hrc, hrs⟩, hos, hPk, hbl, hX, hfin⟩ := C'
      have nx : ∀ {st' : List ms_V} {h' : ms_H} {H' : Heap} {locs' : List Loc}, ms_RW p l e R s m args below meth c Qf D cA ex A S0 ad0 P M rest L st' G h' → ms_rh D cA A s S0 ad0 M ad G h' H' locs' → (∀ v ∈ st', ms_vok G.1 v) → W p l e R s m args below meth c H' locs' G.2.1 G.2.2 Qf (F0 m (pc + 3) ls (st'.map (ms_c ad ex))) := by
        intro st' h' H' locs' hq h1 h3
        have := hq hrest ad H' locs' ls h1 hl h3
        rw [hn] at this
        exact this
      have hml2 : c.maxLocals = ls.size := by rw [hml, hl.1.1]
      have hg := hr.2.2.2.2.1
      split at hckx
      · rename_i ha
        rw [if_pos ha] at q
        replace q := i1_x q; obtain ⟨y, r, rfl, q⟩ := q
        replace q := i1_x q; obtain ⟨x, r, rfl, q⟩ := q
        replace hst := ms_vI hst; obtain ⟨hy, hst⟩ := hst
        replace hst := ms_vI hst; obtain ⟨hz, hst⟩ := hst
        have hsum := ms_sum ad ex r
        refine va_mmax hx hb hml2 hown (hts _ (wd_in hckx)) (hts _ (wd_in u1)) (hts _ (wd_in u5)) (hts _ (wd_in u2)) (by omega) (by have := q.1; omega) (by omega) (by omega) hd ?_
        rw [rg_max hz hy]
        exact nx q.2 hr (ms_pI (by unfold rg at hz hy ⊢; omega) hst)
      · rename_i ha
        rw [if_neg ha] at q
        split at hckx
        · rename_i ha
          rw [if_pos ha] at q
          replace q := i1_x q; obtain ⟨y, r, rfl, q⟩ := q
          replace q := i1_x q; obtain ⟨x, r, rfl, q⟩ := q
          replace hst := ms_vI hst; obtain ⟨hy, hst⟩ := hst
          replace hst := ms_vI hst; obtain ⟨hz, hst⟩ := hst
          have hsum := ms_sum ad ex r
          refine va_mmin hx hb hml2 hown (hts _ (wd_in hckx)) (hts _ (wd_in u3)) (hts _ (wd_in u5)) (hts _ (wd_in u4)) (by omega) (by have := q.1; omega) (by omega) (by omega) hd ?_
          rw [rg_min hz hy]
          exact nx q.2 hr (ms_pI (by unfold rg at hz hy ⊢; omega) hst)
        · rename_i ha
          rw [if_neg ha] at q
          split at hckx
          · rename_i ha
            rw [if_pos ha] at q
            replace q := i1_x q; obtain ⟨n, r, rfl, q⟩ := q
            replace q := i1_x q; obtain ⟨dp, r, rfl, q⟩ := q
            replace q := r1_x q; obtain ⟨dd, r, rfl, q⟩ := q
            replace q := i1_x q; obtain ⟨sp, r, rfl, q⟩ := q
            replace q := r1_x q; obtain ⟨ss, r, rfl, q⟩ := q
            replace hst := ms_vI hst; obtain ⟨v1, hst⟩ := hst
            replace hst := ms_vI hst; obtain ⟨v2, hst⟩ := hst
            replace hst := ms_vR hst; obtain ⟨v3, hst⟩ := hst
            replace hst := ms_vI hst; obtain ⟨v4, hst⟩ := hst
            replace hst := ms_vR hst; obtain ⟨v5, hst⟩ := hst
            obtain ⟨q1, q2, q3, q4, n0, n1, q5, q6, q7, q8, q⟩ := q
            have hsum := ms_sum ad ex r
            have hw0 := ms_ws_at (ad := ad) (cA := cA) (h := h) q5
            have hw1 := ms_ws_at (ad := ad) (cA := cA) (h := h) q6
            rw [ms_int_cell] at hw0 hw1
            have nn : ∀ {z : Int}, rg z → 0 ≤ z → ¬ Int32.ofInt z < 0 := fun hz h0 u => by have := (rg_lt hz rg_0).mp u; omega
            have e1 : nativeFrameWords "java/lang/System" "arraycopy" 5 = 7 := by decide +kernel
            have hloc : (((r.map (ms_c ad ex)).map fun v => v.category).sum) + (nativeFrameWords "java/lang/System" "arraycopy" 5 + 11) ≤ R.locals := by
              rw [e1]; omega
            refine va_copyi hx hb hml2 hown (hts _ (wd_in hckx)) (hts _ (wd_in u7)) (hts _ (wd_in u6)) (hts _ (wd_in u8)) hK hr.1 hr.2.1 hr.2.2.1 ss.toNat dd.toNat 0 0 hw0 hw1 rfl rfl rfl (nn v4 q3) (nn v2 q4) (nn v1 q2) (by rw [rg_cl v4, rg_cl v1]; omega) (by rw [rg_cl v2, rg_cl v1]; omega) (fun _ _ => rfl) (by omega) hloc hd (fun H1 locs1 hP1 hD1 hS1 => ?_)
            rw [rg_cl v4, rg_cl v2, rg_cl v1, ms_ws_cpy q6 q3 q4 q2] at hP1 hD1
            exact nx q ⟨hP1, hD1, hS1, hok_cpy hr.2.2.2.1 q6, hr.2.2.2.2⟩ hst
          · rename_i ha
            rw [if_neg ha] at q
            exact ms_callx (c0 := c0) C (kd := 1) hckx (Or.inr (Or.inl ⟨rfl, rfl⟩)) hd hrest hn hr hl hst q
    case invokespecial i =>
      have hd := hd.resolve_left (fun z => by cases z)
      have hn := hn rfl
      simp only [ms_ckx] at hckx
      simp only [ms_ex] at q
      split at hckx
      · rename_i ha
        rw [if_pos ha] at q
        have C' := C
        obtain ⟨hx, hb, hml, hown, hts, hK, hA, hini, hstat, ⟨hfr, hlo, hrc, hrs⟩, hos, hPk, hbl, hX, hfin⟩ := C'
        replace q := r1_x q; obtain ⟨z, r, rfl, q⟩ := q
        replace hst := ms_vR hst; obtain ⟨hz, hst⟩ := hst
        have hsum := ms_sum ad ex r
        have hroom : 2 * (F0 m pc ls ((mR z :: r).map (ms_c ad ex))).monitorRoom + (((r).map (ms_c ad ex)).map fun v => v.category).sum ≤ 8 := lv_room (by have := q.1; omega)
        refine W.objInit hx hb hown (hts _ (wd_in hckx)) (hts _ (wd_in u9)) (hts _ (wd_in u10)) rfl (by show ls.size = c.maxLocals; rw [hml, hl.1.1]) rfl hd (by omega) (by omega) ?_
        have := q.2 hrest ad H locs ls hr hl hst
        rw [hn] at this
        exact this
      · rename_i ha
        rw [if_neg ha] at q
        exact ms_callx (c0 := c0) C (kd := 2) hckx (Or.inr (Or.inr ⟨rfl, rfl⟩)) hd hrest hn hr hl hst q
    all_goals exact absurd rfl hpl
end
end
section
/-! Every method that the small machine says comes back, comes back. -/
theorem lv_args_at {ad ex : Nat → Nat} : ∀ (vs : List ms_V) (i k : Nat) (v : ms_V), (∀ v ∈ vs, ms_nl v = true) → vs[k]? = some v → (i + k, ms_c ad ex v) ∈ lv_args i (vs.map (ms_c ad ex))
  | [], _, _, _, _, h => by simp at h
  | u :: vs, i, 0, v, hn, h => by
    simp at h
    subst h
    exact List.mem_cons_self
  | u :: vs, i, k + 1, v, hn, h => by
    have h1 : vs[k]? = some v := by simpa using h
    have h2 := ms_c_cat (ad := ad) (ex := ex) (hn u List.mem_cons_self)
    show _ ∈ (i, ms_c ad ex u) :: lv_args (if (ms_c ad ex u).category = 2 then i + 2 else i + 1) (vs.map (ms_c ad ex))
    rw [if_neg (by omega)]
    have h3 := lv_args_at (ad := ad) (ex := ex) vs (i + 1) k v (fun v hv => hn v (List.mem_cons_of_mem _ hv)) h1
    rw [show i + (k + 1) = i + 1 + k by omega]
    exact List.mem_cons_of_mem _ h3
theorem lg_sl_len {ad ex : Nat → Nat} : ∀ (vs : List ms_V), (∀ v ∈ vs, ms_nl v = true) → (lg_sl (vs.map (ms_c ad ex))).length = vs.length
  | [], _ => rfl
  | u :: vs, hn => by
    have h2 := ms_c_cat (ad := ad) (ex := ex) (hn u List.mem_cons_self)
    have h3 := lg_sl_len (ad := ad) (ex := ex) vs (fun v hv => hn v (List.mem_cons_of_mem _ hv))
    unfold lg_sl at h3 ⊢
    rw [List.map_cons, List.flatMap_cons, if_neg (by omega), List.length_append, h3, List.length_cons]
    simp
    omega
theorem ms_pad_len {n : Nat} {vs : List ms_V} (h : vs.length ≤ n) : (ms_pad n vs).length = n := by
  unfold ms_pad
  rw [List.length_append, List.length_replicate]
  omega
theorem ms_enter {ad ex : Nat → Nat} {n : Nat} {S : ms_S} {vs : List ms_V} (hn : ∀ v ∈ vs, ms_nl v = true) (hv : ∀ v ∈ vs, ms_vok S v) (hlen : vs.length ≤ n) : ms_rl ad ex n S (ms_pad n vs) ((lg_sl (vs.map (ms_c ad ex)) ++ List.replicate (n - (lg_sl (vs.map (ms_c ad ex))).length) Slot.unset).toArray) := by
  have h0 := lv_entry (vs.map (ms_c ad ex)) (n := n) (by rw [lg_sl_len vs hn]; exact hlen)
  refine ⟨⟨h0.1, h0.2.1, fun q hq => ?_⟩, ms_pad_len hlen, fun v hv2 => ?_⟩
  · obtain ⟨v, h1, h2, h3⟩ := lvl_mem.mp hq
    unfold ms_pad at h1
    by_cases hk : q.1 < vs.length
    · rw [List.getElem?_append_left hk] at h1
      have h4 := lv_args_at (ad := ad) (ex := ex) vs 0 q.1 v hn h1
      rw [Nat.zero_add] at h4
      have h5 := h0.2.2 _ h4
      rw [h3]
      exact h5
    · rw [List.getElem?_append_right (by omega), List.getElem?_replicate] at h1
      split at h1
      · cases h1; cases h2
      · cases h1
  · unfold ms_pad at hv2
    rcases List.mem_append.mp hv2 with h | h
    · exact hv v h
    · rw [(List.mem_replicate.mp h).2]
      exact rg_0
theorem ms_ord_rg (i : Int) : rg (ms_ord i) := by
  unfold ms_ord rg
  repeat' split
  all_goals omega
set_option maxHeartbeats 4000000 in
theorem ms_sound (l : Launch) (D : va_G) (cA : Nat → ClassId) (ex : Nat → Nat) (P : List ms_M) (hP : ∀ M ∈ P, ms_ckM P M = true) : ∀ d, ms_os l D cA ex P d (ms_Ok P d)
  | 0 => fun _ _ _ _ _ _ _ hO => hO.elim
  | d + 1 => by
    intro y M vs S h Q hy hO hvs hnl hh ad sz
    obtain ⟨M2, h1, h2, h3⟩ := hO
    rw [hy] at h1
    cases h1
    obtain ⟨g1, g2, g3, g4, g5, g6, g7, g8, g9, g10, g11, g12⟩ := ckM_x (hP M (List.mem_of_getElem? hy))
    unfold ms_met
    refine Met.ofW (cc := M_by M) (maxL := M_ml M) (ret := M_rt M) g7 rfl ?_
    intro p e s m args below meth c s₁ B hml hv
    obtain ⟨rfl, hsz, hPp, hK, hD0, hst⟩ := hv
    subst hsz
    have hts := atoms_spec (ws := ms_wsM M) B.pre
    have hown : s.vm.findClass (M_nm M).cls = some m.cls := findClass_of_methodNamed B.named
    have hin : (M_nm M).name = "<init>" → meth.name = "<init>" := fun z => (name_of_methodNamed B.named B.method).1.trans z
    have hlocks := B.notSynchronized
    have hx := B.exec
    have hb := B.bytes
    have hret := B.returns
    have hS : va_S (va_A (ms_ws ad cA S h) s.heap.size) s.heap s.heap [] := va_S.rf
    have hfin : ms_fin p l e (headSpec (ms_wsM M) (ms_rm (d + 1) M)).room s m (vs.map (ms_c ad ex)).toArray below meth c (MQ below (ms_Qc (M_rt M) D cA (va_A (ms_ws ad cA S h) s.heap.size) ad S Q) (vs.map (ms_c ad ex)).toArray s (M_mc M) (M_ms M) (va_A (ms_ws ad cA S h) s.heap.size)) D cA ex (va_A (ms_ws ad cA S h) s.heap.size) S ad M Q := by
      intro pc ls ad' G h' H locs hr
      obtain ⟨r1, r2, r3, r4, r5, r6, r7⟩ := hr
      have hw : ∀ t : State, t.heap = H → s.WarmedH t.vm → ms_wd D cA (va_A (ms_ws ad cA S h) s.heap.size) (G.1, h', ad') t := fun t ht hW => ⟨by rw [ht]; exact r1, va_K.moved hW.alike hK, r2⟩
      refine ⟨fun z hq hz hd hrt => ?_, fun z hq hz hd hrt => ?_, fun hq hd hrt => ?_⟩
      · refine W.widen (k := M_mc M) (n := M_ms M) r5.1 r5.2 ?_
        rcases hrt with hrt | ⟨hrt, h01⟩
        · rw [hrt] at hret ⊢
          exact W.iret hx hb hret (fun t ht hW => ⟨⟨Int32.ofInt z, (G.1, h', ad'), rfl, ⟨z, rfl, hz, hq, r6, r7, r4⟩, hw t ht hW⟩, r3.F ht⟩) r3.2.2 hd
        · rw [hrt] at hret ⊢
          exact W.zret hx hb hret (by rcases h01 with rfl | rfl <;> rfl) (fun t ht hW => ⟨⟨Int32.ofInt z, (G.1, h', ad'), rfl, ⟨z, rfl, hz, hq, r6, r7, r4⟩, hw t ht hW⟩, r3.F ht⟩) r3.2.2 hd
      · refine W.widen (k := M_mc M) (n := M_ms M) r5.1 r5.2 ?_
        rw [hrt] at hret ⊢
        exact W.lret hx hb hret (fun t ht hW => ⟨⟨Int64.ofInt z, (G.1, h', ad'), rfl, ⟨z, rfl, hz, hq, r6, r7, r4⟩, hw t ht hW⟩, r3.F ht⟩) r3.2.2 hd
      · refine W.widen (k := M_mc M) (n := M_ms M) r5.1 r5.2 ?_
        rw [hrt] at hret ⊢
        exact W.vret hx hb hret (fun t ht hW => ⟨⟨(G.1, h', ad'), rfl, ⟨hq, r6, r7, r4⟩, hw t ht hW⟩, r3.F ht⟩) r3.2.2 hd
    have hX : ∀ n q, ms_X1 n = some q → va_T .int (ex n) q.1 (fun j => .int (Int32.ofInt (q.2 j))) (va_A (ms_ws ad cA S h) s.heap.size) s s.heap ∧ q.1 < 2 ^ 31 ∧ ∀ i : Int, 0 ≤ i → i < q.1 → rg (q.2 i) := by
      intro n q hq
      unfold ms_X1 at hq
      split at hq
      · rename_i hn1
        cases hq
        subst hn1
        exact ⟨hst.2.1, by decide, fun i _ _ => ms_ord_rg i⟩
      · cases hq
    have C : ms_cx p l e (headSpec (ms_wsM M) (ms_rm (d + 1) M)).room s m (vs.map (ms_c ad ex)).toArray below meth c (MQ below (ms_Qc (M_rt M) D cA (va_A (ms_ws ad cA S h) s.heap.size) ad S Q) (vs.map (ms_c ad ex)).toArray s (M_mc M) (M_ms M) (va_A (ms_ws ad cA S h) s.heap.size)) D cA ex (va_A (ms_ws ad cA S h) s.heap.size) S ad P M d (ms_Ok P d) ms_X1 Q :=
      ⟨hx, hb, hml, hown, fun w hw => hts w (List.mem_cons_of_mem _ hw), hK, fun q hq => Or.inr hq, hin, hst, ⟨Nat.le_refl _, by show 60 * d + 60 ≤ 60 * (d + 1); omega, Nat.le_refl _, Nat.le_refl _⟩, ms_sound l D cA ex P hP d, hP, g12, hX, hfin⟩
    have hRW := h3 _ (ms_step C)
    rw [lg_entry_eq]
    have hgo := hRW (g12 0) ad s.heap [] _ ⟨hPp, hD0.self, hS, hh, ⟨Nat.zero_le _, Nat.zero_le _⟩, Nat.le_refl _, fun _ _ => rfl⟩ (ms_enter hnl hvs (by rw [h2]; exact g9)) (fun v hv => by cases hv)
    rw [g11] at hgo
    exact hgo
end
