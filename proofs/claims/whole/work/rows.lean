section
-- ===== PART A: goes FIRST, ahead of the names: the tables' words, and 'selects' of the private methods out of them =====
/-- a private method of a class that the tables say can be made, by its rows of tables_1 -/
def lw_okq (q : MethodName × Nat) : Prop := (q.1.cls ≠ "java/lang/invoke/MethodHandle" ∧ q.1.cls ≠ "java/lang/invoke/VarHandle") ∧ Cond.instantiable q.1.cls q.2 ∈ tables_1 ∧ Cond.privateMethod q.1 ∈ tables_1 ∧ Cond.instanceMethod q.1 ∈ tables_1
theorem lw_p0 : lw_okq (⟨"FiveInks$Reader", "readMark", "(LFiveInks$Pad;)Z"⟩, 2) := ⟨⟨by decide +kernel, by decide +kernel⟩, List.mem_of_getElem? (i := 191) (by decide +kernel), List.mem_of_getElem? (i := 342) (by decide +kernel), List.mem_of_getElem? (i := 343) (by decide +kernel)⟩
theorem lw_p1 : lw_okq (⟨"FiveInks$Reader", "digitHere", "(LFiveInks$Pad;)I"⟩, 2) := ⟨⟨by decide +kernel, by decide +kernel⟩, List.mem_of_getElem? (i := 191) (by decide +kernel), List.mem_of_getElem? (i := 346) (by decide +kernel), List.mem_of_getElem? (i := 347) (by decide +kernel)⟩
theorem lw_p2 : lw_okq (⟨"FiveInks$Reader", "readSign", "(LFiveInks$Pad;C)Z"⟩, 2) := ⟨⟨by decide +kernel, by decide +kernel⟩, List.mem_of_getElem? (i := 191) (by decide +kernel), List.mem_of_getElem? (i := 352) (by decide +kernel), List.mem_of_getElem? (i := 353) (by decide +kernel)⟩
theorem lw_p3 : lw_okq (⟨"FiveInks$Reader", "readGaps", "(LFiveInks$Pad;II)Z"⟩, 2) := ⟨⟨by decide +kernel, by decide +kernel⟩, List.mem_of_getElem? (i := 191) (by decide +kernel), List.mem_of_getElem? (i := 356) (by decide +kernel), List.mem_of_getElem? (i := 357) (by decide +kernel)⟩
theorem lw_p4 : lw_okq (⟨"FiveInks$Reader", "readGap", "(LFiveInks$Pad;)I"⟩, 2) := ⟨⟨by decide +kernel, by decide +kernel⟩, List.mem_of_getElem? (i := 191) (by decide +kernel), List.mem_of_getElem? (i := 360) (by decide +kernel), List.mem_of_getElem? (i := 361) (by decide +kernel)⟩
theorem lw_p5 : lw_okq (⟨"FiveInks$Reader", "readLetters", "(LFiveInks$Pad;)Z"⟩, 2) := ⟨⟨by decide +kernel, by decide +kernel⟩, List.mem_of_getElem? (i := 191) (by decide +kernel), List.mem_of_getElem? (i := 368) (by decide +kernel), List.mem_of_getElem? (i := 369) (by decide +kernel)⟩
theorem lw_p6 : lw_okq (⟨"FiveInks$Reader", "readOneGap", "(LFiveInks$Pad;I)Z"⟩, 2) := ⟨⟨by decide +kernel, by decide +kernel⟩, List.mem_of_getElem? (i := 191) (by decide +kernel), List.mem_of_getElem? (i := 377) (by decide +kernel), List.mem_of_getElem? (i := 378) (by decide +kernel)⟩
theorem lw_p7 : lw_okq (⟨"FiveInks$Marks", "clashingWith", "(ILFiveInks$Marks;I)Z"⟩, 8) := ⟨⟨by decide +kernel, by decide +kernel⟩, List.mem_of_getElem? (i := 49) (by decide +kernel), List.mem_of_getElem? (i := 393) (by decide +kernel), List.mem_of_getElem? (i := 394) (by decide +kernel)⟩
theorem lw_p8 : lw_okq (⟨"FiveInks$Marks", "copyRow", "(LFiveInks$Marks;II)V"⟩, 8) := ⟨⟨by decide +kernel, by decide +kernel⟩, List.mem_of_getElem? (i := 49) (by decide +kernel), List.mem_of_getElem? (i := 401) (by decide +kernel), List.mem_of_getElem? (i := 402) (by decide +kernel)⟩
theorem lw_p9 : lw_okq (⟨"FiveInks$Sheet", "isAcceptedByVerdict", "(I)Z"⟩, 4) := ⟨⟨by decide +kernel, by decide +kernel⟩, List.mem_of_getElem? (i := 23) (by decide +kernel), List.mem_of_getElem? (i := 478) (by decide +kernel), List.mem_of_getElem? (i := 479) (by decide +kernel)⟩
theorem lw_p10 : lw_okq (⟨"FiveInks$View", "carryOut", "(LFiveInks$Sheet;)V"⟩, 5) := ⟨⟨by decide +kernel, by decide +kernel⟩, List.mem_of_getElem? (i := 207) (by decide +kernel), List.mem_of_getElem? (i := 492) (by decide +kernel), List.mem_of_getElem? (i := 493) (by decide +kernel)⟩
theorem lw_p11 : lw_okq (⟨"FiveInks$View", "placeChosen", "(LFiveInks$Marks;I)V"⟩, 5) := ⟨⟨by decide +kernel, by decide +kernel⟩, List.mem_of_getElem? (i := 207) (by decide +kernel), List.mem_of_getElem? (i := 496) (by decide +kernel), List.mem_of_getElem? (i := 497) (by decide +kernel)⟩
theorem lw_p12 : lw_okq (⟨"FiveInks$View", "addLettersOf", "(LFiveInks$Marks;I)V"⟩, 5) := ⟨⟨by decide +kernel, by decide +kernel⟩, List.mem_of_getElem? (i := 207) (by decide +kernel), List.mem_of_getElem? (i := 500) (by decide +kernel), List.mem_of_getElem? (i := 501) (by decide +kernel)⟩
theorem lw_p13 : lw_okq (⟨"FiveInks$View", "add", "(I)V"⟩, 5) := ⟨⟨by decide +kernel, by decide +kernel⟩, List.mem_of_getElem? (i := 207) (by decide +kernel), List.mem_of_getElem? (i := 504) (by decide +kernel), List.mem_of_getElem? (i := 505) (by decide +kernel)⟩
theorem lw_p14 : lw_okq (⟨"FiveInks$Marks", "carryGaps", "(I)V"⟩, 8) := ⟨⟨by decide +kernel, by decide +kernel⟩, List.mem_of_getElem? (i := 49) (by decide +kernel), List.mem_of_getElem? (i := 524) (by decide +kernel), List.mem_of_getElem? (i := 525) (by decide +kernel)⟩
theorem lw_p15 : lw_okq (⟨"FiveInks$Marks", "printedAhead", "(I)I"⟩, 8) := ⟨⟨by decide +kernel, by decide +kernel⟩, List.mem_of_getElem? (i := 49) (by decide +kernel), List.mem_of_getElem? (i := 529) (by decide +kernel), List.mem_of_getElem? (i := 530) (by decide +kernel)⟩
def lw_privs_1 : List (MethodName × Nat) := [(⟨"FiveInks$Reader", "readMark", "(LFiveInks$Pad;)Z"⟩, 2), (⟨"FiveInks$Reader", "digitHere", "(LFiveInks$Pad;)I"⟩, 2), (⟨"FiveInks$Reader", "readSign", "(LFiveInks$Pad;C)Z"⟩, 2), (⟨"FiveInks$Reader", "readGaps", "(LFiveInks$Pad;II)Z"⟩, 2), (⟨"FiveInks$Reader", "readGap", "(LFiveInks$Pad;)I"⟩, 2), (⟨"FiveInks$Reader", "readLetters", "(LFiveInks$Pad;)Z"⟩, 2), (⟨"FiveInks$Reader", "readOneGap", "(LFiveInks$Pad;I)Z"⟩, 2), (⟨"FiveInks$Marks", "clashingWith", "(ILFiveInks$Marks;I)Z"⟩, 8), (⟨"FiveInks$Marks", "copyRow", "(LFiveInks$Marks;II)V"⟩, 8), (⟨"FiveInks$Sheet", "isAcceptedByVerdict", "(I)Z"⟩, 4), (⟨"FiveInks$View", "carryOut", "(LFiveInks$Sheet;)V"⟩, 5), (⟨"FiveInks$View", "placeChosen", "(LFiveInks$Marks;I)V"⟩, 5), (⟨"FiveInks$View", "addLettersOf", "(LFiveInks$Marks;I)V"⟩, 5), (⟨"FiveInks$View", "add", "(I)V"⟩, 5), (⟨"FiveInks$Marks", "carryGaps", "(I)V"⟩, 8), (⟨"FiveInks$Marks", "printedAhead", "(I)I"⟩, 8)]
theorem lw_r1 : ∀ q ∈ lw_privs_1, lw_okq q := List.forall_mem_cons.mpr ⟨lw_p0, List.forall_mem_cons.mpr ⟨lw_p1, List.forall_mem_cons.mpr ⟨lw_p2, List.forall_mem_cons.mpr ⟨lw_p3, List.forall_mem_cons.mpr ⟨lw_p4, List.forall_mem_cons.mpr ⟨lw_p5, List.forall_mem_cons.mpr ⟨lw_p6, List.forall_mem_cons.mpr ⟨lw_p7, List.forall_mem_cons.mpr ⟨lw_p8, List.forall_mem_cons.mpr ⟨lw_p9, List.forall_mem_cons.mpr ⟨lw_p10, List.forall_mem_cons.mpr ⟨lw_p11, List.forall_mem_cons.mpr ⟨lw_p12, List.forall_mem_cons.mpr ⟨lw_p13, List.forall_mem_cons.mpr ⟨lw_p14, List.forall_mem_cons.mpr ⟨lw_p15, fun _ h => absurd h List.not_mem_nil⟩⟩⟩⟩⟩⟩⟩⟩⟩⟩⟩⟩⟩⟩⟩⟩
theorem lw_p16 : lw_okq (⟨"FiveInks$Marks", "printedAt", "(I)I"⟩, 8) := ⟨⟨by decide +kernel, by decide +kernel⟩, List.mem_of_getElem? (i := 49) (by decide +kernel), List.mem_of_getElem? (i := 533) (by decide +kernel), List.mem_of_getElem? (i := 534) (by decide +kernel)⟩
theorem lw_p17 : lw_okq (⟨"FiveInks$Marks", "isPutInTwice", "(II)Z"⟩, 8) := ⟨⟨by decide +kernel, by decide +kernel⟩, List.mem_of_getElem? (i := 49) (by decide +kernel), List.mem_of_getElem? (i := 537) (by decide +kernel), List.mem_of_getElem? (i := 538) (by decide +kernel)⟩
theorem lw_p18 : lw_okq (⟨"FiveInks", "seenLength", "(I)I"⟩, 8) := ⟨⟨by decide +kernel, by decide +kernel⟩, List.mem_of_getElem? (i := 15) (by decide +kernel), List.mem_of_getElem? (i := 598) (by decide +kernel), List.mem_of_getElem? (i := 599) (by decide +kernel)⟩
theorem lw_p19 : lw_okq (⟨"FiveInks$Versions", "rowOf", "(I)I"⟩, 3) := ⟨⟨by decide +kernel, by decide +kernel⟩, List.mem_of_getElem? (i := 101) (by decide +kernel), List.mem_of_getElem? (i := 630) (by decide +kernel), List.mem_of_getElem? (i := 631) (by decide +kernel)⟩
theorem lw_p20 : lw_okq (⟨"FiveInksModel", "records", "()V"⟩, 19) := ⟨⟨by decide +kernel, by decide +kernel⟩, List.mem_of_getElem? (i := 713) (by decide +kernel), List.mem_of_getElem? (i := 784) (by decide +kernel), List.mem_of_getElem? (i := 785) (by decide +kernel)⟩
theorem lw_p21 : lw_okq (⟨"FiveInksModel", "reads", "()I"⟩, 19) := ⟨⟨by decide +kernel, by decide +kernel⟩, List.mem_of_getElem? (i := 713) (by decide +kernel), List.mem_of_getElem? (i := 799) (by decide +kernel), List.mem_of_getElem? (i := 800) (by decide +kernel)⟩
theorem lw_p22 : lw_okq (⟨"FiveInksModel", "readsMark", "()V"⟩, 19) := ⟨⟨by decide +kernel, by decide +kernel⟩, List.mem_of_getElem? (i := 713) (by decide +kernel), List.mem_of_getElem? (i := 803) (by decide +kernel), List.mem_of_getElem? (i := 804) (by decide +kernel)⟩
theorem lw_p23 : lw_okq (⟨"FiveInksModel", "digit", "(I)I"⟩, 19) := ⟨⟨by decide +kernel, by decide +kernel⟩, List.mem_of_getElem? (i := 713) (by decide +kernel), List.mem_of_getElem? (i := 807) (by decide +kernel), List.mem_of_getElem? (i := 808) (by decide +kernel)⟩
theorem lw_p24 : lw_okq (⟨"FiveInksModel", "sign", "()I"⟩, 19) := ⟨⟨by decide +kernel, by decide +kernel⟩, List.mem_of_getElem? (i := 713) (by decide +kernel), List.mem_of_getElem? (i := 811) (by decide +kernel), List.mem_of_getElem? (i := 812) (by decide +kernel)⟩
theorem lw_p25 : lw_okq (⟨"FiveInksModel", "gap", "()I"⟩, 19) := ⟨⟨by decide +kernel, by decide +kernel⟩, List.mem_of_getElem? (i := 713) (by decide +kernel), List.mem_of_getElem? (i := 815) (by decide +kernel), List.mem_of_getElem? (i := 816) (by decide +kernel)⟩
theorem lw_p26 : lw_okq (⟨"FiveInksModel", "wants", "(I)V"⟩, 19) := ⟨⟨by decide +kernel, by decide +kernel⟩, List.mem_of_getElem? (i := 713) (by decide +kernel), List.mem_of_getElem? (i := 819) (by decide +kernel), List.mem_of_getElem? (i := 820) (by decide +kernel)⟩
theorem lw_p27 : lw_okq (⟨"FiveInksModel", "letters", "(I)I"⟩, 19) := ⟨⟨by decide +kernel, by decide +kernel⟩, List.mem_of_getElem? (i := 713) (by decide +kernel), List.mem_of_getElem? (i := 823) (by decide +kernel), List.mem_of_getElem? (i := 824) (by decide +kernel)⟩
theorem lw_p28 : lw_okq (⟨"FiveInksModel", "makes", "(I)Z"⟩, 19) := ⟨⟨by decide +kernel, by decide +kernel⟩, List.mem_of_getElem? (i := 713) (by decide +kernel), List.mem_of_getElem? (i := 827) (by decide +kernel), List.mem_of_getElem? (i := 828) (by decide +kernel)⟩
theorem lw_p29 : lw_okq (⟨"FiveInksModel", "lays", "(III)V"⟩, 19) := ⟨⟨by decide +kernel, by decide +kernel⟩, List.mem_of_getElem? (i := 713) (by decide +kernel), List.mem_of_getElem? (i := 831) (by decide +kernel), List.mem_of_getElem? (i := 832) (by decide +kernel)⟩
theorem lw_p30 : lw_okq (⟨"FiveInksModel", "isAgainstOwn", "(I)Z"⟩, 19) := ⟨⟨by decide +kernel, by decide +kernel⟩, List.mem_of_getElem? (i := 713) (by decide +kernel), List.mem_of_getElem? (i := 835) (by decide +kernel), List.mem_of_getElem? (i := 836) (by decide +kernel)⟩
theorem lw_p31 : lw_okq (⟨"FiveInksModel", "get", "(II)I"⟩, 19) := ⟨⟨by decide +kernel, by decide +kernel⟩, List.mem_of_getElem? (i := 713) (by decide +kernel), List.mem_of_getElem? (i := 839) (by decide +kernel), List.mem_of_getElem? (i := 840) (by decide +kernel)⟩
def lw_privs_2 : List (MethodName × Nat) := [(⟨"FiveInks$Marks", "printedAt", "(I)I"⟩, 8), (⟨"FiveInks$Marks", "isPutInTwice", "(II)Z"⟩, 8), (⟨"FiveInks", "seenLength", "(I)I"⟩, 8), (⟨"FiveInks$Versions", "rowOf", "(I)I"⟩, 3), (⟨"FiveInksModel", "records", "()V"⟩, 19), (⟨"FiveInksModel", "reads", "()I"⟩, 19), (⟨"FiveInksModel", "readsMark", "()V"⟩, 19), (⟨"FiveInksModel", "digit", "(I)I"⟩, 19), (⟨"FiveInksModel", "sign", "()I"⟩, 19), (⟨"FiveInksModel", "gap", "()I"⟩, 19), (⟨"FiveInksModel", "wants", "(I)V"⟩, 19), (⟨"FiveInksModel", "letters", "(I)I"⟩, 19), (⟨"FiveInksModel", "makes", "(I)Z"⟩, 19), (⟨"FiveInksModel", "lays", "(III)V"⟩, 19), (⟨"FiveInksModel", "isAgainstOwn", "(I)Z"⟩, 19), (⟨"FiveInksModel", "get", "(II)I"⟩, 19)]
theorem lw_r2 : ∀ q ∈ lw_privs_2, lw_okq q := List.forall_mem_cons.mpr ⟨lw_p16, List.forall_mem_cons.mpr ⟨lw_p17, List.forall_mem_cons.mpr ⟨lw_p18, List.forall_mem_cons.mpr ⟨lw_p19, List.forall_mem_cons.mpr ⟨lw_p20, List.forall_mem_cons.mpr ⟨lw_p21, List.forall_mem_cons.mpr ⟨lw_p22, List.forall_mem_cons.mpr ⟨lw_p23, List.forall_mem_cons.mpr ⟨lw_p24, List.forall_mem_cons.mpr ⟨lw_p25, List.forall_mem_cons.mpr ⟨lw_p26, List.forall_mem_cons.mpr ⟨lw_p27, List.forall_mem_cons.mpr ⟨lw_p28, List.forall_mem_cons.mpr ⟨lw_p29, List.forall_mem_cons.mpr ⟨lw_p30, List.forall_mem_cons.mpr ⟨lw_p31, fun _ h => absurd h List.not_mem_nil⟩⟩⟩⟩⟩⟩⟩⟩⟩⟩⟩⟩⟩⟩⟩⟩
theorem lw_p32 : lw_okq (⟨"FiveInksModel", "clashes", "(II)Z"⟩, 19) := ⟨⟨by decide +kernel, by decide +kernel⟩, List.mem_of_getElem? (i := 713) (by decide +kernel), List.mem_of_getElem? (i := 843) (by decide +kernel), List.mem_of_getElem? (i := 844) (by decide +kernel)⟩
theorem lw_p33 : lw_okq (⟨"FiveInksModel", "clears", "(I)V"⟩, 19) := ⟨⟨by decide +kernel, by decide +kernel⟩, List.mem_of_getElem? (i := 713) (by decide +kernel), List.mem_of_getElem? (i := 847) (by decide +kernel), List.mem_of_getElem? (i := 848) (by decide +kernel)⟩
theorem lw_p34 : lw_okq (⟨"FiveInksModel", "laysMark", "(IIII)V"⟩, 19) := ⟨⟨by decide +kernel, by decide +kernel⟩, List.mem_of_getElem? (i := 713) (by decide +kernel), List.mem_of_getElem? (i := 855) (by decide +kernel), List.mem_of_getElem? (i := 856) (by decide +kernel)⟩
theorem lw_p35 : lw_okq (⟨"FiveInksModel", "isMark", "(I)Z"⟩, 19) := ⟨⟨by decide +kernel, by decide +kernel⟩, List.mem_of_getElem? (i := 713) (by decide +kernel), List.mem_of_getElem? (i := 863) (by decide +kernel), List.mem_of_getElem? (i := 864) (by decide +kernel)⟩
theorem lw_p36 : lw_okq (⟨"FiveInksModel", "canAccept", "(I)Z"⟩, 19) := ⟨⟨by decide +kernel, by decide +kernel⟩, List.mem_of_getElem? (i := 713) (by decide +kernel), List.mem_of_getElem? (i := 867) (by decide +kernel), List.mem_of_getElem? (i := 868) (by decide +kernel)⟩
theorem lw_p37 : lw_okq (⟨"FiveInksModel", "clashing", "(II)I"⟩, 19) := ⟨⟨by decide +kernel, by decide +kernel⟩, List.mem_of_getElem? (i := 713) (by decide +kernel), List.mem_of_getElem? (i := 871) (by decide +kernel), List.mem_of_getElem? (i := 872) (by decide +kernel)⟩
theorem lw_p38 : lw_okq (⟨"FiveInksModel", "printMany", "()I"⟩, 19) := ⟨⟨by decide +kernel, by decide +kernel⟩, List.mem_of_getElem? (i := 713) (by decide +kernel), List.mem_of_getElem? (i := 875) (by decide +kernel), List.mem_of_getElem? (i := 876) (by decide +kernel)⟩
theorem lw_p39 : lw_okq (⟨"FiveInksModel", "longer", "(I)I"⟩, 19) := ⟨⟨by decide +kernel, by decide +kernel⟩, List.mem_of_getElem? (i := 713) (by decide +kernel), List.mem_of_getElem? (i := 879) (by decide +kernel), List.mem_of_getElem? (i := 880) (by decide +kernel)⟩
theorem lw_p40 : lw_okq (⟨"FiveInksModel", "accepts", "(I)I"⟩, 19) := ⟨⟨by decide +kernel, by decide +kernel⟩, List.mem_of_getElem? (i := 713) (by decide +kernel), List.mem_of_getElem? (i := 883) (by decide +kernel), List.mem_of_getElem? (i := 884) (by decide +kernel)⟩
theorem lw_p41 : lw_okq (⟨"FiveInksModel", "withHow", "(I)I"⟩, 19) := ⟨⟨by decide +kernel, by decide +kernel⟩, List.mem_of_getElem? (i := 713) (by decide +kernel), List.mem_of_getElem? (i := 891) (by decide +kernel), List.mem_of_getElem? (i := 892) (by decide +kernel)⟩
theorem lw_p42 : lw_okq (⟨"FiveInksModel", "drops", "(I)V"⟩, 19) := ⟨⟨by decide +kernel, by decide +kernel⟩, List.mem_of_getElem? (i := 713) (by decide +kernel), List.mem_of_getElem? (i := 899) (by decide +kernel), List.mem_of_getElem? (i := 900) (by decide +kernel)⟩
theorem lw_p43 : lw_okq (⟨"FiveInksModel", "judges", "()I"⟩, 19) := ⟨⟨by decide +kernel, by decide +kernel⟩, List.mem_of_getElem? (i := 713) (by decide +kernel), List.mem_of_getElem? (i := 907) (by decide +kernel), List.mem_of_getElem? (i := 908) (by decide +kernel)⟩
theorem lw_p44 : lw_okq (⟨"FiveInksModel", "nextOpen", "()I"⟩, 19) := ⟨⟨by decide +kernel, by decide +kernel⟩, List.mem_of_getElem? (i := 713) (by decide +kernel), List.mem_of_getElem? (i := 911) (by decide +kernel), List.mem_of_getElem? (i := 912) (by decide +kernel)⟩
theorem lw_p45 : lw_okq (⟨"FiveInksModel", "prints", "()V"⟩, 19) := ⟨⟨by decide +kernel, by decide +kernel⟩, List.mem_of_getElem? (i := 713) (by decide +kernel), List.mem_of_getElem? (i := 919) (by decide +kernel), List.mem_of_getElem? (i := 920) (by decide +kernel)⟩
theorem lw_p46 : lw_okq (⟨"FiveInksModel", "carriesOut", "()V"⟩, 19) := ⟨⟨by decide +kernel, by decide +kernel⟩, List.mem_of_getElem? (i := 713) (by decide +kernel), List.mem_of_getElem? (i := 923) (by decide +kernel), List.mem_of_getElem? (i := 924) (by decide +kernel)⟩
theorem lw_p47 : lw_okq (⟨"FiveInksModel", "writesMarks", "(II)V"⟩, 19) := ⟨⟨by decide +kernel, by decide +kernel⟩, List.mem_of_getElem? (i := 713) (by decide +kernel), List.mem_of_getElem? (i := 927) (by decide +kernel), List.mem_of_getElem? (i := 928) (by decide +kernel)⟩
def lw_privs_3 : List (MethodName × Nat) := [(⟨"FiveInksModel", "clashes", "(II)Z"⟩, 19), (⟨"FiveInksModel", "clears", "(I)V"⟩, 19), (⟨"FiveInksModel", "laysMark", "(IIII)V"⟩, 19), (⟨"FiveInksModel", "isMark", "(I)Z"⟩, 19), (⟨"FiveInksModel", "canAccept", "(I)Z"⟩, 19), (⟨"FiveInksModel", "clashing", "(II)I"⟩, 19), (⟨"FiveInksModel", "printMany", "()I"⟩, 19), (⟨"FiveInksModel", "longer", "(I)I"⟩, 19), (⟨"FiveInksModel", "accepts", "(I)I"⟩, 19), (⟨"FiveInksModel", "withHow", "(I)I"⟩, 19), (⟨"FiveInksModel", "drops", "(I)V"⟩, 19), (⟨"FiveInksModel", "judges", "()I"⟩, 19), (⟨"FiveInksModel", "nextOpen", "()I"⟩, 19), (⟨"FiveInksModel", "prints", "()V"⟩, 19), (⟨"FiveInksModel", "carriesOut", "()V"⟩, 19), (⟨"FiveInksModel", "writesMarks", "(II)V"⟩, 19)]
theorem lw_r3 : ∀ q ∈ lw_privs_3, lw_okq q := List.forall_mem_cons.mpr ⟨lw_p32, List.forall_mem_cons.mpr ⟨lw_p33, List.forall_mem_cons.mpr ⟨lw_p34, List.forall_mem_cons.mpr ⟨lw_p35, List.forall_mem_cons.mpr ⟨lw_p36, List.forall_mem_cons.mpr ⟨lw_p37, List.forall_mem_cons.mpr ⟨lw_p38, List.forall_mem_cons.mpr ⟨lw_p39, List.forall_mem_cons.mpr ⟨lw_p40, List.forall_mem_cons.mpr ⟨lw_p41, List.forall_mem_cons.mpr ⟨lw_p42, List.forall_mem_cons.mpr ⟨lw_p43, List.forall_mem_cons.mpr ⟨lw_p44, List.forall_mem_cons.mpr ⟨lw_p45, List.forall_mem_cons.mpr ⟨lw_p46, List.forall_mem_cons.mpr ⟨lw_p47, fun _ h => absurd h List.not_mem_nil⟩⟩⟩⟩⟩⟩⟩⟩⟩⟩⟩⟩⟩⟩⟩⟩
theorem lw_p48 : lw_okq (⟨"FiveInksModel", "writes", "(I)V"⟩, 19) := ⟨⟨by decide +kernel, by decide +kernel⟩, List.mem_of_getElem? (i := 713) (by decide +kernel), List.mem_of_getElem? (i := 931) (by decide +kernel), List.mem_of_getElem? (i := 932) (by decide +kernel)⟩
theorem lw_p49 : lw_okq (⟨"FiveInksModel", "isLeftOut", "(I)Z"⟩, 19) := ⟨⟨by decide +kernel, by decide +kernel⟩, List.mem_of_getElem? (i := 713) (by decide +kernel), List.mem_of_getElem? (i := 935) (by decide +kernel), List.mem_of_getElem? (i := 936) (by decide +kernel)⟩
theorem lw_p50 : lw_okq (⟨"FiveInksModel", "carriesOver", "()V"⟩, 19) := ⟨⟨by decide +kernel, by decide +kernel⟩, List.mem_of_getElem? (i := 713) (by decide +kernel), List.mem_of_getElem? (i := 939) (by decide +kernel), List.mem_of_getElem? (i := 940) (by decide +kernel)⟩
theorem lw_p51 : lw_okq (⟨"FiveInksModel", "carried", "(IZ)I"⟩, 19) := ⟨⟨by decide +kernel, by decide +kernel⟩, List.mem_of_getElem? (i := 713) (by decide +kernel), List.mem_of_getElem? (i := 943) (by decide +kernel), List.mem_of_getElem? (i := 944) (by decide +kernel)⟩
theorem lw_p52 : lw_okq (⟨"FiveInksModel", "shows", "(I)V"⟩, 19) := ⟨⟨by decide +kernel, by decide +kernel⟩, List.mem_of_getElem? (i := 713) (by decide +kernel), List.mem_of_getElem? (i := 955) (by decide +kernel), List.mem_of_getElem? (i := 956) (by decide +kernel)⟩
theorem lw_p53 : lw_okq (⟨"FiveInksModel", "clashesWithOpen", "(II)Z"⟩, 19) := ⟨⟨by decide +kernel, by decide +kernel⟩, List.mem_of_getElem? (i := 713) (by decide +kernel), List.mem_of_getElem? (i := 959) (by decide +kernel), List.mem_of_getElem? (i := 960) (by decide +kernel)⟩
theorem lw_p54 : lw_okq (⟨"FiveInksModel", "quarrelsOf", "(I)I"⟩, 19) := ⟨⟨by decide +kernel, by decide +kernel⟩, List.mem_of_getElem? (i := 713) (by decide +kernel), List.mem_of_getElem? (i := 967) (by decide +kernel), List.mem_of_getElem? (i := 968) (by decide +kernel)⟩
theorem lw_p55 : lw_okq (⟨"FiveInksModel", "quarrels", "(II)Z"⟩, 19) := ⟨⟨by decide +kernel, by decide +kernel⟩, List.mem_of_getElem? (i := 713) (by decide +kernel), List.mem_of_getElem? (i := 971) (by decide +kernel), List.mem_of_getElem? (i := 972) (by decide +kernel)⟩
theorem lw_p56 : lw_okq (⟨"FiveInksModel", "overMarks", "(II)I"⟩, 19) := ⟨⟨by decide +kernel, by decide +kernel⟩, List.mem_of_getElem? (i := 713) (by decide +kernel), List.mem_of_getElem? (i := 983) (by decide +kernel), List.mem_of_getElem? (i := 984) (by decide +kernel)⟩
theorem lw_p57 : lw_okq (⟨"FiveInksModel", "allQuarrels", "()I"⟩, 19) := ⟨⟨by decide +kernel, by decide +kernel⟩, List.mem_of_getElem? (i := 713) (by decide +kernel), List.mem_of_getElem? (i := 991) (by decide +kernel), List.mem_of_getElem? (i := 992) (by decide +kernel)⟩
theorem lw_p58 : lw_okq (⟨"FiveInksModel", "isVersion", "(I)Z"⟩, 19) := ⟨⟨by decide +kernel, by decide +kernel⟩, List.mem_of_getElem? (i := 713) (by decide +kernel), List.mem_of_getElem? (i := 999) (by decide +kernel), List.mem_of_getElem? (i := 1000) (by decide +kernel)⟩
theorem lw_p59 : lw_okq (⟨"FiveInksModel", "distance", "(II)I"⟩, 19) := ⟨⟨by decide +kernel, by decide +kernel⟩, List.mem_of_getElem? (i := 713) (by decide +kernel), List.mem_of_getElem? (i := 1007) (by decide +kernel), List.mem_of_getElem? (i := 1008) (by decide +kernel)⟩
theorem lw_p60 : lw_okq (⟨"FiveInksModel", "putAside", "()V"⟩, 19) := ⟨⟨by decide +kernel, by decide +kernel⟩, List.mem_of_getElem? (i := 713) (by decide +kernel), List.mem_of_getElem? (i := 1019) (by decide +kernel), List.mem_of_getElem? (i := 1020) (by decide +kernel)⟩
theorem lw_p61 : lw_okq (⟨"FiveInksModel", "takeBack", "()V"⟩, 19) := ⟨⟨by decide +kernel, by decide +kernel⟩, List.mem_of_getElem? (i := 713) (by decide +kernel), List.mem_of_getElem? (i := 1023) (by decide +kernel), List.mem_of_getElem? (i := 1024) (by decide +kernel)⟩
def lw_privs_4 : List (MethodName × Nat) := [(⟨"FiveInksModel", "writes", "(I)V"⟩, 19), (⟨"FiveInksModel", "isLeftOut", "(I)Z"⟩, 19), (⟨"FiveInksModel", "carriesOver", "()V"⟩, 19), (⟨"FiveInksModel", "carried", "(IZ)I"⟩, 19), (⟨"FiveInksModel", "shows", "(I)V"⟩, 19), (⟨"FiveInksModel", "clashesWithOpen", "(II)Z"⟩, 19), (⟨"FiveInksModel", "quarrelsOf", "(I)I"⟩, 19), (⟨"FiveInksModel", "quarrels", "(II)Z"⟩, 19), (⟨"FiveInksModel", "overMarks", "(II)I"⟩, 19), (⟨"FiveInksModel", "allQuarrels", "()I"⟩, 19), (⟨"FiveInksModel", "isVersion", "(I)Z"⟩, 19), (⟨"FiveInksModel", "distance", "(II)I"⟩, 19), (⟨"FiveInksModel", "putAside", "()V"⟩, 19), (⟨"FiveInksModel", "takeBack", "()V"⟩, 19)]
theorem lw_r4 : ∀ q ∈ lw_privs_4, lw_okq q := List.forall_mem_cons.mpr ⟨lw_p48, List.forall_mem_cons.mpr ⟨lw_p49, List.forall_mem_cons.mpr ⟨lw_p50, List.forall_mem_cons.mpr ⟨lw_p51, List.forall_mem_cons.mpr ⟨lw_p52, List.forall_mem_cons.mpr ⟨lw_p53, List.forall_mem_cons.mpr ⟨lw_p54, List.forall_mem_cons.mpr ⟨lw_p55, List.forall_mem_cons.mpr ⟨lw_p56, List.forall_mem_cons.mpr ⟨lw_p57, List.forall_mem_cons.mpr ⟨lw_p58, List.forall_mem_cons.mpr ⟨lw_p59, List.forall_mem_cons.mpr ⟨lw_p60, List.forall_mem_cons.mpr ⟨lw_p61, fun _ h => absurd h List.not_mem_nil⟩⟩⟩⟩⟩⟩⟩⟩⟩⟩⟩⟩⟩⟩
def lw_privs : List (MethodName × Nat) := lw_privs_1 ++ (lw_privs_2 ++ (lw_privs_3 ++ (lw_privs_4)))
def lw_tbl : List Cond := k2_sels lw_privs ++ tables_1
theorem lw_privs_ok : ∀ q ∈ lw_privs, lw_okq q := by
  show ∀ q ∈ lw_privs_1 ++ (lw_privs_2 ++ (lw_privs_3 ++ (lw_privs_4))), lw_okq q
  exact List.forall_mem_append.mpr ⟨lw_r1, List.forall_mem_append.mpr ⟨lw_r2, List.forall_mem_append.mpr ⟨lw_r3, lw_r4⟩⟩⟩
theorem lw_at {w : Cond} (i : Nat) (h : lw_tbl[i]? = some w) : w ∈ lw_tbl := List.mem_of_getElem? h
def RX0 : String := "FiveInks$History"
def TX0 : u_T := fun k => match k with
  | 0 => ("FiveInks$History", "sheets", "[LFiveInks$Sheet;", true)
  | 1 => ("FiveInks$History", "next", "I", false)
  | _ => ("FiveInks$History", "length", "I", false)
def tyX0 : Nat → FieldType := fun k => match k with
  | 0 => .array (.object "FiveInks$Sheet")
  | 1 => .int
  | _ => .int
theorem nmX0 : ∀ a, a < 3 → ∀ b, b < 3 → a ≠ b → (TX0 a).2.1 ≠ (TX0 b).2.1 := by decide +kernel
theorem tyX0_ok : ∀ k, k < 3 → parseFieldDescriptor (TX0 k).2.2.1 = some (tyX0 k) := by decide +kernel
def RX1 : String := "FiveInks$Marks"
def TX1 : u_T := fun k => match k with
  | 0 => ("FiveInks$Marks", "ink", "[I", true)
  | 1 => ("FiveInks$Marks", "kind", "[I", true)
  | 2 => ("FiveInks$Marks", "a", "[I", true)
  | 3 => ("FiveInks$Marks", "b", "[I", true)
  | 4 => ("FiveInks$Marks", "state", "[I", true)
  | 5 => ("FiveInks$Marks", "putIn", "[I", true)
  | 6 => ("FiveInks$Marks", "letters", "[I", true)
  | _ => ("FiveInks$Marks", "size", "I", false)
def tyX1 : Nat → FieldType := fun k => match k with
  | 0 => .array .int
  | 1 => .array .int
  | 2 => .array .int
  | 3 => .array .int
  | 4 => .array .int
  | 5 => .array .int
  | 6 => .array .int
  | _ => .int
theorem nmX1 : ∀ a, a < 8 → ∀ b, b < 8 → a ≠ b → (TX1 a).2.1 ≠ (TX1 b).2.1 := by decide +kernel
theorem tyX1_ok : ∀ k, k < 8 → parseFieldDescriptor (TX1 k).2.2.1 = some (tyX1 k) := by decide +kernel
def RX2 : String := "FiveInks$Pad"
def TX2 : u_T := fun k => match k with
  | 0 => ("FiveInks$Pad", "codes", "[I", true)
  | _ => ("FiveInks$Pad", "length", "I", false)
def tyX2 : Nat → FieldType := fun k => match k with
  | 0 => .array .int
  | _ => .int
theorem nmX2 : ∀ a, a < 2 → ∀ b, b < 2 → a ≠ b → (TX2 a).2.1 ≠ (TX2 b).2.1 := by decide +kernel
theorem tyX2_ok : ∀ k, k < 2 → parseFieldDescriptor (TX2 k).2.2.1 = some (tyX2 k) := by decide +kernel
def RX3 : String := "FiveInks$Reader"
def TX3 : u_T := fun k => match k with
  | 0 => ("FiveInks$Reader", "drafts", "LFiveInks$Marks;", true)
  | _ => ("FiveInks$Reader", "place", "I", false)
def tyX3 : Nat → FieldType := fun k => match k with
  | 0 => .object "FiveInks$Marks"
  | _ => .int
theorem nmX3 : ∀ a, a < 2 → ∀ b, b < 2 → a ≠ b → (TX3 a).2.1 ≠ (TX3 b).2.1 := by decide +kernel
theorem tyX3_ok : ∀ k, k < 2 → parseFieldDescriptor (TX3 k).2.2.1 = some (tyX3 k) := by decide +kernel
def RX4 : String := "FiveInks$Sheet"
def TX4 : u_T := fun k => match k with
  | 0 => ("FiveInks$Sheet", "text", "LFiveInks$Text;", true)
  | 1 => ("FiveInks$Sheet", "marks", "LFiveInks$Marks;", true)
  | 2 => ("FiveInks$Sheet", "versions", "LFiveInks$Versions;", true)
  | _ => ("FiveInks$Sheet", "ranks", "[I", true)
def tyX4 : Nat → FieldType := fun k => match k with
  | 0 => .object "FiveInks$Text"
  | 1 => .object "FiveInks$Marks"
  | 2 => .object "FiveInks$Versions"
  | _ => .array .int
theorem nmX4 : ∀ a, a < 4 → ∀ b, b < 4 → a ≠ b → (TX4 a).2.1 ≠ (TX4 b).2.1 := by decide +kernel
theorem tyX4_ok : ∀ k, k < 4 → parseFieldDescriptor (TX4 k).2.2.1 = some (tyX4 k) := by decide +kernel
def RX5 : String := "FiveInks$Slots"
def TX5 : u_T := fun k => match k with
  | 0 => ("FiveInks$Slots", "sheets", "[LFiveInks$Sheet;", true)
  | _ => ("FiveInks$Slots", "saved", "[Z", true)
def tyX5 : Nat → FieldType := fun k => match k with
  | 0 => .array (.object "FiveInks$Sheet")
  | _ => .array .boolean
theorem nmX5 : ∀ a, a < 2 → ∀ b, b < 2 → a ≠ b → (TX5 a).2.1 ≠ (TX5 b).2.1 := by decide +kernel
theorem tyX5_ok : ∀ k, k < 2 → parseFieldDescriptor (TX5 k).2.2.1 = some (tyX5 k) := by decide +kernel
def RX6 : String := "FiveInks$Text"
def TX6 : u_T := fun k => match k with
  | 0 => ("FiveInks$Text", "letters", "[I", true)
  | _ => ("FiveInks$Text", "length", "I", false)
def tyX6 : Nat → FieldType := fun k => match k with
  | 0 => .array .int
  | _ => .int
theorem nmX6 : ∀ a, a < 2 → ∀ b, b < 2 → a ≠ b → (TX6 a).2.1 ≠ (TX6 b).2.1 := by decide +kernel
theorem tyX6_ok : ∀ k, k < 2 → parseFieldDescriptor (TX6 k).2.2.1 = some (tyX6 k) := by decide +kernel
def RX7 : String := "FiveInks$Versions"
def TX7 : u_T := fun k => match k with
  | 0 => ("FiveInks$Versions", "letters", "[I", true)
  | 1 => ("FiveInks$Versions", "lengths", "[I", true)
  | _ => ("FiveInks$Versions", "shipped", "I", false)
def tyX7 : Nat → FieldType := fun k => match k with
  | 0 => .array .int
  | 1 => .array .int
  | _ => .int
theorem nmX7 : ∀ a, a < 3 → ∀ b, b < 3 → a ≠ b → (TX7 a).2.1 ≠ (TX7 b).2.1 := by decide +kernel
theorem tyX7_ok : ∀ k, k < 3 → parseFieldDescriptor (TX7 k).2.2.1 = some (tyX7 k) := by decide +kernel
def RX8 : String := "FiveInks$View"
def TX8 : u_T := fun k => match k with
  | 0 => ("FiveInks$View", "chosen", "[Z", true)
  | 1 => ("FiveInks$View", "putInAt", "[I", true)
  | 2 => ("FiveInks$View", "coverFrom", "[I", true)
  | 3 => ("FiveInks$View", "letters", "[I", true)
  | _ => ("FiveInks$View", "length", "I", false)
def tyX8 : Nat → FieldType := fun k => match k with
  | 0 => .array .boolean
  | 1 => .array .int
  | 2 => .array .int
  | 3 => .array .int
  | _ => .int
theorem nmX8 : ∀ a, a < 5 → ∀ b, b < 5 → a ≠ b → (TX8 a).2.1 ≠ (TX8 b).2.1 := by decide +kernel
theorem tyX8_ok : ∀ k, k < 5 → parseFieldDescriptor (TX8 k).2.2.1 = some (tyX8 k) := by decide +kernel
def RX9 : String := "FiveInks"
def TX9 : u_T := fun k => match k with
  | 0 => ("FiveInks", "now", "LFiveInks$Sheet;", true)
  | 1 => ("FiveInks", "history", "LFiveInks$History;", true)
  | 2 => ("FiveInks", "slots", "LFiveInks$Slots;", true)
  | 3 => ("FiveInks", "pad", "LFiveInks$Pad;", true)
  | 4 => ("FiveInks", "reader", "LFiveInks$Reader;", true)
  | 5 => ("FiveInks", "view", "LFiveInks$View;", true)
  | 6 => ("FiveInks", "statesBefore", "[I", true)
  | _ => ("FiveInks", "distances", "[I", true)
def tyX9 : Nat → FieldType := fun k => match k with
  | 0 => .object "FiveInks$Sheet"
  | 1 => .object "FiveInks$History"
  | 2 => .object "FiveInks$Slots"
  | 3 => .object "FiveInks$Pad"
  | 4 => .object "FiveInks$Reader"
  | 5 => .object "FiveInks$View"
  | 6 => .array .int
  | _ => .array .int
theorem nmX9 : ∀ a, a < 8 → ∀ b, b < 8 → a ≠ b → (TX9 a).2.1 ≠ (TX9 b).2.1 := by decide +kernel
theorem tyX9_ok : ∀ k, k < 8 → parseFieldDescriptor (TX9 k).2.2.1 = some (tyX9 k) := by decide +kernel
def RX10 : String := "FiveInksModel"
def TX10 : u_T := fun k => match k with
  | 0 => ("FiveInksModel", "thrown", "I", false)
  | 1 => ("FiveInksModel", "s", "[I", true)
  | 2 => ("FiveInksModel", "aside", "[I", true)
  | 3 => ("FiveInksModel", "undos", "[I", true)
  | 4 => ("FiveInksModel", "undoMany", "I", false)
  | 5 => ("FiveInksModel", "slots", "[I", true)
  | 6 => ("FiveInksModel", "hasSlot", "[Z", true)
  | 7 => ("FiveInksModel", "pad", "[I", true)
  | 8 => ("FiveInksModel", "length", "I", false)
  | 9 => ("FiveInksModel", "isUsed", "[Z", true)
  | 10 => ("FiveInksModel", "out", "[I", true)
  | 11 => ("FiveInksModel", "outMany", "I", false)
  | 12 => ("FiveInksModel", "goes", "[Z", true)
  | 13 => ("FiveInksModel", "above", "[I", true)
  | 14 => ("FiveInksModel", "row", "[I", true)
  | 15 => ("FiveInksModel", "at", "I", false)
  | 16 => ("FiveInksModel", "isWell", "Z", false)
  | 17 => ("FiveInksModel", "read", "[I", true)
  | _ => ("FiveInksModel", "readMany", "I", false)
def tyX10 : Nat → FieldType := fun k => match k with
  | 0 => .int
  | 1 => .array .int
  | 2 => .array .int
  | 3 => .array .int
  | 4 => .int
  | 5 => .array .int
  | 6 => .array .boolean
  | 7 => .array .int
  | 8 => .int
  | 9 => .array .boolean
  | 10 => .array .int
  | 11 => .int
  | 12 => .array .boolean
  | 13 => .array .int
  | 14 => .array .int
  | 15 => .int
  | 16 => .boolean
  | 17 => .array .int
  | _ => .int
theorem nmX10 : ∀ a, a < 19 → ∀ b, b < 19 → a ≠ b → (TX10 a).2.1 ≠ (TX10 b).2.1 := by decide +kernel
theorem tyX10_ok : ∀ k, k < 19 → parseFieldDescriptor (TX10 k).2.2.1 = some (tyX10 k) := by decide +kernel
abbrev zcl : List vw_C := [(RX0, TX0, 3), (RX1, TX1, 8), (RX2, TX2, 2), (RX3, TX3, 2), (RX4, TX4, 4), (RX5, TX5, 2), (RX6, TX6, 2), (RX7, TX7, 3), (RX8, TX8, 5), (RX9, TX9, 8), (RX10, TX10, 19)]
/-- what a field holds: 0 an int, 1 a boolean, 2 a reference -/
def zFkL : List (List Nat) := [[2, 0, 0], [2, 2, 2, 2, 2, 2, 2, 0], [2, 0], [2, 0], [2, 2, 2, 2], [2, 2], [2, 0], [2, 2, 0], [2, 2, 2, 2, 0], [2, 2, 2, 2, 2, 2, 2, 2], [0, 2, 2, 2, 0, 2, 2, 2, 0, 2, 2, 0, 2, 2, 2, 0, 1, 2, 0]]
def zFk (c k : Nat) : Nat := (zFkL.getD c []).getD k 0
def zNf (c : Nat) : Nat := (zFkL.getD c []).length
def zy0 : MethodName := ⟨"FiveInks$History", "<init>", "()V"⟩
def zy1 : MethodName := ⟨"FiveInks$History", "record", "(LFiveInks$Sheet;)V"⟩
def zy2 : MethodName := ⟨"FiveInks$History", "takeBack", "(LFiveInks$Sheet;)V"⟩
def zy3 : MethodName := ⟨"FiveInks$Marks", "<init>", "()V"⟩
def zy4 : MethodName := ⟨"FiveInks$Marks", "clear", "()V"⟩
def zy5 : MethodName := ⟨"FiveInks$Marks", "has", "(I)Z"⟩
def zy6 : MethodName := ⟨"FiveInks$Marks", "add", "(IIII)V"⟩
def zy7 : MethodName := ⟨"FiveInks$Marks", "addLetterToLast", "(I)V"⟩
def zy8 : MethodName := ⟨"FiveInks$Marks", "take", "(LFiveInks$Marks;I)V"⟩
def zy9 : MethodName := ⟨"FiveInks$Marks", "remove", "(I)V"⟩
def zy10 : MethodName := ⟨"FiveInks$Marks", "copyRow", "(LFiveInks$Marks;II)V"⟩
def zy11 : MethodName := ⟨"FiveInks$Marks", "takeOver", "(LFiveInks$Marks;)V"⟩
def zy12 : MethodName := ⟨"FiveInks$Marks", "clashing", "(II)Z"⟩
def zy13 : MethodName := ⟨"FiveInks$Marks", "clashingWith", "(ILFiveInks$Marks;I)Z"⟩
def zy14 : MethodName := ⟨"FiveInks$Marks", "quarrelling", "(II)Z"⟩
def zy15 : MethodName := ⟨"FiveInks$Marks", "hasClashInOwnInk", "(LFiveInks$Marks;I)Z"⟩
def zy16 : MethodName := ⟨"FiveInks$Marks", "clashesWithAny", "(II)Z"⟩
def zy17 : MethodName := ⟨"FiveInks$Marks", "clashesWithOpenOf", "(II)Z"⟩
def zy18 : MethodName := ⟨"FiveInks$Marks", "openClashesOf", "(I)I"⟩
def zy19 : MethodName := ⟨"FiveInks$Marks", "acceptOpen", "(I)I"⟩
def zy20 : MethodName := ⟨"FiveInks$Marks", "growthBy", "(I)I"⟩
def zy21 : MethodName := ⟨"FiveInks$Marks", "growthByAccepted", "()I"⟩
def zy22 : MethodName := ⟨"FiveInks$Marks", "quarrelsOf", "(I)I"⟩
def zy23 : MethodName := ⟨"FiveInks$Marks", "quarrelsOfInk", "(I)I"⟩
def zy24 : MethodName := ⟨"FiveInks$Marks", "quarrels", "()I"⟩
def zy25 : MethodName := ⟨"FiveInks$Marks", "inState", "(I)I"⟩
def zy26 : MethodName := ⟨"FiveInks$Marks", "inInk", "(I)I"⟩
def zy27 : MethodName := ⟨"FiveInks$Marks", "inInkAndState", "(II)I"⟩
def zy28 : MethodName := ⟨"FiveInks$Marks", "refusedSince", "([II)I"⟩
def zy29 : MethodName := ⟨"FiveInks$Marks", "carryOver", "()V"⟩
def zy30 : MethodName := ⟨"FiveInks$Marks", "carryGaps", "(I)V"⟩
def zy31 : MethodName := ⟨"FiveInks$Marks", "isPutInTwice", "(II)Z"⟩
def zy32 : MethodName := ⟨"FiveInks$Marks", "printedAhead", "(I)I"⟩
def zy33 : MethodName := ⟨"FiveInks$Marks", "printedAt", "(I)I"⟩
def zy34 : MethodName := ⟨"FiveInks$Pad", "<init>", "()V"⟩
def zy35 : MethodName := ⟨"FiveInks$Pad", "clear", "()V"⟩
def zy36 : MethodName := ⟨"FiveInks$Pad", "at", "(I)I"⟩
def zy37 : MethodName := ⟨"FiveInks$Pad", "hasLetterAt", "(I)Z"⟩
def zy38 : MethodName := ⟨"FiveInks$Pad", "hasOnlyLetters", "()Z"⟩
def zy39 : MethodName := ⟨"FiveInks$Pad", "charactersIn", "(J)I"⟩
def zy40 : MethodName := ⟨"FiveInks$Pad", "append", "(JI)V"⟩
def zy41 : MethodName := ⟨"FiveInks$Reader", "<init>", "()V"⟩
def zy42 : MethodName := ⟨"FiveInks$Reader", "read", "(LFiveInks$Pad;)I"⟩
def zy43 : MethodName := ⟨"FiveInks$Reader", "readMark", "(LFiveInks$Pad;)Z"⟩
def zy44 : MethodName := ⟨"FiveInks$Reader", "readSign", "(LFiveInks$Pad;C)Z"⟩
def zy45 : MethodName := ⟨"FiveInks$Reader", "readGaps", "(LFiveInks$Pad;II)Z"⟩
def zy46 : MethodName := ⟨"FiveInks$Reader", "readOneGap", "(LFiveInks$Pad;I)Z"⟩
def zy47 : MethodName := ⟨"FiveInks$Reader", "readGap", "(LFiveInks$Pad;)I"⟩
def zy48 : MethodName := ⟨"FiveInks$Reader", "readLetters", "(LFiveInks$Pad;)Z"⟩
def zy49 : MethodName := ⟨"FiveInks$Reader", "digitHere", "(LFiveInks$Pad;)I"⟩
def zy50 : MethodName := ⟨"FiveInks$Sheet", "<init>", "()V"⟩
def zy51 : MethodName := ⟨"FiveInks$Sheet", "takeOver", "(LFiveInks$Sheet;)V"⟩
def zy52 : MethodName := ⟨"FiveInks$Sheet", "startWith", "(LFiveInks$Pad;)V"⟩
def zy53 : MethodName := ⟨"FiveInks$Sheet", "hasGap", "(I)Z"⟩
def zy54 : MethodName := ⟨"FiveInks$Sheet", "canTake", "(LFiveInks$Marks;I)Z"⟩
def zy55 : MethodName := ⟨"FiveInks$Sheet", "printLength", "()I"⟩
def zy56 : MethodName := ⟨"FiveInks$Sheet", "printLengthWithout", "(I)I"⟩
def zy57 : MethodName := ⟨"FiveInks$Sheet", "canAccept", "(I)Z"⟩
def zy58 : MethodName := ⟨"FiveInks$Sheet", "judgeByRank", "()I"⟩
def zy59 : MethodName := ⟨"FiveInks$Sheet", "isAcceptedByVerdict", "(I)Z"⟩
def zy60 : MethodName := ⟨"FiveInks$Sheet", "shipAs", "(LFiveInks$View;)V"⟩
def zy61 : MethodName := ⟨"FiveInks$Slots", "<init>", "()V"⟩
def zy62 : MethodName := ⟨"FiveInks$Slots", "isSlot", "(I)Z"⟩
def zy63 : MethodName := ⟨"FiveInks$Slots", "keep", "(ILFiveInks$Sheet;)V"⟩
def zy64 : MethodName := ⟨"FiveInks$Text", "<init>", "()V"⟩
def zy65 : MethodName := ⟨"FiveInks$Text", "clear", "()V"⟩
def zy66 : MethodName := ⟨"FiveInks$Text", "add", "(I)V"⟩
def zy67 : MethodName := ⟨"FiveInks$Text", "at", "(I)I"⟩
def zy68 : MethodName := ⟨"FiveInks$Text", "takeOver", "(LFiveInks$Text;)V"⟩
def zy69 : MethodName := ⟨"FiveInks$Versions", "<init>", "()V"⟩
def zy70 : MethodName := ⟨"FiveInks$Versions", "clear", "()V"⟩
def zy71 : MethodName := ⟨"FiveInks$Versions", "kept", "()I"⟩
def zy72 : MethodName := ⟨"FiveInks$Versions", "has", "(I)Z"⟩
def zy73 : MethodName := ⟨"FiveInks$Versions", "add", "(LFiveInks$Text;)V"⟩
def zy74 : MethodName := ⟨"FiveInks$Versions", "lengthOf", "(I)I"⟩
def zy75 : MethodName := ⟨"FiveInks$Versions", "at", "(II)I"⟩
def zy76 : MethodName := ⟨"FiveInks$Versions", "rowOf", "(I)I"⟩
def zy77 : MethodName := ⟨"FiveInks$Versions", "distance", "(II[I)I"⟩
def zy78 : MethodName := ⟨"FiveInks$Versions", "takeOver", "(LFiveInks$Versions;)V"⟩
def zy79 : MethodName := ⟨"FiveInks$View", "<init>", "()V"⟩
def zy80 : MethodName := ⟨"FiveInks$View", "at", "(I)I"⟩
def zy81 : MethodName := ⟨"FiveInks$View", "showPrint", "(LFiveInks$Sheet;)V"⟩
def zy82 : MethodName := ⟨"FiveInks$View", "showSeenBy", "(ILFiveInks$Sheet;)V"⟩
def zy83 : MethodName := ⟨"FiveInks$View", "carryOut", "(LFiveInks$Sheet;)V"⟩
def zy84 : MethodName := ⟨"FiveInks$View", "placeChosen", "(LFiveInks$Marks;I)V"⟩
def zy85 : MethodName := ⟨"FiveInks$View", "addLettersOf", "(LFiveInks$Marks;I)V"⟩
def zy86 : MethodName := ⟨"FiveInks$View", "add", "(I)V"⟩
def zy87 : MethodName := ⟨"FiveInks", "<init>", "()V"⟩
def zy88 : MethodName := ⟨"FiveInks", "begin", "()I"⟩
def zy89 : MethodName := ⟨"FiveInks", "rank", "(II)I"⟩
def zy90 : MethodName := ⟨"FiveInks", "mark", "()I"⟩
def zy91 : MethodName := ⟨"FiveInks", "strike", "(III)I"⟩
def zy92 : MethodName := ⟨"FiveInks", "accept", "(I)I"⟩
def zy93 : MethodName := ⟨"FiveInks", "refuse", "(I)I"⟩
def zy94 : MethodName := ⟨"FiveInks", "wash", "(I)I"⟩
def zy95 : MethodName := ⟨"FiveInks", "judge", "()I"⟩
def zy96 : MethodName := ⟨"FiveInks", "ship", "()I"⟩
def zy97 : MethodName := ⟨"FiveInks", "letter", "(II)I"⟩
def zy98 : MethodName := ⟨"FiveInks", "seen", "(II)I"⟩
def zy99 : MethodName := ⟨"FiveInks", "of", "(II)I"⟩
def zy100 : MethodName := ⟨"FiveInks", "clash", "(II)I"⟩
def zy101 : MethodName := ⟨"FiveInks", "editor", "(II)I"⟩
def zy102 : MethodName := ⟨"FiveInks", "count", "(I)I"⟩
def zy103 : MethodName := ⟨"FiveInks", "version", "(II)I"⟩
def zy104 : MethodName := ⟨"FiveInks", "apart", "(II)I"⟩
def zy105 : MethodName := ⟨"FiveInks", "ifAccepted", "(II)I"⟩
def zy106 : MethodName := ⟨"FiveInks", "ifJudged", "(I)I"⟩
def zy107 : MethodName := ⟨"FiveInks", "put", "(J)I"⟩
def zy108 : MethodName := ⟨"FiveInks", "wipe", "()I"⟩
def zy109 : MethodName := ⟨"FiveInks", "fault", "()I"⟩
def zy110 : MethodName := ⟨"FiveInks", "undo", "()I"⟩
def zy111 : MethodName := ⟨"FiveInks", "save", "(I)I"⟩
def zy112 : MethodName := ⟨"FiveInks", "restore", "(I)I"⟩
def zy113 : MethodName := ⟨"FiveInks", "isEditor", "(I)Z"⟩
def zy114 : MethodName := ⟨"FiveInks", "seenLength", "(I)I"⟩
def zy115 : MethodName := ⟨"FiveInksModel", "<init>", "()V"⟩
def zy116 : MethodName := ⟨"FiveInksModel", "in", "(III)Z"⟩
def zy117 : MethodName := ⟨"FiveInksModel", "get", "(II)I"⟩
def zy118 : MethodName := ⟨"FiveInksModel", "lays", "(III)V"⟩
def zy119 : MethodName := ⟨"FiveInksModel", "isMark", "(I)Z"⟩
def zy120 : MethodName := ⟨"FiveInksModel", "isEditor", "(I)Z"⟩
def zy121 : MethodName := ⟨"FiveInksModel", "records", "()V"⟩
def zy122 : MethodName := ⟨"FiveInksModel", "putAside", "()V"⟩
def zy123 : MethodName := ⟨"FiveInksModel", "takeBack", "()V"⟩
def zy124 : MethodName := ⟨"FiveInksModel", "clashes", "(II)Z"⟩
def zy125 : MethodName := ⟨"FiveInksModel", "quarrels", "(II)Z"⟩
def zy126 : MethodName := ⟨"FiveInksModel", "clashing", "(II)I"⟩
def zy127 : MethodName := ⟨"FiveInksModel", "longer", "(I)I"⟩
def zy128 : MethodName := ⟨"FiveInksModel", "printMany", "()I"⟩
def zy129 : MethodName := ⟨"FiveInksModel", "writes", "(I)V"⟩
def zy130 : MethodName := ⟨"FiveInksModel", "writesMarks", "(II)V"⟩
def zy131 : MethodName := ⟨"FiveInksModel", "isLeftOut", "(I)Z"⟩
def zy132 : MethodName := ⟨"FiveInksModel", "carriesOut", "()V"⟩
def zy133 : MethodName := ⟨"FiveInksModel", "prints", "()V"⟩
def zy134 : MethodName := ⟨"FiveInksModel", "clashesWithOpen", "(II)Z"⟩
def zy135 : MethodName := ⟨"FiveInksModel", "shows", "(I)V"⟩
def zy136 : MethodName := ⟨"FiveInksModel", "begin", "()I"⟩
def zy137 : MethodName := ⟨"FiveInksModel", "rank", "(II)I"⟩
def zy138 : MethodName := ⟨"FiveInksModel", "isAgainstOwn", "(I)Z"⟩
def zy139 : MethodName := ⟨"FiveInksModel", "clears", "(I)V"⟩
def zy140 : MethodName := ⟨"FiveInksModel", "laysMark", "(IIII)V"⟩
def zy141 : MethodName := ⟨"FiveInksModel", "makes", "(I)Z"⟩
def zy142 : MethodName := ⟨"FiveInksModel", "mark", "()I"⟩
def zy143 : MethodName := ⟨"FiveInksModel", "strike", "(III)I"⟩
def zy144 : MethodName := ⟨"FiveInksModel", "canAccept", "(I)Z"⟩
def zy145 : MethodName := ⟨"FiveInksModel", "accepts", "(I)I"⟩
def zy146 : MethodName := ⟨"FiveInksModel", "accept", "(I)I"⟩
def zy147 : MethodName := ⟨"FiveInksModel", "withHow", "(I)I"⟩
def zy148 : MethodName := ⟨"FiveInksModel", "refuse", "(I)I"⟩
def zy149 : MethodName := ⟨"FiveInksModel", "drops", "(I)V"⟩
def zy150 : MethodName := ⟨"FiveInksModel", "wash", "(I)I"⟩
def zy151 : MethodName := ⟨"FiveInksModel", "nextOpen", "()I"⟩
def zy152 : MethodName := ⟨"FiveInksModel", "judges", "()I"⟩
def zy153 : MethodName := ⟨"FiveInksModel", "judge", "()I"⟩
def zy154 : MethodName := ⟨"FiveInksModel", "carried", "(IZ)I"⟩
def zy155 : MethodName := ⟨"FiveInksModel", "carriesOver", "()V"⟩
def zy156 : MethodName := ⟨"FiveInksModel", "ship", "()I"⟩
def zy157 : MethodName := ⟨"FiveInksModel", "letter", "(II)I"⟩
def zy158 : MethodName := ⟨"FiveInksModel", "seen", "(II)I"⟩
def zy159 : MethodName := ⟨"FiveInksModel", "quarrelsOf", "(I)I"⟩
def zy160 : MethodName := ⟨"FiveInksModel", "of", "(II)I"⟩
def zy161 : MethodName := ⟨"FiveInksModel", "clash", "(II)I"⟩
def zy162 : MethodName := ⟨"FiveInksModel", "overMarks", "(II)I"⟩
def zy163 : MethodName := ⟨"FiveInksModel", "editor", "(II)I"⟩
def zy164 : MethodName := ⟨"FiveInksModel", "allQuarrels", "()I"⟩
def zy165 : MethodName := ⟨"FiveInksModel", "count", "(I)I"⟩
def zy166 : MethodName := ⟨"FiveInksModel", "isVersion", "(I)Z"⟩
def zy167 : MethodName := ⟨"FiveInksModel", "version", "(II)I"⟩
def zy168 : MethodName := ⟨"FiveInksModel", "distance", "(II)I"⟩
def zy169 : MethodName := ⟨"FiveInksModel", "apart", "(II)I"⟩
def zy170 : MethodName := ⟨"FiveInksModel", "ifAccepted", "(II)I"⟩
def zy171 : MethodName := ⟨"FiveInksModel", "ifJudged", "(I)I"⟩
def zy172 : MethodName := ⟨"FiveInksModel", "put", "(J)I"⟩
def zy173 : MethodName := ⟨"FiveInksModel", "wipe", "()I"⟩
def zy174 : MethodName := ⟨"FiveInksModel", "sign", "()I"⟩
def zy175 : MethodName := ⟨"FiveInksModel", "wants", "(I)V"⟩
def zy176 : MethodName := ⟨"FiveInksModel", "digit", "(I)I"⟩
def zy177 : MethodName := ⟨"FiveInksModel", "gap", "()I"⟩
def zy178 : MethodName := ⟨"FiveInksModel", "letters", "(I)I"⟩
def zy179 : MethodName := ⟨"FiveInksModel", "readsMark", "()V"⟩
def zy180 : MethodName := ⟨"FiveInksModel", "reads", "()I"⟩
def zy181 : MethodName := ⟨"FiveInksModel", "fault", "()I"⟩
def zy182 : MethodName := ⟨"FiveInksModel", "undo", "()I"⟩
def zy183 : MethodName := ⟨"FiveInksModel", "save", "(I)I"⟩
def zy184 : MethodName := ⟨"FiveInksModel", "restore", "(I)I"⟩
def zy185 : MethodName := ⟨"java/lang/Math", "floorMod", "(II)I"⟩
def zy186 : MethodName := ⟨"java/lang/Math", "min", "(II)I"⟩
def zy187 : MethodName := ⟨"FiveInksLaw", "law", "([I)Z"⟩
abbrev zMt : Type := MethodName × ByteArray × Nat × Option FieldType × Nat × Bool × Nat × Nat × Nat
/-- a method: name, code, locals, answer, how many it takes (the receiver, too), static, its class, frames, words -/
def zMd : List zMt := [
  (zy0, prog_2_method_1_code, 2, none, 1, false, 0, 3, 60), -- X0_init
  (zy1, prog_2_method_2_code, 2, none, 2, false, 0, 3, 68), -- X0_record
  (zy2, prog_2_method_3_code, 2, none, 2, false, 0, 3, 68), -- X0_takeBack
  (zy3, prog_3_method_1_code, 1, none, 1, false, 1, 1, 20), -- X1_init
  (zy4, prog_3_method_2_code, 1, none, 1, false, 1, 0, 0), -- X1_clear
  (zy5, prog_3_method_3_code, 2, (some .boolean), 2, false, 1, 0, 0), -- X1_has
  (zy6, prog_3_method_4_code, 5, none, 5, false, 1, 0, 0), -- X1_add
  (zy7, prog_3_method_5_code, 3, none, 2, false, 1, 0, 0), -- X1_addLetterToLast
  (zy8, prog_3_method_6_code, 3, none, 3, false, 1, 2, 49), -- X1_take
  (zy9, prog_3_method_7_code, 3, none, 2, false, 1, 2, 49), -- X1_remove
  (zy10, prog_3_method_8_code, 4, none, 4, false, 1, 1, 26), -- X1_copyRow
  (zy11, prog_3_method_9_code, 2, none, 2, false, 1, 1, 26), -- X1_takeOver
  (zy12, prog_3_method_10_code, 3, (some .boolean), 3, false, 1, 1, 25), -- X1_clashing
  (zy13, prog_3_method_11_code, 6, (some .boolean), 4, false, 1, 0, 0), -- X1_clashingWith
  (zy14, prog_3_method_12_code, 3, (some .boolean), 3, false, 1, 2, 47), -- X1_quarrelling
  (zy15, prog_3_method_13_code, 4, (some .boolean), 3, false, 1, 1, 25), -- X1_hasClashInOwnInk
  (zy16, prog_3_method_14_code, 4, (some .boolean), 3, false, 1, 2, 47), -- X1_clashesWithAny
  (zy17, prog_3_method_15_code, 4, (some .boolean), 3, false, 1, 2, 47), -- X1_clashesWithOpenOf
  (zy18, prog_3_method_16_code, 4, (some .int), 2, false, 1, 2, 47), -- X1_openClashesOf
  (zy19, prog_3_method_17_code, 4, (some .int), 2, false, 1, 2, 47), -- X1_acceptOpen
  (zy20, prog_3_method_18_code, 2, (some .int), 2, false, 1, 0, 0), -- X1_growthBy
  (zy21, prog_3_method_19_code, 3, (some .int), 1, false, 1, 1, 21), -- X1_growthByAccepted
  (zy22, prog_3_method_20_code, 4, (some .int), 2, false, 1, 3, 69), -- X1_quarrelsOf
  (zy23, prog_3_method_21_code, 4, (some .int), 2, false, 1, 4, 92), -- X1_quarrelsOfInk
  (zy24, prog_3_method_22_code, 4, (some .int), 1, false, 1, 3, 69), -- X1_quarrels
  (zy25, prog_3_method_23_code, 4, (some .int), 2, false, 1, 0, 0), -- X1_inState
  (zy26, prog_3_method_24_code, 4, (some .int), 2, false, 1, 0, 0), -- X1_inInk
  (zy27, prog_3_method_25_code, 5, (some .int), 3, false, 1, 0, 0), -- X1_inInkAndState
  (zy28, prog_3_method_26_code, 5, (some .int), 3, false, 1, 0, 0), -- X1_refusedSince
  (zy29, prog_3_method_27_code, 3, none, 1, false, 1, 4, 92), -- X1_carryOver
  (zy30, prog_3_method_28_code, 3, none, 2, false, 1, 3, 70), -- X1_carryGaps
  (zy31, prog_3_method_29_code, 4, (some .boolean), 3, false, 1, 0, 0), -- X1_isPutInTwice
  (zy32, prog_3_method_30_code, 5, (some .int), 2, false, 1, 1, 21), -- X1_printedAhead
  (zy33, prog_3_method_31_code, 4, (some .int), 2, false, 1, 0, 0), -- X1_printedAt
  (zy34, prog_4_method_1_code, 1, none, 1, false, 2, 1, 20), -- X2_init
  (zy35, prog_4_method_2_code, 1, none, 1, false, 2, 0, 0), -- X2_clear
  (zy36, prog_4_method_3_code, 2, (some .int), 2, false, 2, 0, 0), -- X2_at
  (zy37, prog_4_method_4_code, 2, (some .boolean), 2, false, 2, 1, 21), -- X2_hasLetterAt
  (zy38, prog_4_method_5_code, 2, (some .boolean), 1, false, 2, 2, 42), -- X2_hasOnlyLetters
  (zy39, prog_4_method_6_code, 6, (some .int), 1, true, 2, 0, 0), -- X2_charactersIn
  (zy40, prog_4_method_7_code, 5, none, 3, false, 2, 0, 0), -- X2_append
  (zy41, prog_5_method_1_code, 1, none, 1, false, 3, 2, 40), -- X3_init
  (zy42, prog_5_method_2_code, 4, (some .int), 2, false, 3, 5, 113), -- X3_read
  (zy43, prog_5_method_3_code, 3, (some .boolean), 2, false, 3, 4, 91), -- X3_readMark
  (zy44, prog_5_method_4_code, 3, (some .boolean), 3, false, 3, 1, 21), -- X3_readSign
  (zy45, prog_5_method_5_code, 6, (some .boolean), 4, false, 3, 3, 66), -- X3_readGaps
  (zy46, prog_5_method_6_code, 4, (some .boolean), 3, false, 3, 3, 66), -- X3_readOneGap
  (zy47, prog_5_method_7_code, 4, (some .int), 2, false, 3, 2, 43), -- X3_readGap
  (zy48, prog_5_method_8_code, 3, (some .boolean), 2, false, 3, 2, 42), -- X3_readLetters
  (zy49, prog_5_method_9_code, 3, (some .int), 2, false, 3, 1, 21), -- X3_digitHere
  (zy50, prog_6_method_1_code, 1, none, 1, false, 4, 2, 40), -- X4_init
  (zy51, prog_6_method_2_code, 2, none, 2, false, 4, 2, 47), -- X4_takeOver
  (zy52, prog_6_method_3_code, 3, none, 2, false, 4, 1, 21), -- X4_startWith
  (zy53, prog_6_method_4_code, 2, (some .boolean), 2, false, 4, 0, 0), -- X4_hasGap
  (zy54, prog_6_method_5_code, 6, (some .boolean), 3, false, 4, 2, 48), -- X4_canTake
  (zy55, prog_6_method_6_code, 1, (some .int), 1, false, 4, 2, 43), -- X4_printLength
  (zy56, prog_6_method_7_code, 2, (some .int), 2, false, 4, 3, 63), -- X4_printLengthWithout
  (zy57, prog_6_method_8_code, 2, (some .boolean), 2, false, 4, 3, 70), -- X4_canAccept
  (zy58, prog_6_method_9_code, 4, (some .int), 1, false, 4, 5, 112), -- X4_judgeByRank
  (zy59, prog_6_method_10_code, 2, (some .boolean), 2, false, 4, 4, 91), -- X4_isAcceptedByVerdict
  (zy60, prog_6_method_11_code, 3, none, 2, false, 4, 5, 114), -- X4_shipAs
  (zy61, prog_7_method_1_code, 2, none, 1, false, 5, 3, 60), -- X5_init
  (zy62, prog_7_method_2_code, 1, (some .boolean), 1, true, 5, 0, 0), -- X5_isSlot
  (zy63, prog_7_method_3_code, 3, none, 3, false, 5, 3, 68), -- X5_keep
  (zy64, prog_8_method_1_code, 1, none, 1, false, 6, 1, 20), -- X6_init
  (zy65, prog_8_method_2_code, 1, none, 1, false, 6, 0, 0), -- X6_clear
  (zy66, prog_8_method_3_code, 2, none, 2, false, 6, 0, 0), -- X6_add
  (zy67, prog_8_method_4_code, 2, (some .int), 2, false, 6, 0, 0), -- X6_at
  (zy68, prog_8_method_5_code, 2, none, 2, false, 6, 1, 26), -- X6_takeOver
  (zy69, prog_9_method_1_code, 1, none, 1, false, 7, 1, 20), -- X7_init
  (zy70, prog_9_method_2_code, 1, none, 1, false, 7, 0, 0), -- X7_clear
  (zy71, prog_9_method_3_code, 1, (some .int), 1, false, 7, 1, 21), -- X7_kept
  (zy72, prog_9_method_4_code, 2, (some .boolean), 2, false, 7, 2, 41), -- X7_has
  (zy73, prog_9_method_5_code, 3, none, 2, false, 7, 1, 26), -- X7_add
  (zy74, prog_9_method_6_code, 2, (some .int), 2, false, 7, 3, 62), -- X7_lengthOf
  (zy75, prog_9_method_7_code, 3, (some .int), 3, false, 7, 4, 83), -- X7_at
  (zy76, prog_9_method_8_code, 2, (some .int), 2, false, 7, 1, 22), -- X7_rowOf
  (zy77, prog_9_method_9_code, 12, (some .int), 4, false, 7, 4, 83), -- X7_distance
  (zy78, prog_9_method_10_code, 2, none, 2, false, 7, 1, 26), -- X7_takeOver
  (zy79, prog_10_method_1_code, 1, none, 1, false, 8, 1, 20), -- X8_init
  (zy80, prog_10_method_2_code, 2, (some .int), 2, false, 8, 0, 0), -- X8_at
  (zy81, prog_10_method_3_code, 3, none, 2, false, 8, 3, 70), -- X8_showPrint
  (zy82, prog_10_method_4_code, 5, none, 3, false, 8, 3, 70), -- X8_showSeenBy
  (zy83, prog_10_method_5_code, 7, none, 2, false, 8, 2, 44), -- X8_carryOut
  (zy84, prog_10_method_6_code, 5, none, 3, false, 8, 0, 0), -- X8_placeChosen
  (zy85, prog_10_method_7_code, 4, none, 3, false, 8, 1, 21), -- X8_addLettersOf
  (zy86, prog_10_method_8_code, 2, none, 2, false, 8, 0, 0), -- X8_add
  (zy87, prog_1_method_1_code, 1, none, 1, false, 9, 4, 81), -- X9_init
  (zy88, prog_1_method_2_code, 1, (some .int), 1, false, 9, 4, 89), -- X9_begin
  (zy89, prog_1_method_3_code, 4, (some .int), 3, false, 9, 4, 89), -- X9_rank
  (zy90, prog_1_method_4_code, 2, (some .int), 1, false, 9, 6, 136), -- X9_mark
  (zy91, prog_1_method_5_code, 5, (some .int), 4, false, 9, 4, 89), -- X9_strike
  (zy92, prog_1_method_6_code, 2, (some .int), 2, false, 9, 4, 91), -- X9_accept
  (zy93, prog_1_method_7_code, 2, (some .int), 2, false, 9, 4, 89), -- X9_refuse
  (zy94, prog_1_method_8_code, 2, (some .int), 2, false, 9, 4, 89), -- X9_wash
  (zy95, prog_1_method_9_code, 1, (some .int), 1, false, 9, 6, 135), -- X9_judge
  (zy96, prog_1_method_10_code, 1, (some .int), 1, false, 9, 6, 136), -- X9_ship
  (zy97, prog_1_method_11_code, 3, (some .int), 3, false, 9, 4, 92), -- X9_letter
  (zy98, prog_1_method_12_code, 3, (some .int), 3, false, 9, 4, 94), -- X9_seen
  (zy99, prog_1_method_13_code, 4, (some .int), 3, false, 9, 4, 92), -- X9_of
  (zy100, prog_1_method_14_code, 3, (some .int), 3, false, 9, 3, 69), -- X9_clash
  (zy101, prog_1_method_15_code, 3, (some .int), 3, false, 9, 5, 115), -- X9_editor
  (zy102, prog_1_method_16_code, 2, (some .int), 2, false, 9, 4, 92), -- X9_count
  (zy103, prog_1_method_17_code, 3, (some .int), 3, false, 9, 5, 105), -- X9_version
  (zy104, prog_1_method_18_code, 3, (some .int), 3, false, 9, 5, 114), -- X9_apart
  (zy105, prog_1_method_19_code, 3, (some .int), 3, false, 9, 3, 70), -- X9_ifAccepted
  (zy106, prog_1_method_20_code, 3, (some .int), 2, false, 9, 6, 135), -- X9_ifJudged
  (zy107, prog_1_method_21_code, 4, (some .int), 2, false, 9, 1, 25), -- X9_put
  (zy108, prog_1_method_22_code, 2, (some .int), 1, false, 9, 1, 20), -- X9_wipe
  (zy109, prog_1_method_23_code, 1, (some .int), 1, false, 9, 6, 136), -- X9_fault
  (zy110, prog_1_method_24_code, 1, (some .int), 1, false, 9, 4, 89), -- X9_undo
  (zy111, prog_1_method_25_code, 2, (some .int), 2, false, 9, 4, 90), -- X9_save
  (zy112, prog_1_method_26_code, 2, (some .int), 2, false, 9, 4, 89), -- X9_restore
  (zy113, prog_1_method_27_code, 1, (some .boolean), 1, true, 9, 0, 0), -- X9_isEditor
  (zy114, prog_1_method_28_code, 2, (some .int), 2, false, 9, 4, 94), -- X9_seenLength
  (zy115, prog_12_method_1_code, 2, none, 1, false, 10, 1, 20), -- X10_init
  (zy116, prog_12_method_3_code, 3, (some .boolean), 3, true, 10, 0, 0), -- X10_in
  (zy117, prog_12_method_4_code, 3, (some .int), 3, false, 10, 0, 0), -- X10_get
  (zy118, prog_12_method_5_code, 4, none, 4, false, 10, 0, 0), -- X10_lays
  (zy119, prog_12_method_6_code, 2, (some .boolean), 2, false, 10, 1, 22), -- X10_isMark
  (zy120, prog_12_method_7_code, 1, (some .boolean), 1, true, 10, 1, 22), -- X10_isEditor
  (zy121, prog_12_method_8_code, 2, none, 1, false, 10, 0, 0), -- X10_records
  (zy122, prog_12_method_9_code, 2, none, 1, false, 10, 0, 0), -- X10_putAside
  (zy123, prog_12_method_10_code, 2, none, 1, false, 10, 0, 0), -- X10_takeBack
  (zy124, prog_12_method_11_code, 7, (some .boolean), 3, false, 10, 1, 22), -- X10_clashes
  (zy125, prog_12_method_12_code, 3, (some .boolean), 3, false, 10, 2, 48), -- X10_quarrels
  (zy126, prog_12_method_13_code, 5, (some .int), 3, false, 10, 2, 48), -- X10_clashing
  (zy127, prog_12_method_14_code, 2, (some .int), 2, false, 10, 1, 22), -- X10_longer
  (zy128, prog_12_method_15_code, 3, (some .int), 1, false, 10, 2, 43), -- X10_printMany
  (zy129, prog_12_method_16_code, 2, none, 2, false, 10, 0, 0), -- X10_writes
  (zy130, prog_12_method_17_code, 5, none, 3, false, 10, 1, 22), -- X10_writesMarks
  (zy131, prog_12_method_18_code, 4, (some .boolean), 2, false, 10, 1, 22), -- X10_isLeftOut
  (zy132, prog_12_method_19_code, 2, none, 1, false, 10, 2, 46), -- X10_carriesOut
  (zy133, prog_12_method_20_code, 2, none, 1, false, 10, 3, 67), -- X10_prints
  (zy134, prog_12_method_21_code, 5, (some .boolean), 3, false, 10, 2, 48), -- X10_clashesWithOpen
  (zy135, prog_12_method_22_code, 3, none, 2, false, 10, 3, 72), -- X10_shows
  (zy136, prog_12_method_23_code, 2, (some .int), 1, false, 10, 1, 22), -- X10_begin
  (zy137, prog_12_method_24_code, 4, (some .int), 3, false, 10, 2, 42), -- X10_rank
  (zy138, prog_12_method_25_code, 4, (some .boolean), 2, false, 10, 2, 48), -- X10_isAgainstOwn
  (zy139, prog_12_method_26_code, 3, none, 2, false, 10, 1, 23), -- X10_clears
  (zy140, prog_12_method_27_code, 6, none, 5, false, 10, 2, 45), -- X10_laysMark
  (zy141, prog_12_method_28_code, 5, (some .boolean), 2, false, 10, 3, 71), -- X10_makes
  (zy142, prog_12_method_29_code, 2, (some .int), 1, false, 10, 5, 107), -- X10_mark
  (zy143, prog_12_method_30_code, 5, (some .int), 4, false, 10, 3, 71), -- X10_strike
  (zy144, prog_12_method_31_code, 2, (some .boolean), 2, false, 10, 3, 72), -- X10_canAccept
  (zy145, prog_12_method_32_code, 4, (some .int), 2, false, 10, 2, 48), -- X10_accepts
  (zy146, prog_12_method_33_code, 2, (some .int), 2, false, 10, 4, 93), -- X10_accept
  (zy147, prog_12_method_34_code, 4, (some .int), 2, false, 10, 1, 22), -- X10_withHow
  (zy148, prog_12_method_35_code, 2, (some .int), 2, false, 10, 2, 45), -- X10_refuse
  (zy149, prog_12_method_36_code, 3, none, 2, false, 10, 2, 45), -- X10_drops
  (zy150, prog_12_method_37_code, 2, (some .int), 2, false, 10, 3, 67), -- X10_wash
  (zy151, prog_12_method_38_code, 4, (some .int), 1, false, 10, 1, 22), -- X10_nextOpen
  (zy152, prog_12_method_39_code, 3, (some .int), 1, false, 10, 4, 93), -- X10_judges
  (zy153, prog_12_method_40_code, 1, (some .int), 1, false, 10, 5, 115), -- X10_judge
  (zy154, prog_12_method_41_code, 6, (some .int), 3, false, 10, 2, 45), -- X10_carried
  (zy155, prog_12_method_42_code, 4, none, 1, false, 10, 3, 72), -- X10_carriesOver
  (zy156, prog_12_method_43_code, 2, (some .int), 1, false, 10, 4, 95), -- X10_ship
  (zy157, prog_12_method_44_code, 3, (some .int), 3, false, 10, 4, 88), -- X10_letter
  (zy158, prog_12_method_45_code, 3, (some .int), 3, false, 10, 4, 94), -- X10_seen
  (zy159, prog_12_method_46_code, 4, (some .int), 2, false, 10, 3, 70), -- X10_quarrelsOf
  (zy160, prog_12_method_47_code, 3, (some .int), 3, false, 10, 4, 93), -- X10_of
  (zy161, prog_12_method_48_code, 3, (some .int), 3, false, 10, 3, 70), -- X10_clash
  (zy162, prog_12_method_49_code, 6, (some .int), 3, false, 10, 4, 93), -- X10_overMarks
  (zy163, prog_12_method_50_code, 3, (some .int), 3, false, 10, 5, 118), -- X10_editor
  (zy164, prog_12_method_51_code, 3, (some .int), 1, false, 10, 4, 93), -- X10_allQuarrels
  (zy165, prog_12_method_52_code, 2, (some .int), 2, false, 10, 5, 115), -- X10_count
  (zy166, prog_12_method_53_code, 2, (some .boolean), 2, false, 10, 1, 22), -- X10_isVersion
  (zy167, prog_12_method_54_code, 4, (some .int), 3, false, 10, 2, 43), -- X10_version
  (zy168, prog_12_method_55_code, 7, (some .int), 3, false, 10, 0, 0), -- X10_distance
  (zy169, prog_12_method_56_code, 3, (some .int), 3, false, 10, 2, 43), -- X10_apart
  (zy170, prog_12_method_57_code, 3, (some .int), 3, false, 10, 3, 72), -- X10_ifAccepted
  (zy171, prog_12_method_58_code, 4, (some .int), 2, false, 10, 5, 118), -- X10_ifJudged
  (zy172, prog_12_method_59_code, 8, (some .int), 2, false, 10, 1, 22), -- X10_put
  (zy173, prog_12_method_60_code, 2, (some .int), 1, false, 10, 0, 0), -- X10_wipe
  (zy174, prog_12_method_61_code, 1, (some .int), 1, false, 10, 0, 0), -- X10_sign
  (zy175, prog_12_method_62_code, 2, none, 2, false, 10, 1, 20), -- X10_wants
  (zy176, prog_12_method_63_code, 3, (some .int), 2, false, 10, 1, 22), -- X10_digit
  (zy177, prog_12_method_64_code, 2, (some .int), 1, false, 10, 2, 44), -- X10_gap
  (zy178, prog_12_method_65_code, 3, (some .int), 2, false, 10, 1, 22), -- X10_letters
  (zy179, prog_12_method_66_code, 3, none, 1, false, 10, 3, 65), -- X10_readsMark
  (zy180, prog_12_method_67_code, 1, (some .int), 1, false, 10, 4, 87), -- X10_reads
  (zy181, prog_12_method_68_code, 1, (some .int), 1, false, 10, 5, 107), -- X10_fault
  (zy182, prog_12_method_69_code, 2, (some .int), 1, false, 10, 0, 0), -- X10_undo
  (zy183, prog_12_method_70_code, 3, (some .int), 2, false, 10, 1, 22), -- X10_save
  (zy184, prog_12_method_71_code, 3, (some .int), 2, false, 10, 1, 22), -- X10_restore
  (zy185, prog_13_method_50_code, 3, (some .int), 2, true, 99, 0, 0), -- J9_floorMod_7cf53
  (zy186, prog_13_method_69_code, 2, (some .int), 2, true, 99, 0, 0), -- J9_min_7cf53
  (zy187, code, 4, (some .boolean), 1, true, 99, 7, 157) -- L_law
  ]
def zMg (y : Nat) : zMt := zMd.getD y (⟨"", "", ""⟩, ⟨#[]⟩, 0, none, 0, true, 99, 0, 0)
def zN (y : Nat) : MethodName := (zMg y).1
def zB (y : Nat) : ByteArray := (zMg y).2.1
def zL (y : Nat) : Nat := (zMg y).2.2.1
def zRt (y : Nat) : Option FieldType := (zMg y).2.2.2.1
def zA (y : Nat) : Nat := (zMg y).2.2.2.2.1
def zSt (y : Nat) : Bool := (zMg y).2.2.2.2.2.1
def zCn (y : Nat) : Nat := (zMg y).2.2.2.2.2.2.1
def zF (y : Nat) : Nat := (zMg y).2.2.2.2.2.2.2.1
def zO (y : Nat) : Nat := (zMg y).2.2.2.2.2.2.2.2
/-! THE PURE MACHINE: a run over numbered cells, without the real machine's tables. A row of code: instruction, length, two numbers that its entry stands for, the place of its word in lw_tbl.
A memory: slots used, kinds of the cells, their lengths, what they refer to (0: nothing), their ints. Cell 0 is the script. Kinds: 0 ints, 1 booleans, 2 sheets, 3 + k an object of the k-th kind of zcl. -/
abbrev zRow : Type := Instr × Nat × Nat × Nat × Nat
abbrev zM : Type := Nat × List Nat × List Nat × List (List Nat) × (Nat → Nat → Int32)
abbrev zRes : Type := Option ((Nat × List Value × List Value × zM) ⊕ (Option Value × zM) ⊕ (Nat × List Value × List Value))
def zlk : List (Nat × zRow) → Nat → Option zRow
  | [], _ => none
  | q :: l, pc => cond (Nat.beq q.1 pc) (some q.2) (zlk l pc)
/-- X0_init -/
def zp0 : List (Nat × zRow) := [
  (0, .aload_n 0, 1, 0, 0, 0),
  (1, .invokespecial 3, 3, 1000, 0, 203),
  (4, .aload_n 0, 1, 0, 0, 0),
  (5, .bipush 6, 2, 0, 0, 0),
  (7, .anewarray 9, 3, 4, 0, 204),
  (10, .putfield 11, 3, 0, 0, 207),
  (13, .iconst 0, 1, 0, 0, 0),
  (14, .istore_n 1, 1, 0, 0, 0),
  (15, .iload_n 1, 1, 0, 0, 0),
  (16, .bipush 6, 2, 0, 0, 0),
  (18, .if_icmp .ge 22, 3, 0, 0, 0),
  (21, .aload_n 0, 1, 0, 0, 0),
  (22, .getfield 11, 3, 0, 0, 207),
  (25, .iload_n 1, 1, 0, 0, 0),
  (26, .new 9, 3, 4, 0, 204),
  (29, .dup, 1, 0, 0, 0),
  (30, .invokespecial 17, 3, 50, 0, 206),
  (33, .aastore, 1, 0, 0, 0),
  (34, .iinc 1 1, 3, 0, 0, 0),
  (37, .goto (-22), 3, 0, 0, 0),
  (40, .return_, 1, 0, 0, 0)
  ]
/-- X0_record -/
def zp1 : List (Nat × zRow) := [
  (0, .aload_n 0, 1, 0, 0, 0),
  (1, .getfield 11, 3, 0, 0, 207),
  (4, .aload_n 0, 1, 0, 0, 0),
  (5, .getfield 18, 3, 0, 1, 208),
  (8, .aaload, 1, 0, 0, 0),
  (9, .aload_n 1, 1, 0, 0, 0),
  (10, .invokevirtual 22, 3, 51, 0, 337),
  (13, .aload_n 0, 1, 0, 0, 0),
  (14, .aload_n 0, 1, 0, 0, 0),
  (15, .getfield 18, 3, 0, 1, 208),
  (18, .iconst 1, 1, 0, 0, 0),
  (19, .iadd, 1, 0, 0, 0),
  (20, .bipush 6, 2, 0, 0, 0),
  (22, .irem, 1, 0, 0, 0),
  (23, .putfield 18, 3, 0, 1, 208),
  (26, .aload_n 0, 1, 0, 0, 0),
  (27, .aload_n 0, 1, 0, 0, 0),
  (28, .getfield 26, 3, 0, 2, 209),
  (31, .iconst 1, 1, 0, 0, 0),
  (32, .iadd, 1, 0, 0, 0),
  (33, .bipush 6, 2, 0, 0, 0),
  (35, .invokestatic 29, 3, 1002, 0, 359),
  (38, .putfield 26, 3, 0, 2, 209),
  (41, .return_, 1, 0, 0, 0)
  ]
/-- X0_takeBack -/
def zp2 : List (Nat × zRow) := [
  (0, .aload_n 0, 1, 0, 0, 0),
  (1, .aload_n 0, 1, 0, 0, 0),
  (2, .getfield 18, 3, 0, 1, 208),
  (5, .bipush 6, 2, 0, 0, 0),
  (7, .iadd, 1, 0, 0, 0),
  (8, .iconst 1, 1, 0, 0, 0),
  (9, .isub, 1, 0, 0, 0),
  (10, .bipush 6, 2, 0, 0, 0),
  (12, .irem, 1, 0, 0, 0),
  (13, .putfield 18, 3, 0, 1, 208),
  (16, .aload_n 0, 1, 0, 0, 0),
  (17, .dup, 1, 0, 0, 0),
  (18, .getfield 26, 3, 0, 2, 209),
  (21, .iconst 1, 1, 0, 0, 0),
  (22, .isub, 1, 0, 0, 0),
  (23, .putfield 26, 3, 0, 2, 209),
  (26, .aload_n 1, 1, 0, 0, 0),
  (27, .aload_n 0, 1, 0, 0, 0),
  (28, .getfield 11, 3, 0, 0, 207),
  (31, .aload_n 0, 1, 0, 0, 0),
  (32, .getfield 18, 3, 0, 1, 208),
  (35, .aaload, 1, 0, 0, 0),
  (36, .invokevirtual 22, 3, 51, 0, 337),
  (39, .return_, 1, 0, 0, 0)
  ]
/-- X1_init -/
def zp3 : List (Nat × zRow) := [
  (0, .aload_n 0, 1, 0, 0, 0),
  (1, .invokespecial 3, 3, 1000, 0, 115),
  (4, .aload_n 0, 1, 0, 0, 0),
  (5, .bipush 20, 2, 0, 0, 0),
  (7, .newarray .int, 2, 0, 0, 0),
  (9, .putfield 9, 3, 1, 0, 116),
  (12, .aload_n 0, 1, 0, 0, 0),
  (13, .bipush 20, 2, 0, 0, 0),
  (15, .newarray .int, 2, 0, 0, 0),
  (17, .putfield 15, 3, 1, 1, 120),
  (20, .aload_n 0, 1, 0, 0, 0),
  (21, .bipush 20, 2, 0, 0, 0),
  (23, .newarray .int, 2, 0, 0, 0),
  (25, .putfield 18, 3, 1, 2, 124),
  (28, .aload_n 0, 1, 0, 0, 0),
  (29, .bipush 20, 2, 0, 0, 0),
  (31, .newarray .int, 2, 0, 0, 0),
  (33, .putfield 21, 3, 1, 3, 128),
  (36, .aload_n 0, 1, 0, 0, 0),
  (37, .bipush 20, 2, 0, 0, 0),
  (39, .newarray .int, 2, 0, 0, 0),
  (41, .putfield 24, 3, 1, 4, 132),
  (44, .aload_n 0, 1, 0, 0, 0),
  (45, .bipush 20, 2, 0, 0, 0),
  (47, .newarray .int, 2, 0, 0, 0),
  (49, .putfield 27, 3, 1, 5, 136),
  (52, .aload_n 0, 1, 0, 0, 0),
  (53, .bipush 120, 2, 0, 0, 0),
  (55, .newarray .int, 2, 0, 0, 0),
  (57, .putfield 30, 3, 1, 6, 139),
  (60, .return_, 1, 0, 0, 0)
  ]
/-- X1_clear -/
def zp4 : List (Nat × zRow) := [
  (0, .aload_n 0, 1, 0, 0, 0),
  (1, .iconst 0, 1, 0, 0, 0),
  (2, .putfield 33, 3, 1, 7, 141),
  (5, .return_, 1, 0, 0, 0)
  ]
/-- X1_has -/
def zp5 : List (Nat × zRow) := [
  (0, .iload_n 1, 1, 0, 0, 0),
  (1, .ifCond .lt 15, 3, 0, 0, 0),
  (4, .iload_n 1, 1, 0, 0, 0),
  (5, .aload_n 0, 1, 0, 0, 0),
  (6, .getfield 33, 3, 1, 7, 141),
  (9, .if_icmp .ge 7, 3, 0, 0, 0),
  (12, .iconst 1, 1, 0, 0, 0),
  (13, .goto 4, 3, 0, 0, 0),
  (16, .iconst 0, 1, 0, 0, 0),
  (17, .ireturn, 1, 0, 0, 0)
  ]
/-- X1_add -/
def zp6 : List (Nat × zRow) := [
  (0, .aload_n 0, 1, 0, 0, 0),
  (1, .getfield 33, 3, 1, 7, 141),
  (4, .bipush 20, 2, 0, 0, 0),
  (6, .if_icmp .ge 74, 3, 0, 0, 0),
  (9, .aload_n 0, 1, 0, 0, 0),
  (10, .getfield 9, 3, 1, 0, 116),
  (13, .aload_n 0, 1, 0, 0, 0),
  (14, .getfield 33, 3, 1, 7, 141),
  (17, .iload_n 1, 1, 0, 0, 0),
  (18, .iastore, 1, 0, 0, 0),
  (19, .aload_n 0, 1, 0, 0, 0),
  (20, .getfield 15, 3, 1, 1, 120),
  (23, .aload_n 0, 1, 0, 0, 0),
  (24, .getfield 33, 3, 1, 7, 141),
  (27, .iload_n 2, 1, 0, 0, 0),
  (28, .iastore, 1, 0, 0, 0),
  (29, .aload_n 0, 1, 0, 0, 0),
  (30, .getfield 18, 3, 1, 2, 124),
  (33, .aload_n 0, 1, 0, 0, 0),
  (34, .getfield 33, 3, 1, 7, 141),
  (37, .iload_n 3, 1, 0, 0, 0),
  (38, .iastore, 1, 0, 0, 0),
  (39, .aload_n 0, 1, 0, 0, 0),
  (40, .getfield 21, 3, 1, 3, 128),
  (43, .aload_n 0, 1, 0, 0, 0),
  (44, .getfield 33, 3, 1, 7, 141),
  (47, .iload 4, 2, 0, 0, 0),
  (49, .iastore, 1, 0, 0, 0),
  (50, .aload_n 0, 1, 0, 0, 0),
  (51, .getfield 24, 3, 1, 4, 132),
  (54, .aload_n 0, 1, 0, 0, 0),
  (55, .getfield 33, 3, 1, 7, 141),
  (58, .iconst 0, 1, 0, 0, 0),
  (59, .iastore, 1, 0, 0, 0),
  (60, .aload_n 0, 1, 0, 0, 0),
  (61, .getfield 27, 3, 1, 5, 136),
  (64, .aload_n 0, 1, 0, 0, 0),
  (65, .getfield 33, 3, 1, 7, 141),
  (68, .iconst 0, 1, 0, 0, 0),
  (69, .iastore, 1, 0, 0, 0),
  (70, .aload_n 0, 1, 0, 0, 0),
  (71, .dup, 1, 0, 0, 0),
  (72, .getfield 33, 3, 1, 7, 141),
  (75, .iconst 1, 1, 0, 0, 0),
  (76, .iadd, 1, 0, 0, 0),
  (77, .putfield 33, 3, 1, 7, 141),
  (80, .return_, 1, 0, 0, 0)
  ]
/-- X1_addLetterToLast -/
def zp7 : List (Nat × zRow) := [
  (0, .aload_n 0, 1, 0, 0, 0),
  (1, .getfield 33, 3, 1, 7, 141),
  (4, .iconst 1, 1, 0, 0, 0),
  (5, .isub, 1, 0, 0, 0),
  (6, .istore_n 2, 1, 0, 0, 0),
  (7, .iload_n 2, 1, 0, 0, 0),
  (8, .ifCond .lt 41, 3, 0, 0, 0),
  (11, .aload_n 0, 1, 0, 0, 0),
  (12, .getfield 27, 3, 1, 5, 136),
  (15, .iload_n 2, 1, 0, 0, 0),
  (16, .iaload, 1, 0, 0, 0),
  (17, .bipush 6, 2, 0, 0, 0),
  (19, .if_icmp .ge 30, 3, 0, 0, 0),
  (22, .aload_n 0, 1, 0, 0, 0),
  (23, .getfield 30, 3, 1, 6, 139),
  (26, .iload_n 2, 1, 0, 0, 0),
  (27, .bipush 6, 2, 0, 0, 0),
  (29, .imul, 1, 0, 0, 0),
  (30, .aload_n 0, 1, 0, 0, 0),
  (31, .getfield 27, 3, 1, 5, 136),
  (34, .iload_n 2, 1, 0, 0, 0),
  (35, .iaload, 1, 0, 0, 0),
  (36, .iadd, 1, 0, 0, 0),
  (37, .iload_n 1, 1, 0, 0, 0),
  (38, .iastore, 1, 0, 0, 0),
  (39, .aload_n 0, 1, 0, 0, 0),
  (40, .getfield 27, 3, 1, 5, 136),
  (43, .iload_n 2, 1, 0, 0, 0),
  (44, .dup2, 1, 0, 0, 0),
  (45, .iaload, 1, 0, 0, 0),
  (46, .iconst 1, 1, 0, 0, 0),
  (47, .iadd, 1, 0, 0, 0),
  (48, .iastore, 1, 0, 0, 0),
  (49, .return_, 1, 0, 0, 0)
  ]
/-- X1_take -/
def zp8 : List (Nat × zRow) := [
  (0, .aload_n 0, 1, 0, 0, 0),
  (1, .getfield 33, 3, 1, 7, 141),
  (4, .bipush 20, 2, 0, 0, 0),
  (6, .if_icmp .ge 23, 3, 0, 0, 0),
  (9, .aload_n 0, 1, 0, 0, 0),
  (10, .aload_n 1, 1, 0, 0, 0),
  (11, .iload_n 2, 1, 0, 0, 0),
  (12, .aload_n 0, 1, 0, 0, 0),
  (13, .getfield 33, 3, 1, 7, 141),
  (16, .invokevirtual 37, 3, 10, 0, 462),
  (19, .aload_n 0, 1, 0, 0, 0),
  (20, .dup, 1, 0, 0, 0),
  (21, .getfield 33, 3, 1, 7, 141),
  (24, .iconst 1, 1, 0, 0, 0),
  (25, .iadd, 1, 0, 0, 0),
  (26, .putfield 33, 3, 1, 7, 141),
  (29, .return_, 1, 0, 0, 0)
  ]
/-- X1_remove -/
def zp9 : List (Nat × zRow) := [
  (0, .iload_n 1, 1, 0, 0, 0),
  (1, .iconst 1, 1, 0, 0, 0),
  (2, .iadd, 1, 0, 0, 0),
  (3, .istore_n 2, 1, 0, 0, 0),
  (4, .iload_n 2, 1, 0, 0, 0),
  (5, .aload_n 0, 1, 0, 0, 0),
  (6, .getfield 33, 3, 1, 7, 141),
  (9, .if_icmp .ge 18, 3, 0, 0, 0),
  (12, .aload_n 0, 1, 0, 0, 0),
  (13, .aload_n 0, 1, 0, 0, 0),
  (14, .iload_n 2, 1, 0, 0, 0),
  (15, .iload_n 2, 1, 0, 0, 0),
  (16, .iconst 1, 1, 0, 0, 0),
  (17, .isub, 1, 0, 0, 0),
  (18, .invokevirtual 37, 3, 10, 0, 462),
  (21, .iinc 2 1, 3, 0, 0, 0),
  (24, .goto (-20), 3, 0, 0, 0),
  (27, .aload_n 0, 1, 0, 0, 0),
  (28, .dup, 1, 0, 0, 0),
  (29, .getfield 33, 3, 1, 7, 141),
  (32, .iconst 1, 1, 0, 0, 0),
  (33, .isub, 1, 0, 0, 0),
  (34, .putfield 33, 3, 1, 7, 141),
  (37, .return_, 1, 0, 0, 0)
  ]
/-- X1_copyRow -/
def zp10 : List (Nat × zRow) := [
  (0, .aload_n 0, 1, 0, 0, 0),
  (1, .getfield 9, 3, 1, 0, 116),
  (4, .iload_n 3, 1, 0, 0, 0),
  (5, .aload_n 1, 1, 0, 0, 0),
  (6, .getfield 9, 3, 1, 0, 116),
  (9, .iload_n 2, 1, 0, 0, 0),
  (10, .iaload, 1, 0, 0, 0),
  (11, .iastore, 1, 0, 0, 0),
  (12, .aload_n 0, 1, 0, 0, 0),
  (13, .getfield 15, 3, 1, 1, 120),
  (16, .iload_n 3, 1, 0, 0, 0),
  (17, .aload_n 1, 1, 0, 0, 0),
  (18, .getfield 15, 3, 1, 1, 120),
  (21, .iload_n 2, 1, 0, 0, 0),
  (22, .iaload, 1, 0, 0, 0),
  (23, .iastore, 1, 0, 0, 0),
  (24, .aload_n 0, 1, 0, 0, 0),
  (25, .getfield 18, 3, 1, 2, 124),
  (28, .iload_n 3, 1, 0, 0, 0),
  (29, .aload_n 1, 1, 0, 0, 0),
  (30, .getfield 18, 3, 1, 2, 124),
  (33, .iload_n 2, 1, 0, 0, 0),
  (34, .iaload, 1, 0, 0, 0),
  (35, .iastore, 1, 0, 0, 0),
  (36, .aload_n 0, 1, 0, 0, 0),
  (37, .getfield 21, 3, 1, 3, 128),
  (40, .iload_n 3, 1, 0, 0, 0),
  (41, .aload_n 1, 1, 0, 0, 0),
  (42, .getfield 21, 3, 1, 3, 128),
  (45, .iload_n 2, 1, 0, 0, 0),
  (46, .iaload, 1, 0, 0, 0),
  (47, .iastore, 1, 0, 0, 0),
  (48, .aload_n 0, 1, 0, 0, 0),
  (49, .getfield 24, 3, 1, 4, 132),
  (52, .iload_n 3, 1, 0, 0, 0),
  (53, .aload_n 1, 1, 0, 0, 0),
  (54, .getfield 24, 3, 1, 4, 132),
  (57, .iload_n 2, 1, 0, 0, 0),
  (58, .iaload, 1, 0, 0, 0),
  (59, .iastore, 1, 0, 0, 0),
  (60, .aload_n 0, 1, 0, 0, 0),
  (61, .getfield 27, 3, 1, 5, 136),
  (64, .iload_n 3, 1, 0, 0, 0),
  (65, .aload_n 1, 1, 0, 0, 0),
  (66, .getfield 27, 3, 1, 5, 136),
  (69, .iload_n 2, 1, 0, 0, 0),
  (70, .iaload, 1, 0, 0, 0),
  (71, .iastore, 1, 0, 0, 0),
  (72, .aload_n 1, 1, 0, 0, 0),
  (73, .getfield 30, 3, 1, 6, 139),
  (76, .iload_n 2, 1, 0, 0, 0),
  (77, .bipush 6, 2, 0, 0, 0),
  (79, .imul, 1, 0, 0, 0),
  (80, .aload_n 0, 1, 0, 0, 0),
  (81, .getfield 30, 3, 1, 6, 139),
  (84, .iload_n 3, 1, 0, 0, 0),
  (85, .bipush 6, 2, 0, 0, 0),
  (87, .imul, 1, 0, 0, 0),
  (88, .bipush 6, 2, 0, 0, 0),
  (90, .invokestatic 41, 3, 1001, 0, 352),
  (93, .return_, 1, 0, 0, 0)
  ]
/-- X1_takeOver -/
def zp11 : List (Nat × zRow) := [
  (0, .aload_n 1, 1, 0, 0, 0),
  (1, .getfield 9, 3, 1, 0, 116),
  (4, .iconst 0, 1, 0, 0, 0),
  (5, .aload_n 0, 1, 0, 0, 0),
  (6, .getfield 9, 3, 1, 0, 116),
  (9, .iconst 0, 1, 0, 0, 0),
  (10, .bipush 20, 2, 0, 0, 0),
  (12, .invokestatic 41, 3, 1001, 0, 352),
  (15, .aload_n 1, 1, 0, 0, 0),
  (16, .getfield 15, 3, 1, 1, 120),
  (19, .iconst 0, 1, 0, 0, 0),
  (20, .aload_n 0, 1, 0, 0, 0),
  (21, .getfield 15, 3, 1, 1, 120),
  (24, .iconst 0, 1, 0, 0, 0),
  (25, .bipush 20, 2, 0, 0, 0),
  (27, .invokestatic 41, 3, 1001, 0, 352),
  (30, .aload_n 1, 1, 0, 0, 0),
  (31, .getfield 18, 3, 1, 2, 124),
  (34, .iconst 0, 1, 0, 0, 0),
  (35, .aload_n 0, 1, 0, 0, 0),
  (36, .getfield 18, 3, 1, 2, 124),
  (39, .iconst 0, 1, 0, 0, 0),
  (40, .bipush 20, 2, 0, 0, 0),
  (42, .invokestatic 41, 3, 1001, 0, 352),
  (45, .aload_n 1, 1, 0, 0, 0),
  (46, .getfield 21, 3, 1, 3, 128),
  (49, .iconst 0, 1, 0, 0, 0),
  (50, .aload_n 0, 1, 0, 0, 0),
  (51, .getfield 21, 3, 1, 3, 128),
  (54, .iconst 0, 1, 0, 0, 0),
  (55, .bipush 20, 2, 0, 0, 0),
  (57, .invokestatic 41, 3, 1001, 0, 352),
  (60, .aload_n 1, 1, 0, 0, 0),
  (61, .getfield 24, 3, 1, 4, 132),
  (64, .iconst 0, 1, 0, 0, 0),
  (65, .aload_n 0, 1, 0, 0, 0),
  (66, .getfield 24, 3, 1, 4, 132),
  (69, .iconst 0, 1, 0, 0, 0),
  (70, .bipush 20, 2, 0, 0, 0),
  (72, .invokestatic 41, 3, 1001, 0, 352),
  (75, .aload_n 1, 1, 0, 0, 0),
  (76, .getfield 27, 3, 1, 5, 136),
  (79, .iconst 0, 1, 0, 0, 0),
  (80, .aload_n 0, 1, 0, 0, 0),
  (81, .getfield 27, 3, 1, 5, 136),
  (84, .iconst 0, 1, 0, 0, 0),
  (85, .bipush 20, 2, 0, 0, 0),
  (87, .invokestatic 41, 3, 1001, 0, 352),
  (90, .aload_n 1, 1, 0, 0, 0),
  (91, .getfield 30, 3, 1, 6, 139),
  (94, .iconst 0, 1, 0, 0, 0),
  (95, .aload_n 0, 1, 0, 0, 0),
  (96, .getfield 30, 3, 1, 6, 139),
  (99, .iconst 0, 1, 0, 0, 0),
  (100, .bipush 120, 2, 0, 0, 0),
  (102, .invokestatic 41, 3, 1001, 0, 352),
  (105, .aload_n 0, 1, 0, 0, 0),
  (106, .aload_n 1, 1, 0, 0, 0),
  (107, .getfield 33, 3, 1, 7, 141),
  (110, .putfield 33, 3, 1, 7, 141),
  (113, .return_, 1, 0, 0, 0)
  ]
/-- X1_clashing -/
def zp12 : List (Nat × zRow) := [
  (0, .aload_n 0, 1, 0, 0, 0),
  (1, .iload_n 1, 1, 0, 0, 0),
  (2, .aload_n 0, 1, 0, 0, 0),
  (3, .iload_n 2, 1, 0, 0, 0),
  (4, .invokevirtual 47, 3, 13, 0, 454),
  (7, .ireturn, 1, 0, 0, 0)
  ]
/-- X1_clashingWith -/
def zp13 : List (Nat × zRow) := [
  (0, .aload_n 0, 1, 0, 0, 0),
  (1, .getfield 15, 3, 1, 1, 120),
  (4, .iload_n 1, 1, 0, 0, 0),
  (5, .iaload, 1, 0, 0, 0),
  (6, .iconst 1, 1, 0, 0, 0),
  (7, .if_icmp .ne 7, 3, 0, 0, 0),
  (10, .iconst 1, 1, 0, 0, 0),
  (11, .goto 4, 3, 0, 0, 0),
  (14, .iconst 0, 1, 0, 0, 0),
  (15, .istore 4, 2, 0, 0, 0),
  (17, .aload_n 2, 1, 0, 0, 0),
  (18, .getfield 15, 3, 1, 1, 120),
  (21, .iload_n 3, 1, 0, 0, 0),
  (22, .iaload, 1, 0, 0, 0),
  (23, .iconst 1, 1, 0, 0, 0),
  (24, .if_icmp .ne 7, 3, 0, 0, 0),
  (27, .iconst 1, 1, 0, 0, 0),
  (28, .goto 4, 3, 0, 0, 0),
  (31, .iconst 0, 1, 0, 0, 0),
  (32, .istore 5, 2, 0, 0, 0),
  (34, .iload 4, 2, 0, 0, 0),
  (36, .ifCond .eq 29, 3, 0, 0, 0),
  (39, .iload 5, 2, 0, 0, 0),
  (41, .ifCond .eq 24, 3, 0, 0, 0),
  (44, .aload_n 0, 1, 0, 0, 0),
  (45, .getfield 18, 3, 1, 2, 124),
  (48, .iload_n 1, 1, 0, 0, 0),
  (49, .iaload, 1, 0, 0, 0),
  (50, .aload_n 2, 1, 0, 0, 0),
  (51, .getfield 18, 3, 1, 2, 124),
  (54, .iload_n 3, 1, 0, 0, 0),
  (55, .iaload, 1, 0, 0, 0),
  (56, .if_icmp .ne 7, 3, 0, 0, 0),
  (59, .iconst 1, 1, 0, 0, 0),
  (60, .goto 4, 3, 0, 0, 0),
  (63, .iconst 0, 1, 0, 0, 0),
  (64, .ireturn, 1, 0, 0, 0),
  (65, .iload 4, 2, 0, 0, 0),
  (67, .ifCond .eq 39, 3, 0, 0, 0),
  (70, .aload_n 0, 1, 0, 0, 0),
  (71, .getfield 18, 3, 1, 2, 124),
  (74, .iload_n 1, 1, 0, 0, 0),
  (75, .iaload, 1, 0, 0, 0),
  (76, .aload_n 2, 1, 0, 0, 0),
  (77, .getfield 18, 3, 1, 2, 124),
  (80, .iload_n 3, 1, 0, 0, 0),
  (81, .iaload, 1, 0, 0, 0),
  (82, .if_icmp .le 22, 3, 0, 0, 0),
  (85, .aload_n 0, 1, 0, 0, 0),
  (86, .getfield 18, 3, 1, 2, 124),
  (89, .iload_n 1, 1, 0, 0, 0),
  (90, .iaload, 1, 0, 0, 0),
  (91, .aload_n 2, 1, 0, 0, 0),
  (92, .getfield 21, 3, 1, 3, 128),
  (95, .iload_n 3, 1, 0, 0, 0),
  (96, .iaload, 1, 0, 0, 0),
  (97, .if_icmp .ge 7, 3, 0, 0, 0),
  (100, .iconst 1, 1, 0, 0, 0),
  (101, .goto 4, 3, 0, 0, 0),
  (104, .iconst 0, 1, 0, 0, 0),
  (105, .ireturn, 1, 0, 0, 0),
  (106, .iload 5, 2, 0, 0, 0),
  (108, .ifCond .eq 39, 3, 0, 0, 0),
  (111, .aload_n 2, 1, 0, 0, 0),
  (112, .getfield 18, 3, 1, 2, 124),
  (115, .iload_n 3, 1, 0, 0, 0),
  (116, .iaload, 1, 0, 0, 0),
  (117, .aload_n 0, 1, 0, 0, 0),
  (118, .getfield 18, 3, 1, 2, 124),
  (121, .iload_n 1, 1, 0, 0, 0),
  (122, .iaload, 1, 0, 0, 0),
  (123, .if_icmp .le 22, 3, 0, 0, 0),
  (126, .aload_n 2, 1, 0, 0, 0),
  (127, .getfield 18, 3, 1, 2, 124),
  (130, .iload_n 3, 1, 0, 0, 0),
  (131, .iaload, 1, 0, 0, 0),
  (132, .aload_n 0, 1, 0, 0, 0),
  (133, .getfield 21, 3, 1, 3, 128),
  (136, .iload_n 1, 1, 0, 0, 0),
  (137, .iaload, 1, 0, 0, 0),
  (138, .if_icmp .ge 7, 3, 0, 0, 0),
  (141, .iconst 1, 1, 0, 0, 0),
  (142, .goto 4, 3, 0, 0, 0),
  (145, .iconst 0, 1, 0, 0, 0),
  (146, .ireturn, 1, 0, 0, 0),
  (147, .aload_n 0, 1, 0, 0, 0),
  (148, .getfield 18, 3, 1, 2, 124),
  (151, .iload_n 1, 1, 0, 0, 0),
  (152, .iaload, 1, 0, 0, 0),
  (153, .aload_n 2, 1, 0, 0, 0),
  (154, .getfield 21, 3, 1, 3, 128),
  (157, .iload_n 3, 1, 0, 0, 0),
  (158, .iaload, 1, 0, 0, 0),
  (159, .if_icmp .ge 22, 3, 0, 0, 0),
  (162, .aload_n 2, 1, 0, 0, 0),
  (163, .getfield 18, 3, 1, 2, 124),
  (166, .iload_n 3, 1, 0, 0, 0),
  (167, .iaload, 1, 0, 0, 0),
  (168, .aload_n 0, 1, 0, 0, 0),
  (169, .getfield 21, 3, 1, 3, 128),
  (172, .iload_n 1, 1, 0, 0, 0),
  (173, .iaload, 1, 0, 0, 0),
  (174, .if_icmp .ge 7, 3, 0, 0, 0),
  (177, .iconst 1, 1, 0, 0, 0),
  (178, .goto 4, 3, 0, 0, 0),
  (181, .iconst 0, 1, 0, 0, 0),
  (182, .ireturn, 1, 0, 0, 0)
  ]
/-- X1_quarrelling -/
def zp14 : List (Nat × zRow) := [
  (0, .aload_n 0, 1, 0, 0, 0),
  (1, .getfield 9, 3, 1, 0, 116),
  (4, .iload_n 1, 1, 0, 0, 0),
  (5, .iaload, 1, 0, 0, 0),
  (6, .aload_n 0, 1, 0, 0, 0),
  (7, .getfield 9, 3, 1, 0, 116),
  (10, .iload_n 2, 1, 0, 0, 0),
  (11, .iaload, 1, 0, 0, 0),
  (12, .if_icmp .eq 36, 3, 0, 0, 0),
  (15, .aload_n 0, 1, 0, 0, 0),
  (16, .getfield 24, 3, 1, 4, 132),
  (19, .iload_n 1, 1, 0, 0, 0),
  (20, .iaload, 1, 0, 0, 0),
  (21, .iconst 2, 1, 0, 0, 0),
  (22, .if_icmp .eq 26, 3, 0, 0, 0),
  (25, .aload_n 0, 1, 0, 0, 0),
  (26, .getfield 24, 3, 1, 4, 132),
  (29, .iload_n 2, 1, 0, 0, 0),
  (30, .iaload, 1, 0, 0, 0),
  (31, .iconst 2, 1, 0, 0, 0),
  (32, .if_icmp .eq 16, 3, 0, 0, 0),
  (35, .aload_n 0, 1, 0, 0, 0),
  (36, .iload_n 1, 1, 0, 0, 0),
  (37, .iload_n 2, 1, 0, 0, 0),
  (38, .invokevirtual 51, 3, 12, 0, 490),
  (41, .ifCond .eq 7, 3, 0, 0, 0),
  (44, .iconst 1, 1, 0, 0, 0),
  (45, .goto 4, 3, 0, 0, 0),
  (48, .iconst 0, 1, 0, 0, 0),
  (49, .ireturn, 1, 0, 0, 0)
  ]
/-- X1_hasClashInOwnInk -/
def zp15 : List (Nat × zRow) := [
  (0, .iconst 0, 1, 0, 0, 0),
  (1, .istore_n 3, 1, 0, 0, 0),
  (2, .iload_n 3, 1, 0, 0, 0),
  (3, .aload_n 0, 1, 0, 0, 0),
  (4, .getfield 33, 3, 1, 7, 141),
  (7, .if_icmp .ge 46, 3, 0, 0, 0),
  (10, .aload_n 0, 1, 0, 0, 0),
  (11, .getfield 9, 3, 1, 0, 116),
  (14, .iload_n 3, 1, 0, 0, 0),
  (15, .iaload, 1, 0, 0, 0),
  (16, .aload_n 1, 1, 0, 0, 0),
  (17, .getfield 9, 3, 1, 0, 116),
  (20, .iload_n 2, 1, 0, 0, 0),
  (21, .iaload, 1, 0, 0, 0),
  (22, .if_icmp .ne 25, 3, 0, 0, 0),
  (25, .aload_n 0, 1, 0, 0, 0),
  (26, .getfield 24, 3, 1, 4, 132),
  (29, .iload_n 3, 1, 0, 0, 0),
  (30, .iaload, 1, 0, 0, 0),
  (31, .iconst 2, 1, 0, 0, 0),
  (32, .if_icmp .eq 15, 3, 0, 0, 0),
  (35, .aload_n 0, 1, 0, 0, 0),
  (36, .iload_n 3, 1, 0, 0, 0),
  (37, .aload_n 1, 1, 0, 0, 0),
  (38, .iload_n 2, 1, 0, 0, 0),
  (39, .invokevirtual 47, 3, 13, 0, 454),
  (42, .ifCond .eq 5, 3, 0, 0, 0),
  (45, .iconst 1, 1, 0, 0, 0),
  (46, .ireturn, 1, 0, 0, 0),
  (47, .iinc 3 1, 3, 0, 0, 0),
  (50, .goto (-48), 3, 0, 0, 0),
  (53, .iconst 0, 1, 0, 0, 0),
  (54, .ireturn, 1, 0, 0, 0)
  ]
/-- X1_clashesWithAny -/
def zp16 : List (Nat × zRow) := [
  (0, .iconst 0, 1, 0, 0, 0),
  (1, .istore_n 3, 1, 0, 0, 0),
  (2, .iload_n 3, 1, 0, 0, 0),
  (3, .aload_n 0, 1, 0, 0, 0),
  (4, .getfield 33, 3, 1, 7, 141),
  (7, .if_icmp .ge 35, 3, 0, 0, 0),
  (10, .iload_n 3, 1, 0, 0, 0),
  (11, .iload_n 1, 1, 0, 0, 0),
  (12, .if_icmp .eq 24, 3, 0, 0, 0),
  (15, .aload_n 0, 1, 0, 0, 0),
  (16, .getfield 24, 3, 1, 4, 132),
  (19, .iload_n 3, 1, 0, 0, 0),
  (20, .iaload, 1, 0, 0, 0),
  (21, .iload_n 2, 1, 0, 0, 0),
  (22, .if_icmp .ne 14, 3, 0, 0, 0),
  (25, .aload_n 0, 1, 0, 0, 0),
  (26, .iload_n 1, 1, 0, 0, 0),
  (27, .iload_n 3, 1, 0, 0, 0),
  (28, .invokevirtual 51, 3, 12, 0, 490),
  (31, .ifCond .eq 5, 3, 0, 0, 0),
  (34, .iconst 1, 1, 0, 0, 0),
  (35, .ireturn, 1, 0, 0, 0),
  (36, .iinc 3 1, 3, 0, 0, 0),
  (39, .goto (-37), 3, 0, 0, 0),
  (42, .iconst 0, 1, 0, 0, 0),
  (43, .ireturn, 1, 0, 0, 0)
  ]
/-- X1_clashesWithOpenOf -/
def zp17 : List (Nat × zRow) := [
  (0, .iconst 0, 1, 0, 0, 0),
  (1, .istore_n 3, 1, 0, 0, 0),
  (2, .iload_n 3, 1, 0, 0, 0),
  (3, .aload_n 0, 1, 0, 0, 0),
  (4, .getfield 33, 3, 1, 7, 141),
  (7, .if_icmp .ge 44, 3, 0, 0, 0),
  (10, .iload_n 3, 1, 0, 0, 0),
  (11, .iload_n 2, 1, 0, 0, 0),
  (12, .if_icmp .eq 33, 3, 0, 0, 0),
  (15, .aload_n 0, 1, 0, 0, 0),
  (16, .getfield 9, 3, 1, 0, 116),
  (19, .iload_n 3, 1, 0, 0, 0),
  (20, .iaload, 1, 0, 0, 0),
  (21, .iload_n 1, 1, 0, 0, 0),
  (22, .if_icmp .ne 23, 3, 0, 0, 0),
  (25, .aload_n 0, 1, 0, 0, 0),
  (26, .getfield 24, 3, 1, 4, 132),
  (29, .iload_n 3, 1, 0, 0, 0),
  (30, .iaload, 1, 0, 0, 0),
  (31, .ifCond .ne 14, 3, 0, 0, 0),
  (34, .aload_n 0, 1, 0, 0, 0),
  (35, .iload_n 2, 1, 0, 0, 0),
  (36, .iload_n 3, 1, 0, 0, 0),
  (37, .invokevirtual 51, 3, 12, 0, 490),
  (40, .ifCond .eq 5, 3, 0, 0, 0),
  (43, .iconst 1, 1, 0, 0, 0),
  (44, .ireturn, 1, 0, 0, 0),
  (45, .iinc 3 1, 3, 0, 0, 0),
  (48, .goto (-46), 3, 0, 0, 0),
  (51, .iconst 0, 1, 0, 0, 0),
  (52, .ireturn, 1, 0, 0, 0)
  ]
/-- X1_openClashesOf -/
def zp18 : List (Nat × zRow) := [
  (0, .iconst 0, 1, 0, 0, 0),
  (1, .istore_n 2, 1, 0, 0, 0),
  (2, .iconst 0, 1, 0, 0, 0),
  (3, .istore_n 3, 1, 0, 0, 0),
  (4, .iload_n 3, 1, 0, 0, 0),
  (5, .aload_n 0, 1, 0, 0, 0),
  (6, .getfield 33, 3, 1, 7, 141),
  (9, .if_icmp .ge 35, 3, 0, 0, 0),
  (12, .iload_n 3, 1, 0, 0, 0),
  (13, .iload_n 1, 1, 0, 0, 0),
  (14, .if_icmp .eq 24, 3, 0, 0, 0),
  (17, .aload_n 0, 1, 0, 0, 0),
  (18, .getfield 24, 3, 1, 4, 132),
  (21, .iload_n 3, 1, 0, 0, 0),
  (22, .iaload, 1, 0, 0, 0),
  (23, .ifCond .ne 15, 3, 0, 0, 0),
  (26, .aload_n 0, 1, 0, 0, 0),
  (27, .iload_n 1, 1, 0, 0, 0),
  (28, .iload_n 3, 1, 0, 0, 0),
  (29, .invokevirtual 51, 3, 12, 0, 490),
  (32, .ifCond .eq 6, 3, 0, 0, 0),
  (35, .iinc 2 1, 3, 0, 0, 0),
  (38, .iinc 3 1, 3, 0, 0, 0),
  (41, .goto (-37), 3, 0, 0, 0),
  (44, .iload_n 2, 1, 0, 0, 0),
  (45, .ireturn, 1, 0, 0, 0)
  ]
/-- X1_acceptOpen -/
def zp19 : List (Nat × zRow) := [
  (0, .aload_n 0, 1, 0, 0, 0),
  (1, .getfield 24, 3, 1, 4, 132),
  (4, .iload_n 1, 1, 0, 0, 0),
  (5, .iconst 1, 1, 0, 0, 0),
  (6, .iastore, 1, 0, 0, 0),
  (7, .iconst 0, 1, 0, 0, 0),
  (8, .istore_n 2, 1, 0, 0, 0),
  (9, .iconst 0, 1, 0, 0, 0),
  (10, .istore_n 3, 1, 0, 0, 0),
  (11, .iload_n 3, 1, 0, 0, 0),
  (12, .aload_n 0, 1, 0, 0, 0),
  (13, .getfield 33, 3, 1, 7, 141),
  (16, .if_icmp .ge 42, 3, 0, 0, 0),
  (19, .iload_n 3, 1, 0, 0, 0),
  (20, .iload_n 1, 1, 0, 0, 0),
  (21, .if_icmp .eq 31, 3, 0, 0, 0),
  (24, .aload_n 0, 1, 0, 0, 0),
  (25, .getfield 24, 3, 1, 4, 132),
  (28, .iload_n 3, 1, 0, 0, 0),
  (29, .iaload, 1, 0, 0, 0),
  (30, .ifCond .ne 22, 3, 0, 0, 0),
  (33, .aload_n 0, 1, 0, 0, 0),
  (34, .iload_n 1, 1, 0, 0, 0),
  (35, .iload_n 3, 1, 0, 0, 0),
  (36, .invokevirtual 51, 3, 12, 0, 490),
  (39, .ifCond .eq 13, 3, 0, 0, 0),
  (42, .aload_n 0, 1, 0, 0, 0),
  (43, .getfield 24, 3, 1, 4, 132),
  (46, .iload_n 3, 1, 0, 0, 0),
  (47, .iconst 2, 1, 0, 0, 0),
  (48, .iastore, 1, 0, 0, 0),
  (49, .iinc 2 1, 3, 0, 0, 0),
  (52, .iinc 3 1, 3, 0, 0, 0),
  (55, .goto (-44), 3, 0, 0, 0),
  (58, .iload_n 2, 1, 0, 0, 0),
  (59, .ireturn, 1, 0, 0, 0)
  ]
/-- X1_growthBy -/
def zp20 : List (Nat × zRow) := [
  (0, .aload_n 0, 1, 0, 0, 0),
  (1, .getfield 27, 3, 1, 5, 136),
  (4, .iload_n 1, 1, 0, 0, 0),
  (5, .iaload, 1, 0, 0, 0),
  (6, .aload_n 0, 1, 0, 0, 0),
  (7, .getfield 21, 3, 1, 3, 128),
  (10, .iload_n 1, 1, 0, 0, 0),
  (11, .iaload, 1, 0, 0, 0),
  (12, .aload_n 0, 1, 0, 0, 0),
  (13, .getfield 18, 3, 1, 2, 124),
  (16, .iload_n 1, 1, 0, 0, 0),
  (17, .iaload, 1, 0, 0, 0),
  (18, .isub, 1, 0, 0, 0),
  (19, .isub, 1, 0, 0, 0),
  (20, .ireturn, 1, 0, 0, 0)
  ]
/-- X1_growthByAccepted -/
def zp21 : List (Nat × zRow) := [
  (0, .iconst 0, 1, 0, 0, 0),
  (1, .istore_n 1, 1, 0, 0, 0),
  (2, .iconst 0, 1, 0, 0, 0),
  (3, .istore_n 2, 1, 0, 0, 0),
  (4, .iload_n 2, 1, 0, 0, 0),
  (5, .aload_n 0, 1, 0, 0, 0),
  (6, .getfield 33, 3, 1, 7, 141),
  (9, .if_icmp .ge 27, 3, 0, 0, 0),
  (12, .aload_n 0, 1, 0, 0, 0),
  (13, .getfield 24, 3, 1, 4, 132),
  (16, .iload_n 2, 1, 0, 0, 0),
  (17, .iaload, 1, 0, 0, 0),
  (18, .iconst 1, 1, 0, 0, 0),
  (19, .if_icmp .ne 11, 3, 0, 0, 0),
  (22, .iload_n 1, 1, 0, 0, 0),
  (23, .aload_n 0, 1, 0, 0, 0),
  (24, .iload_n 2, 1, 0, 0, 0),
  (25, .invokevirtual 55, 3, 20, 0, 502),
  (28, .iadd, 1, 0, 0, 0),
  (29, .istore_n 1, 1, 0, 0, 0),
  (30, .iinc 2 1, 3, 0, 0, 0),
  (33, .goto (-29), 3, 0, 0, 0),
  (36, .iload_n 1, 1, 0, 0, 0),
  (37, .ireturn, 1, 0, 0, 0)
  ]
/-- X1_quarrelsOf -/
def zp22 : List (Nat × zRow) := [
  (0, .iconst 0, 1, 0, 0, 0),
  (1, .istore_n 2, 1, 0, 0, 0),
  (2, .iconst 0, 1, 0, 0, 0),
  (3, .istore_n 3, 1, 0, 0, 0),
  (4, .iload_n 3, 1, 0, 0, 0),
  (5, .aload_n 0, 1, 0, 0, 0),
  (6, .getfield 33, 3, 1, 7, 141),
  (9, .if_icmp .ge 21, 3, 0, 0, 0),
  (12, .aload_n 0, 1, 0, 0, 0),
  (13, .iload_n 1, 1, 0, 0, 0),
  (14, .iload_n 3, 1, 0, 0, 0),
  (15, .invokevirtual 59, 3, 14, 0, 631),
  (18, .ifCond .eq 6, 3, 0, 0, 0),
  (21, .iinc 2 1, 3, 0, 0, 0),
  (24, .iinc 3 1, 3, 0, 0, 0),
  (27, .goto (-23), 3, 0, 0, 0),
  (30, .iload_n 2, 1, 0, 0, 0),
  (31, .ireturn, 1, 0, 0, 0)
  ]
/-- X1_quarrelsOfInk -/
def zp23 : List (Nat × zRow) := [
  (0, .iconst 0, 1, 0, 0, 0),
  (1, .istore_n 2, 1, 0, 0, 0),
  (2, .iconst 0, 1, 0, 0, 0),
  (3, .istore_n 3, 1, 0, 0, 0),
  (4, .iload_n 3, 1, 0, 0, 0),
  (5, .aload_n 0, 1, 0, 0, 0),
  (6, .getfield 33, 3, 1, 7, 141),
  (9, .if_icmp .ge 27, 3, 0, 0, 0),
  (12, .aload_n 0, 1, 0, 0, 0),
  (13, .getfield 9, 3, 1, 0, 116),
  (16, .iload_n 3, 1, 0, 0, 0),
  (17, .iaload, 1, 0, 0, 0),
  (18, .iload_n 1, 1, 0, 0, 0),
  (19, .if_icmp .ne 11, 3, 0, 0, 0),
  (22, .iload_n 2, 1, 0, 0, 0),
  (23, .aload_n 0, 1, 0, 0, 0),
  (24, .iload_n 3, 1, 0, 0, 0),
  (25, .invokevirtual 62, 3, 22, 0, 658),
  (28, .iadd, 1, 0, 0, 0),
  (29, .istore_n 2, 1, 0, 0, 0),
  (30, .iinc 3 1, 3, 0, 0, 0),
  (33, .goto (-29), 3, 0, 0, 0),
  (36, .iload_n 2, 1, 0, 0, 0),
  (37, .ireturn, 1, 0, 0, 0)
  ]
/-- X1_quarrels -/
def zp24 : List (Nat × zRow) := [
  (0, .iconst 0, 1, 0, 0, 0),
  (1, .istore_n 1, 1, 0, 0, 0),
  (2, .iconst 0, 1, 0, 0, 0),
  (3, .istore_n 2, 1, 0, 0, 0),
  (4, .iload_n 2, 1, 0, 0, 0),
  (5, .aload_n 0, 1, 0, 0, 0),
  (6, .getfield 33, 3, 1, 7, 141),
  (9, .if_icmp .ge 39, 3, 0, 0, 0),
  (12, .iload_n 2, 1, 0, 0, 0),
  (13, .iconst 1, 1, 0, 0, 0),
  (14, .iadd, 1, 0, 0, 0),
  (15, .istore_n 3, 1, 0, 0, 0),
  (16, .iload_n 3, 1, 0, 0, 0),
  (17, .aload_n 0, 1, 0, 0, 0),
  (18, .getfield 33, 3, 1, 7, 141),
  (21, .if_icmp .ge 21, 3, 0, 0, 0),
  (24, .aload_n 0, 1, 0, 0, 0),
  (25, .iload_n 2, 1, 0, 0, 0),
  (26, .iload_n 3, 1, 0, 0, 0),
  (27, .invokevirtual 59, 3, 14, 0, 631),
  (30, .ifCond .eq 6, 3, 0, 0, 0),
  (33, .iinc 1 1, 3, 0, 0, 0),
  (36, .iinc 3 1, 3, 0, 0, 0),
  (39, .goto (-23), 3, 0, 0, 0),
  (42, .iinc 2 1, 3, 0, 0, 0),
  (45, .goto (-41), 3, 0, 0, 0),
  (48, .iload_n 1, 1, 0, 0, 0),
  (49, .ireturn, 1, 0, 0, 0)
  ]
/-- X1_inState -/
def zp25 : List (Nat × zRow) := [
  (0, .iconst 0, 1, 0, 0, 0),
  (1, .istore_n 2, 1, 0, 0, 0),
  (2, .iconst 0, 1, 0, 0, 0),
  (3, .istore_n 3, 1, 0, 0, 0),
  (4, .iload_n 3, 1, 0, 0, 0),
  (5, .aload_n 0, 1, 0, 0, 0),
  (6, .getfield 33, 3, 1, 7, 141),
  (9, .if_icmp .ge 22, 3, 0, 0, 0),
  (12, .aload_n 0, 1, 0, 0, 0),
  (13, .getfield 24, 3, 1, 4, 132),
  (16, .iload_n 3, 1, 0, 0, 0),
  (17, .iaload, 1, 0, 0, 0),
  (18, .iload_n 1, 1, 0, 0, 0),
  (19, .if_icmp .ne 6, 3, 0, 0, 0),
  (22, .iinc 2 1, 3, 0, 0, 0),
  (25, .iinc 3 1, 3, 0, 0, 0),
  (28, .goto (-24), 3, 0, 0, 0),
  (31, .iload_n 2, 1, 0, 0, 0),
  (32, .ireturn, 1, 0, 0, 0)
  ]
/-- X1_inInk -/
def zp26 : List (Nat × zRow) := [
  (0, .iconst 0, 1, 0, 0, 0),
  (1, .istore_n 2, 1, 0, 0, 0),
  (2, .iconst 0, 1, 0, 0, 0),
  (3, .istore_n 3, 1, 0, 0, 0),
  (4, .iload_n 3, 1, 0, 0, 0),
  (5, .aload_n 0, 1, 0, 0, 0),
  (6, .getfield 33, 3, 1, 7, 141),
  (9, .if_icmp .ge 22, 3, 0, 0, 0),
  (12, .aload_n 0, 1, 0, 0, 0),
  (13, .getfield 9, 3, 1, 0, 116),
  (16, .iload_n 3, 1, 0, 0, 0),
  (17, .iaload, 1, 0, 0, 0),
  (18, .iload_n 1, 1, 0, 0, 0),
  (19, .if_icmp .ne 6, 3, 0, 0, 0),
  (22, .iinc 2 1, 3, 0, 0, 0),
  (25, .iinc 3 1, 3, 0, 0, 0),
  (28, .goto (-24), 3, 0, 0, 0),
  (31, .iload_n 2, 1, 0, 0, 0),
  (32, .ireturn, 1, 0, 0, 0)
  ]
/-- X1_inInkAndState -/
def zp27 : List (Nat × zRow) := [
  (0, .iconst 0, 1, 0, 0, 0),
  (1, .istore_n 3, 1, 0, 0, 0),
  (2, .iconst 0, 1, 0, 0, 0),
  (3, .istore 4, 2, 0, 0, 0),
  (5, .iload 4, 2, 0, 0, 0),
  (7, .aload_n 0, 1, 0, 0, 0),
  (8, .getfield 33, 3, 1, 7, 141),
  (11, .if_icmp .ge 34, 3, 0, 0, 0),
  (14, .aload_n 0, 1, 0, 0, 0),
  (15, .getfield 9, 3, 1, 0, 116),
  (18, .iload 4, 2, 0, 0, 0),
  (20, .iaload, 1, 0, 0, 0),
  (21, .iload_n 1, 1, 0, 0, 0),
  (22, .if_icmp .ne 17, 3, 0, 0, 0),
  (25, .aload_n 0, 1, 0, 0, 0),
  (26, .getfield 24, 3, 1, 4, 132),
  (29, .iload 4, 2, 0, 0, 0),
  (31, .iaload, 1, 0, 0, 0),
  (32, .iload_n 2, 1, 0, 0, 0),
  (33, .if_icmp .ne 6, 3, 0, 0, 0),
  (36, .iinc 3 1, 3, 0, 0, 0),
  (39, .iinc 4 1, 3, 0, 0, 0),
  (42, .goto (-37), 3, 0, 0, 0),
  (45, .iload_n 3, 1, 0, 0, 0),
  (46, .ireturn, 1, 0, 0, 0)
  ]
/-- X1_refusedSince -/
def zp28 : List (Nat × zRow) := [
  (0, .iconst 0, 1, 0, 0, 0),
  (1, .istore_n 3, 1, 0, 0, 0),
  (2, .iconst 0, 1, 0, 0, 0),
  (3, .istore 4, 2, 0, 0, 0),
  (5, .iload 4, 2, 0, 0, 0),
  (7, .aload_n 0, 1, 0, 0, 0),
  (8, .getfield 33, 3, 1, 7, 141),
  (11, .if_icmp .ge 49, 3, 0, 0, 0),
  (14, .iload 4, 2, 0, 0, 0),
  (16, .aload_n 1, 1, 0, 0, 0),
  (17, .arraylength, 1, 0, 0, 0),
  (18, .if_icmp .ge 42, 3, 0, 0, 0),
  (21, .aload_n 0, 1, 0, 0, 0),
  (22, .getfield 9, 3, 1, 0, 116),
  (25, .iload 4, 2, 0, 0, 0),
  (27, .iaload, 1, 0, 0, 0),
  (28, .iload_n 2, 1, 0, 0, 0),
  (29, .if_icmp .ne 25, 3, 0, 0, 0),
  (32, .aload_n 1, 1, 0, 0, 0),
  (33, .iload 4, 2, 0, 0, 0),
  (35, .iaload, 1, 0, 0, 0),
  (36, .iconst 2, 1, 0, 0, 0),
  (37, .if_icmp .eq 17, 3, 0, 0, 0),
  (40, .aload_n 0, 1, 0, 0, 0),
  (41, .getfield 24, 3, 1, 4, 132),
  (44, .iload 4, 2, 0, 0, 0),
  (46, .iaload, 1, 0, 0, 0),
  (47, .iconst 2, 1, 0, 0, 0),
  (48, .if_icmp .ne 6, 3, 0, 0, 0),
  (51, .iinc 3 1, 3, 0, 0, 0),
  (54, .iinc 4 1, 3, 0, 0, 0),
  (57, .goto (-52), 3, 0, 0, 0),
  (60, .iload_n 3, 1, 0, 0, 0),
  (61, .ireturn, 1, 0, 0, 0)
  ]
/-- X1_carryOver -/
def zp29 : List (Nat × zRow) := [
  (0, .iconst 0, 1, 0, 0, 0),
  (1, .istore_n 1, 1, 0, 0, 0),
  (2, .iload_n 1, 1, 0, 0, 0),
  (3, .aload_n 0, 1, 0, 0, 0),
  (4, .getfield 33, 3, 1, 7, 141),
  (7, .if_icmp .ge 23, 3, 0, 0, 0),
  (10, .aload_n 0, 1, 0, 0, 0),
  (11, .getfield 24, 3, 1, 4, 132),
  (14, .iload_n 1, 1, 0, 0, 0),
  (15, .iaload, 1, 0, 0, 0),
  (16, .ifCond .ne 8, 3, 0, 0, 0),
  (19, .aload_n 0, 1, 0, 0, 0),
  (20, .iload_n 1, 1, 0, 0, 0),
  (21, .invokevirtual 65, 3, 30, 0, 585),
  (24, .iinc 1 1, 3, 0, 0, 0),
  (27, .goto (-25), 3, 0, 0, 0),
  (30, .iconst 0, 1, 0, 0, 0),
  (31, .istore_n 1, 1, 0, 0, 0),
  (32, .iconst 0, 1, 0, 0, 0),
  (33, .istore_n 2, 1, 0, 0, 0),
  (34, .iload_n 2, 1, 0, 0, 0),
  (35, .aload_n 0, 1, 0, 0, 0),
  (36, .getfield 33, 3, 1, 7, 141),
  (39, .if_icmp .ge 37, 3, 0, 0, 0),
  (42, .aload_n 0, 1, 0, 0, 0),
  (43, .getfield 24, 3, 1, 4, 132),
  (46, .iload_n 2, 1, 0, 0, 0),
  (47, .iaload, 1, 0, 0, 0),
  (48, .ifCond .ne 22, 3, 0, 0, 0),
  (51, .aload_n 0, 1, 0, 0, 0),
  (52, .iload_n 2, 1, 0, 0, 0),
  (53, .iload_n 1, 1, 0, 0, 0),
  (54, .invokevirtual 69, 3, 31, 0, 598),
  (57, .ifCond .ne 13, 3, 0, 0, 0),
  (60, .aload_n 0, 1, 0, 0, 0),
  (61, .aload_n 0, 1, 0, 0, 0),
  (62, .iload_n 2, 1, 0, 0, 0),
  (63, .iload_n 1, 1, 0, 0, 0),
  (64, .invokevirtual 37, 3, 10, 0, 462),
  (67, .iinc 1 1, 3, 0, 0, 0),
  (70, .iinc 2 1, 3, 0, 0, 0),
  (73, .goto (-39), 3, 0, 0, 0),
  (76, .aload_n 0, 1, 0, 0, 0),
  (77, .iload_n 1, 1, 0, 0, 0),
  (78, .putfield 33, 3, 1, 7, 141),
  (81, .return_, 1, 0, 0, 0)
  ]
/-- X1_carryGaps -/
def zp30 : List (Nat × zRow) := [
  (0, .aload_n 0, 1, 0, 0, 0),
  (1, .iload_n 1, 1, 0, 0, 0),
  (2, .iconst 1, 1, 0, 0, 0),
  (3, .invokevirtual 72, 3, 16, 0, 589),
  (6, .ifCond .eq 11, 3, 0, 0, 0),
  (9, .aload_n 0, 1, 0, 0, 0),
  (10, .getfield 24, 3, 1, 4, 132),
  (13, .iload_n 1, 1, 0, 0, 0),
  (14, .iconst 2, 1, 0, 0, 0),
  (15, .iastore, 1, 0, 0, 0),
  (16, .return_, 1, 0, 0, 0),
  (17, .aload_n 0, 1, 0, 0, 0),
  (18, .aload_n 0, 1, 0, 0, 0),
  (19, .getfield 21, 3, 1, 3, 128),
  (22, .iload_n 1, 1, 0, 0, 0),
  (23, .iaload, 1, 0, 0, 0),
  (24, .invokevirtual 75, 3, 32, 0, 590),
  (27, .istore_n 2, 1, 0, 0, 0),
  (28, .aload_n 0, 1, 0, 0, 0),
  (29, .getfield 18, 3, 1, 2, 124),
  (32, .iload_n 1, 1, 0, 0, 0),
  (33, .aload_n 0, 1, 0, 0, 0),
  (34, .getfield 15, 3, 1, 1, 120),
  (37, .iload_n 1, 1, 0, 0, 0),
  (38, .iaload, 1, 0, 0, 0),
  (39, .iconst 1, 1, 0, 0, 0),
  (40, .if_icmp .ne 7, 3, 0, 0, 0),
  (43, .iload_n 2, 1, 0, 0, 0),
  (44, .goto 24, 3, 0, 0, 0),
  (47, .aload_n 0, 1, 0, 0, 0),
  (48, .aload_n 0, 1, 0, 0, 0),
  (49, .getfield 18, 3, 1, 2, 124),
  (52, .iload_n 1, 1, 0, 0, 0),
  (53, .iaload, 1, 0, 0, 0),
  (54, .invokevirtual 75, 3, 32, 0, 590),
  (57, .aload_n 0, 1, 0, 0, 0),
  (58, .aload_n 0, 1, 0, 0, 0),
  (59, .getfield 18, 3, 1, 2, 124),
  (62, .iload_n 1, 1, 0, 0, 0),
  (63, .iaload, 1, 0, 0, 0),
  (64, .invokevirtual 78, 3, 33, 0, 594),
  (67, .iadd, 1, 0, 0, 0),
  (68, .iastore, 1, 0, 0, 0),
  (69, .aload_n 0, 1, 0, 0, 0),
  (70, .getfield 21, 3, 1, 3, 128),
  (73, .iload_n 1, 1, 0, 0, 0),
  (74, .iload_n 2, 1, 0, 0, 0),
  (75, .iastore, 1, 0, 0, 0),
  (76, .return_, 1, 0, 0, 0)
  ]
/-- X1_isPutInTwice -/
def zp31 : List (Nat × zRow) := [
  (0, .iconst 0, 1, 0, 0, 0),
  (1, .istore_n 3, 1, 0, 0, 0),
  (2, .iload_n 3, 1, 0, 0, 0),
  (3, .iload_n 2, 1, 0, 0, 0),
  (4, .if_icmp .ge 61, 3, 0, 0, 0),
  (7, .aload_n 0, 1, 0, 0, 0),
  (8, .getfield 15, 3, 1, 1, 120),
  (11, .iload_n 1, 1, 0, 0, 0),
  (12, .iaload, 1, 0, 0, 0),
  (13, .iconst 1, 1, 0, 0, 0),
  (14, .if_icmp .ne 45, 3, 0, 0, 0),
  (17, .aload_n 0, 1, 0, 0, 0),
  (18, .getfield 15, 3, 1, 1, 120),
  (21, .iload_n 3, 1, 0, 0, 0),
  (22, .iaload, 1, 0, 0, 0),
  (23, .iconst 1, 1, 0, 0, 0),
  (24, .if_icmp .ne 35, 3, 0, 0, 0),
  (27, .aload_n 0, 1, 0, 0, 0),
  (28, .getfield 9, 3, 1, 0, 116),
  (31, .iload_n 3, 1, 0, 0, 0),
  (32, .iaload, 1, 0, 0, 0),
  (33, .aload_n 0, 1, 0, 0, 0),
  (34, .getfield 9, 3, 1, 0, 116),
  (37, .iload_n 1, 1, 0, 0, 0),
  (38, .iaload, 1, 0, 0, 0),
  (39, .if_icmp .ne 20, 3, 0, 0, 0),
  (42, .aload_n 0, 1, 0, 0, 0),
  (43, .getfield 18, 3, 1, 2, 124),
  (46, .iload_n 3, 1, 0, 0, 0),
  (47, .iaload, 1, 0, 0, 0),
  (48, .aload_n 0, 1, 0, 0, 0),
  (49, .getfield 18, 3, 1, 2, 124),
  (52, .iload_n 1, 1, 0, 0, 0),
  (53, .iaload, 1, 0, 0, 0),
  (54, .if_icmp .ne 5, 3, 0, 0, 0),
  (57, .iconst 1, 1, 0, 0, 0),
  (58, .ireturn, 1, 0, 0, 0),
  (59, .iinc 3 1, 3, 0, 0, 0),
  (62, .goto (-60), 3, 0, 0, 0),
  (65, .iconst 0, 1, 0, 0, 0),
  (66, .ireturn, 1, 0, 0, 0)
  ]
/-- X1_printedAhead -/
def zp32 : List (Nat × zRow) := [
  (0, .iload_n 1, 1, 0, 0, 0),
  (1, .istore_n 2, 1, 0, 0, 0),
  (2, .iconst 0, 1, 0, 0, 0),
  (3, .istore_n 3, 1, 0, 0, 0),
  (4, .iload_n 3, 1, 0, 0, 0),
  (5, .aload_n 0, 1, 0, 0, 0),
  (6, .getfield 33, 3, 1, 7, 141),
  (9, .if_icmp .ge 77, 3, 0, 0, 0),
  (12, .aload_n 0, 1, 0, 0, 0),
  (13, .getfield 15, 3, 1, 1, 120),
  (16, .iload_n 3, 1, 0, 0, 0),
  (17, .iaload, 1, 0, 0, 0),
  (18, .iconst 1, 1, 0, 0, 0),
  (19, .if_icmp .ne 21, 3, 0, 0, 0),
  (22, .aload_n 0, 1, 0, 0, 0),
  (23, .getfield 18, 3, 1, 2, 124),
  (26, .iload_n 3, 1, 0, 0, 0),
  (27, .iaload, 1, 0, 0, 0),
  (28, .iload_n 1, 1, 0, 0, 0),
  (29, .if_icmp .ge 7, 3, 0, 0, 0),
  (32, .iconst 1, 1, 0, 0, 0),
  (33, .goto 22, 3, 0, 0, 0),
  (36, .iconst 0, 1, 0, 0, 0),
  (37, .goto 18, 3, 0, 0, 0),
  (40, .aload_n 0, 1, 0, 0, 0),
  (41, .getfield 21, 3, 1, 3, 128),
  (44, .iload_n 3, 1, 0, 0, 0),
  (45, .iaload, 1, 0, 0, 0),
  (46, .iload_n 1, 1, 0, 0, 0),
  (47, .if_icmp .gt 7, 3, 0, 0, 0),
  (50, .iconst 1, 1, 0, 0, 0),
  (51, .goto 4, 3, 0, 0, 0),
  (54, .iconst 0, 1, 0, 0, 0),
  (55, .istore 4, 2, 0, 0, 0),
  (57, .aload_n 0, 1, 0, 0, 0),
  (58, .getfield 24, 3, 1, 4, 132),
  (61, .iload_n 3, 1, 0, 0, 0),
  (62, .iaload, 1, 0, 0, 0),
  (63, .iconst 1, 1, 0, 0, 0),
  (64, .if_icmp .ne 16, 3, 0, 0, 0),
  (67, .iload 4, 2, 0, 0, 0),
  (69, .ifCond .eq 11, 3, 0, 0, 0),
  (72, .iload_n 2, 1, 0, 0, 0),
  (73, .aload_n 0, 1, 0, 0, 0),
  (74, .iload_n 3, 1, 0, 0, 0),
  (75, .invokevirtual 55, 3, 20, 0, 502),
  (78, .iadd, 1, 0, 0, 0),
  (79, .istore_n 2, 1, 0, 0, 0),
  (80, .iinc 3 1, 3, 0, 0, 0),
  (83, .goto (-79), 3, 0, 0, 0),
  (86, .iload_n 2, 1, 0, 0, 0),
  (87, .ireturn, 1, 0, 0, 0)
  ]
/-- X1_printedAt -/
def zp33 : List (Nat × zRow) := [
  (0, .iconst 0, 1, 0, 0, 0),
  (1, .istore_n 2, 1, 0, 0, 0),
  (2, .iconst 0, 1, 0, 0, 0),
  (3, .istore_n 3, 1, 0, 0, 0),
  (4, .iload_n 3, 1, 0, 0, 0),
  (5, .aload_n 0, 1, 0, 0, 0),
  (6, .getfield 33, 3, 1, 7, 141),
  (9, .if_icmp .ge 48, 3, 0, 0, 0),
  (12, .aload_n 0, 1, 0, 0, 0),
  (13, .getfield 24, 3, 1, 4, 132),
  (16, .iload_n 3, 1, 0, 0, 0),
  (17, .iaload, 1, 0, 0, 0),
  (18, .iconst 1, 1, 0, 0, 0),
  (19, .if_icmp .ne 32, 3, 0, 0, 0),
  (22, .aload_n 0, 1, 0, 0, 0),
  (23, .getfield 15, 3, 1, 1, 120),
  (26, .iload_n 3, 1, 0, 0, 0),
  (27, .iaload, 1, 0, 0, 0),
  (28, .iconst 1, 1, 0, 0, 0),
  (29, .if_icmp .ne 22, 3, 0, 0, 0),
  (32, .aload_n 0, 1, 0, 0, 0),
  (33, .getfield 18, 3, 1, 2, 124),
  (36, .iload_n 3, 1, 0, 0, 0),
  (37, .iaload, 1, 0, 0, 0),
  (38, .iload_n 1, 1, 0, 0, 0),
  (39, .if_icmp .ne 12, 3, 0, 0, 0),
  (42, .iload_n 2, 1, 0, 0, 0),
  (43, .aload_n 0, 1, 0, 0, 0),
  (44, .getfield 27, 3, 1, 5, 136),
  (47, .iload_n 3, 1, 0, 0, 0),
  (48, .iaload, 1, 0, 0, 0),
  (49, .iadd, 1, 0, 0, 0),
  (50, .istore_n 2, 1, 0, 0, 0),
  (51, .iinc 3 1, 3, 0, 0, 0),
  (54, .goto (-50), 3, 0, 0, 0),
  (57, .iload_n 2, 1, 0, 0, 0),
  (58, .ireturn, 1, 0, 0, 0)
  ]
/-- X2_init -/
def zp34 : List (Nat × zRow) := [
  (0, .aload_n 0, 1, 0, 0, 0),
  (1, .invokespecial 3, 3, 1000, 0, 241),
  (4, .aload_n 0, 1, 0, 0, 0),
  (5, .bipush 60, 2, 0, 0, 0),
  (7, .newarray .int, 2, 0, 0, 0),
  (9, .putfield 9, 3, 2, 0, 242),
  (12, .return_, 1, 0, 0, 0)
  ]
/-- X2_clear -/
def zp35 : List (Nat × zRow) := [
  (0, .aload_n 0, 1, 0, 0, 0),
  (1, .iconst 0, 1, 0, 0, 0),
  (2, .putfield 15, 3, 2, 1, 243),
  (5, .return_, 1, 0, 0, 0)
  ]
/-- X2_at -/
def zp36 : List (Nat × zRow) := [
  (0, .iload_n 1, 1, 0, 0, 0),
  (1, .ifCond .lt 20, 3, 0, 0, 0),
  (4, .iload_n 1, 1, 0, 0, 0),
  (5, .aload_n 0, 1, 0, 0, 0),
  (6, .getfield 15, 3, 2, 1, 243),
  (9, .if_icmp .ge 12, 3, 0, 0, 0),
  (12, .aload_n 0, 1, 0, 0, 0),
  (13, .getfield 9, 3, 2, 0, 242),
  (16, .iload_n 1, 1, 0, 0, 0),
  (17, .iaload, 1, 0, 0, 0),
  (18, .goto 5, 3, 0, 0, 0),
  (21, .bipush (-6), 2, 0, 0, 0),
  (23, .ireturn, 1, 0, 0, 0)
  ]
/-- X2_hasLetterAt -/
def zp37 : List (Nat × zRow) := [
  (0, .aload_n 0, 1, 0, 0, 0),
  (1, .iload_n 1, 1, 0, 0, 0),
  (2, .invokevirtual 19, 3, 36, 0, 329),
  (5, .bipush 97, 2, 0, 0, 0),
  (7, .if_icmp .lt 17, 3, 0, 0, 0),
  (10, .aload_n 0, 1, 0, 0, 0),
  (11, .iload_n 1, 1, 0, 0, 0),
  (12, .invokevirtual 19, 3, 36, 0, 329),
  (15, .bipush 122, 2, 0, 0, 0),
  (17, .if_icmp .gt 7, 3, 0, 0, 0),
  (20, .iconst 1, 1, 0, 0, 0),
  (21, .goto 4, 3, 0, 0, 0),
  (24, .iconst 0, 1, 0, 0, 0),
  (25, .ireturn, 1, 0, 0, 0)
  ]
/-- X2_hasOnlyLetters -/
def zp38 : List (Nat × zRow) := [
  (0, .iconst 0, 1, 0, 0, 0),
  (1, .istore_n 1, 1, 0, 0, 0),
  (2, .iload_n 1, 1, 0, 0, 0),
  (3, .aload_n 0, 1, 0, 0, 0),
  (4, .getfield 15, 3, 2, 1, 243),
  (7, .if_icmp .ge 19, 3, 0, 0, 0),
  (10, .aload_n 0, 1, 0, 0, 0),
  (11, .iload_n 1, 1, 0, 0, 0),
  (12, .invokevirtual 23, 3, 37, 0, 325),
  (15, .ifCond .ne 5, 3, 0, 0, 0),
  (18, .iconst 0, 1, 0, 0, 0),
  (19, .ireturn, 1, 0, 0, 0),
  (20, .iinc 1 1, 3, 0, 0, 0),
  (23, .goto (-21), 3, 0, 0, 0),
  (26, .iconst 1, 1, 0, 0, 0),
  (27, .ireturn, 1, 0, 0, 0)
  ]
/-- X2_charactersIn -/
def zp39 : List (Nat × zRow) := [
  (0, .iconst 0, 1, 0, 0, 0),
  (1, .istore_n 2, 1, 0, 0, 0),
  (2, .lload_n 0, 1, 0, 0, 0),
  (3, .lstore_n 3, 1, 0, 0, 0),
  (4, .lload_n 3, 1, 0, 0, 0),
  (5, .lconst 0, 1, 0, 0, 0),
  (6, .lcmp, 1, 0, 0, 0),
  (7, .ifCond .eq 39, 3, 0, 0, 0),
  (10, .lload_n 3, 1, 0, 0, 0),
  (11, .ldc2_w 27, 3, 255, 0, 736),
  (14, .land, 1, 0, 0, 0),
  (15, .l2i, 1, 0, 0, 0),
  (16, .istore 5, 2, 0, 0, 0),
  (18, .iload 5, 2, 0, 0, 0),
  (20, .bipush 33, 2, 0, 0, 0),
  (22, .if_icmp .lt 10, 3, 0, 0, 0),
  (25, .iload 5, 2, 0, 0, 0),
  (27, .bipush 126, 2, 0, 0, 0),
  (29, .if_icmp .le 6, 3, 0, 0, 0),
  (32, .bipush (-6), 2, 0, 0, 0),
  (34, .ireturn, 1, 0, 0, 0),
  (35, .iinc 2 1, 3, 0, 0, 0),
  (38, .lload_n 3, 1, 0, 0, 0),
  (39, .bipush 8, 2, 0, 0, 0),
  (41, .lushr, 1, 0, 0, 0),
  (42, .lstore_n 3, 1, 0, 0, 0),
  (43, .goto (-39), 3, 0, 0, 0),
  (46, .iload_n 2, 1, 0, 0, 0),
  (47, .ifCond .ne 8, 3, 0, 0, 0),
  (50, .bipush (-6), 2, 0, 0, 0),
  (52, .goto 4, 3, 0, 0, 0),
  (55, .iload_n 2, 1, 0, 0, 0),
  (56, .ireturn, 1, 0, 0, 0)
  ]
/-- X2_append -/
def zp40 : List (Nat × zRow) := [
  (0, .iload_n 3, 1, 0, 0, 0),
  (1, .iconst 1, 1, 0, 0, 0),
  (2, .isub, 1, 0, 0, 0),
  (3, .istore 4, 2, 0, 0, 0),
  (5, .iload 4, 2, 0, 0, 0),
  (7, .ifCond .lt 49, 3, 0, 0, 0),
  (10, .aload_n 0, 1, 0, 0, 0),
  (11, .getfield 15, 3, 2, 1, 243),
  (14, .bipush 60, 2, 0, 0, 0),
  (16, .if_icmp .ge 34, 3, 0, 0, 0),
  (19, .aload_n 0, 1, 0, 0, 0),
  (20, .getfield 9, 3, 2, 0, 242),
  (23, .aload_n 0, 1, 0, 0, 0),
  (24, .getfield 15, 3, 2, 1, 243),
  (27, .lload_n 1, 1, 0, 0, 0),
  (28, .bipush 8, 2, 0, 0, 0),
  (30, .iload 4, 2, 0, 0, 0),
  (32, .imul, 1, 0, 0, 0),
  (33, .lushr, 1, 0, 0, 0),
  (34, .ldc2_w 27, 3, 255, 0, 736),
  (37, .land, 1, 0, 0, 0),
  (38, .l2i, 1, 0, 0, 0),
  (39, .iastore, 1, 0, 0, 0),
  (40, .aload_n 0, 1, 0, 0, 0),
  (41, .dup, 1, 0, 0, 0),
  (42, .getfield 15, 3, 2, 1, 243),
  (45, .iconst 1, 1, 0, 0, 0),
  (46, .iadd, 1, 0, 0, 0),
  (47, .putfield 15, 3, 2, 1, 243),
  (50, .iinc 4 (-1), 3, 0, 0, 0),
  (53, .goto (-48), 3, 0, 0, 0),
  (56, .return_, 1, 0, 0, 0)
  ]
/-- X3_init -/
def zp41 : List (Nat × zRow) := [
  (0, .aload_n 0, 1, 0, 0, 0),
  (1, .invokespecial 3, 3, 1000, 0, 257),
  (4, .aload_n 0, 1, 0, 0, 0),
  (5, .new 9, 3, 1, 0, 258),
  (8, .dup, 1, 0, 0, 0),
  (9, .invokespecial 11, 3, 3, 0, 259),
  (12, .putfield 12, 3, 3, 0, 260),
  (15, .return_, 1, 0, 0, 0)
  ]
/-- X3_read -/
def zp42 : List (Nat × zRow) := [
  (0, .aload_n 0, 1, 0, 0, 0),
  (1, .getfield 12, 3, 3, 0, 260),
  (4, .invokevirtual 18, 3, 4, 0, 402),
  (7, .aload_n 0, 1, 0, 0, 0),
  (8, .iconst 0, 1, 0, 0, 0),
  (9, .putfield 21, 3, 3, 1, 262),
  (12, .aload_n 0, 1, 0, 0, 0),
  (13, .aload_n 1, 1, 0, 0, 0),
  (14, .invokevirtual 25, 3, 43, 0, 403),
  (17, .istore_n 2, 1, 0, 0, 0),
  (18, .iconst 0, 1, 0, 0, 0),
  (19, .istore_n 3, 1, 0, 0, 0),
  (20, .iload_n 3, 1, 0, 0, 0),
  (21, .bipush 60, 2, 0, 0, 0),
  (23, .if_icmp .ge 48, 3, 0, 0, 0),
  (26, .iload_n 2, 1, 0, 0, 0),
  (27, .ifCond .eq 44, 3, 0, 0, 0),
  (30, .aload_n 0, 1, 0, 0, 0),
  (31, .getfield 21, 3, 3, 1, 262),
  (34, .aload_n 1, 1, 0, 0, 0),
  (35, .getfield 29, 3, 2, 1, 244),
  (38, .if_icmp .ge 33, 3, 0, 0, 0),
  (41, .aload_n 0, 1, 0, 0, 0),
  (42, .aload_n 1, 1, 0, 0, 0),
  (43, .bipush 44, 2, 0, 0, 0),
  (45, .invokevirtual 34, 3, 44, 0, 413),
  (48, .ifCond .eq 15, 3, 0, 0, 0),
  (51, .aload_n 0, 1, 0, 0, 0),
  (52, .aload_n 1, 1, 0, 0, 0),
  (53, .invokevirtual 25, 3, 43, 0, 403),
  (56, .ifCond .eq 7, 3, 0, 0, 0),
  (59, .iconst 1, 1, 0, 0, 0),
  (60, .goto 4, 3, 0, 0, 0),
  (63, .iconst 0, 1, 0, 0, 0),
  (64, .istore_n 2, 1, 0, 0, 0),
  (65, .iinc 3 1, 3, 0, 0, 0),
  (68, .goto (-48), 3, 0, 0, 0),
  (71, .iload_n 2, 1, 0, 0, 0),
  (72, .ifCond .eq 8, 3, 0, 0, 0),
  (75, .bipush (-6), 2, 0, 0, 0),
  (77, .goto 7, 3, 0, 0, 0),
  (80, .aload_n 0, 1, 0, 0, 0),
  (81, .getfield 21, 3, 3, 1, 262),
  (84, .ireturn, 1, 0, 0, 0)
  ]
/-- X3_readMark -/
def zp43 : List (Nat × zRow) := [
  (0, .aload_n 0, 1, 0, 0, 0),
  (1, .aload_n 1, 1, 0, 0, 0),
  (2, .invokevirtual 38, 3, 49, 0, 407),
  (5, .istore_n 2, 1, 0, 0, 0),
  (6, .iload_n 2, 1, 0, 0, 0),
  (7, .invokestatic 42, 3, 113, 0, 412),
  (10, .ifCond .ne 5, 3, 0, 0, 0),
  (13, .iconst 0, 1, 0, 0, 0),
  (14, .ireturn, 1, 0, 0, 0),
  (15, .aload_n 0, 1, 0, 0, 0),
  (16, .dup, 1, 0, 0, 0),
  (17, .getfield 21, 3, 3, 1, 262),
  (20, .iconst 1, 1, 0, 0, 0),
  (21, .iadd, 1, 0, 0, 0),
  (22, .putfield 21, 3, 3, 1, 262),
  (25, .aload_n 0, 1, 0, 0, 0),
  (26, .aload_n 1, 1, 0, 0, 0),
  (27, .bipush 45, 2, 0, 0, 0),
  (29, .invokevirtual 34, 3, 44, 0, 413),
  (32, .ifCond .eq 11, 3, 0, 0, 0),
  (35, .aload_n 0, 1, 0, 0, 0),
  (36, .aload_n 1, 1, 0, 0, 0),
  (37, .iload_n 2, 1, 0, 0, 0),
  (38, .iconst 0, 1, 0, 0, 0),
  (39, .invokevirtual 46, 3, 45, 0, 417),
  (42, .ireturn, 1, 0, 0, 0),
  (43, .aload_n 0, 1, 0, 0, 0),
  (44, .aload_n 1, 1, 0, 0, 0),
  (45, .bipush 61, 2, 0, 0, 0),
  (47, .invokevirtual 34, 3, 44, 0, 413),
  (50, .ifCond .eq 27, 3, 0, 0, 0),
  (53, .aload_n 0, 1, 0, 0, 0),
  (54, .aload_n 1, 1, 0, 0, 0),
  (55, .iload_n 2, 1, 0, 0, 0),
  (56, .iconst 2, 1, 0, 0, 0),
  (57, .invokevirtual 46, 3, 45, 0, 417),
  (60, .ifCond .eq 15, 3, 0, 0, 0),
  (63, .aload_n 0, 1, 0, 0, 0),
  (64, .aload_n 1, 1, 0, 0, 0),
  (65, .invokevirtual 50, 3, 48, 0, 429),
  (68, .ifCond .eq 7, 3, 0, 0, 0),
  (71, .iconst 1, 1, 0, 0, 0),
  (72, .goto 4, 3, 0, 0, 0),
  (75, .iconst 0, 1, 0, 0, 0),
  (76, .ireturn, 1, 0, 0, 0),
  (77, .aload_n 0, 1, 0, 0, 0),
  (78, .aload_n 1, 1, 0, 0, 0),
  (79, .bipush 43, 2, 0, 0, 0),
  (81, .invokevirtual 34, 3, 44, 0, 413),
  (84, .ifCond .eq 24, 3, 0, 0, 0),
  (87, .aload_n 0, 1, 0, 0, 0),
  (88, .aload_n 1, 1, 0, 0, 0),
  (89, .iload_n 2, 1, 0, 0, 0),
  (90, .invokevirtual 53, 3, 46, 0, 438),
  (93, .ifCond .eq 15, 3, 0, 0, 0),
  (96, .aload_n 0, 1, 0, 0, 0),
  (97, .aload_n 1, 1, 0, 0, 0),
  (98, .invokevirtual 50, 3, 48, 0, 429),
  (101, .ifCond .eq 7, 3, 0, 0, 0),
  (104, .iconst 1, 1, 0, 0, 0),
  (105, .goto 4, 3, 0, 0, 0),
  (108, .iconst 0, 1, 0, 0, 0),
  (109, .ireturn, 1, 0, 0, 0)
  ]
/-- X3_readSign -/
def zp44 : List (Nat × zRow) := [
  (0, .aload_n 1, 1, 0, 0, 0),
  (1, .aload_n 0, 1, 0, 0, 0),
  (2, .getfield 21, 3, 3, 1, 262),
  (5, .invokevirtual 57, 3, 36, 0, 411),
  (8, .iload_n 2, 1, 0, 0, 0),
  (9, .if_icmp .eq 5, 3, 0, 0, 0),
  (12, .iconst 0, 1, 0, 0, 0),
  (13, .ireturn, 1, 0, 0, 0),
  (14, .aload_n 0, 1, 0, 0, 0),
  (15, .dup, 1, 0, 0, 0),
  (16, .getfield 21, 3, 3, 1, 262),
  (19, .iconst 1, 1, 0, 0, 0),
  (20, .iadd, 1, 0, 0, 0),
  (21, .putfield 21, 3, 3, 1, 262),
  (24, .iconst 1, 1, 0, 0, 0),
  (25, .ireturn, 1, 0, 0, 0)
  ]
/-- X3_readGaps -/
def zp45 : List (Nat × zRow) := [
  (0, .aload_n 0, 1, 0, 0, 0),
  (1, .aload_n 1, 1, 0, 0, 0),
  (2, .invokevirtual 61, 3, 47, 0, 421),
  (5, .istore 4, 2, 0, 0, 0),
  (7, .iload 4, 2, 0, 0, 0),
  (9, .bipush (-6), 2, 0, 0, 0),
  (11, .if_icmp .eq 13, 3, 0, 0, 0),
  (14, .aload_n 0, 1, 0, 0, 0),
  (15, .aload_n 1, 1, 0, 0, 0),
  (16, .bipush 58, 2, 0, 0, 0),
  (18, .invokevirtual 34, 3, 44, 0, 413),
  (21, .ifCond .ne 5, 3, 0, 0, 0),
  (24, .iconst 0, 1, 0, 0, 0),
  (25, .ireturn, 1, 0, 0, 0),
  (26, .aload_n 0, 1, 0, 0, 0),
  (27, .aload_n 1, 1, 0, 0, 0),
  (28, .invokevirtual 61, 3, 47, 0, 421),
  (31, .istore 5, 2, 0, 0, 0),
  (33, .iload 5, 2, 0, 0, 0),
  (35, .bipush (-6), 2, 0, 0, 0),
  (37, .if_icmp .ne 5, 3, 0, 0, 0),
  (40, .iconst 0, 1, 0, 0, 0),
  (41, .ireturn, 1, 0, 0, 0),
  (42, .aload_n 0, 1, 0, 0, 0),
  (43, .getfield 12, 3, 3, 0, 260),
  (46, .iload_n 2, 1, 0, 0, 0),
  (47, .iload_n 3, 1, 0, 0, 0),
  (48, .iload 4, 2, 0, 0, 0),
  (50, .iload 5, 2, 0, 0, 0),
  (52, .invokevirtual 64, 3, 6, 0, 425),
  (55, .iconst 1, 1, 0, 0, 0),
  (56, .ireturn, 1, 0, 0, 0)
  ]
/-- X3_readOneGap -/
def zp46 : List (Nat × zRow) := [
  (0, .aload_n 0, 1, 0, 0, 0),
  (1, .aload_n 1, 1, 0, 0, 0),
  (2, .invokevirtual 61, 3, 47, 0, 421),
  (5, .istore_n 3, 1, 0, 0, 0),
  (6, .iload_n 3, 1, 0, 0, 0),
  (7, .bipush (-6), 2, 0, 0, 0),
  (9, .if_icmp .ne 5, 3, 0, 0, 0),
  (12, .iconst 0, 1, 0, 0, 0),
  (13, .ireturn, 1, 0, 0, 0),
  (14, .aload_n 0, 1, 0, 0, 0),
  (15, .getfield 12, 3, 3, 0, 260),
  (18, .iload_n 2, 1, 0, 0, 0),
  (19, .iconst 1, 1, 0, 0, 0),
  (20, .iload_n 3, 1, 0, 0, 0),
  (21, .iload_n 3, 1, 0, 0, 0),
  (22, .invokevirtual 64, 3, 6, 0, 425),
  (25, .iconst 1, 1, 0, 0, 0),
  (26, .ireturn, 1, 0, 0, 0)
  ]
/-- X3_readGap -/
def zp47 : List (Nat × zRow) := [
  (0, .aload_n 0, 1, 0, 0, 0),
  (1, .aload_n 1, 1, 0, 0, 0),
  (2, .invokevirtual 38, 3, 49, 0, 407),
  (5, .istore_n 2, 1, 0, 0, 0),
  (6, .iload_n 2, 1, 0, 0, 0),
  (7, .bipush (-6), 2, 0, 0, 0),
  (9, .if_icmp .ne 6, 3, 0, 0, 0),
  (12, .bipush (-6), 2, 0, 0, 0),
  (14, .ireturn, 1, 0, 0, 0),
  (15, .aload_n 0, 1, 0, 0, 0),
  (16, .dup, 1, 0, 0, 0),
  (17, .getfield 21, 3, 3, 1, 262),
  (20, .iconst 1, 1, 0, 0, 0),
  (21, .iadd, 1, 0, 0, 0),
  (22, .putfield 21, 3, 3, 1, 262),
  (25, .aload_n 0, 1, 0, 0, 0),
  (26, .aload_n 1, 1, 0, 0, 0),
  (27, .invokevirtual 38, 3, 49, 0, 407),
  (30, .istore_n 3, 1, 0, 0, 0),
  (31, .iload_n 2, 1, 0, 0, 0),
  (32, .ifCond .eq 20, 3, 0, 0, 0),
  (35, .iload_n 3, 1, 0, 0, 0),
  (36, .bipush (-6), 2, 0, 0, 0),
  (38, .if_icmp .eq 14, 3, 0, 0, 0),
  (41, .iload_n 2, 1, 0, 0, 0),
  (42, .bipush 10, 2, 0, 0, 0),
  (44, .imul, 1, 0, 0, 0),
  (45, .iload_n 3, 1, 0, 0, 0),
  (46, .iadd, 1, 0, 0, 0),
  (47, .bipush 60, 2, 0, 0, 0),
  (49, .if_icmp .le 5, 3, 0, 0, 0),
  (52, .iload_n 2, 1, 0, 0, 0),
  (53, .ireturn, 1, 0, 0, 0),
  (54, .aload_n 0, 1, 0, 0, 0),
  (55, .dup, 1, 0, 0, 0),
  (56, .getfield 21, 3, 3, 1, 262),
  (59, .iconst 1, 1, 0, 0, 0),
  (60, .iadd, 1, 0, 0, 0),
  (61, .putfield 21, 3, 3, 1, 262),
  (64, .iload_n 2, 1, 0, 0, 0),
  (65, .bipush 10, 2, 0, 0, 0),
  (67, .imul, 1, 0, 0, 0),
  (68, .iload_n 3, 1, 0, 0, 0),
  (69, .iadd, 1, 0, 0, 0),
  (70, .ireturn, 1, 0, 0, 0)
  ]
/-- X3_readLetters -/
def zp48 : List (Nat × zRow) := [
  (0, .iconst 0, 1, 0, 0, 0),
  (1, .istore_n 2, 1, 0, 0, 0),
  (2, .iload_n 2, 1, 0, 0, 0),
  (3, .bipush 6, 2, 0, 0, 0),
  (5, .if_icmp .ge 48, 3, 0, 0, 0),
  (8, .aload_n 1, 1, 0, 0, 0),
  (9, .aload_n 0, 1, 0, 0, 0),
  (10, .getfield 21, 3, 3, 1, 262),
  (13, .invokevirtual 68, 3, 37, 0, 433),
  (16, .ifCond .eq 37, 3, 0, 0, 0),
  (19, .aload_n 0, 1, 0, 0, 0),
  (20, .getfield 12, 3, 3, 0, 260),
  (23, .aload_n 1, 1, 0, 0, 0),
  (24, .aload_n 0, 1, 0, 0, 0),
  (25, .getfield 21, 3, 3, 1, 262),
  (28, .invokevirtual 57, 3, 36, 0, 411),
  (31, .bipush 97, 2, 0, 0, 0),
  (33, .isub, 1, 0, 0, 0),
  (34, .invokevirtual 71, 3, 7, 0, 434),
  (37, .aload_n 0, 1, 0, 0, 0),
  (38, .dup, 1, 0, 0, 0),
  (39, .getfield 21, 3, 3, 1, 262),
  (42, .iconst 1, 1, 0, 0, 0),
  (43, .iadd, 1, 0, 0, 0),
  (44, .putfield 21, 3, 3, 1, 262),
  (47, .iinc 2 1, 3, 0, 0, 0),
  (50, .goto (-48), 3, 0, 0, 0),
  (53, .iload_n 2, 1, 0, 0, 0),
  (54, .ifCond .le 7, 3, 0, 0, 0),
  (57, .iconst 1, 1, 0, 0, 0),
  (58, .goto 4, 3, 0, 0, 0),
  (61, .iconst 0, 1, 0, 0, 0),
  (62, .ireturn, 1, 0, 0, 0)
  ]
/-- X3_digitHere -/
def zp49 : List (Nat × zRow) := [
  (0, .aload_n 1, 1, 0, 0, 0),
  (1, .aload_n 0, 1, 0, 0, 0),
  (2, .getfield 21, 3, 3, 1, 262),
  (5, .invokevirtual 57, 3, 36, 0, 411),
  (8, .istore_n 2, 1, 0, 0, 0),
  (9, .iload_n 2, 1, 0, 0, 0),
  (10, .bipush 48, 2, 0, 0, 0),
  (12, .if_icmp .lt 16, 3, 0, 0, 0),
  (15, .iload_n 2, 1, 0, 0, 0),
  (16, .bipush 57, 2, 0, 0, 0),
  (18, .if_icmp .gt 10, 3, 0, 0, 0),
  (21, .iload_n 2, 1, 0, 0, 0),
  (22, .bipush 48, 2, 0, 0, 0),
  (24, .isub, 1, 0, 0, 0),
  (25, .goto 5, 3, 0, 0, 0),
  (28, .bipush (-6), 2, 0, 0, 0),
  (30, .ireturn, 1, 0, 0, 0)
  ]
/-- X4_init -/
def zp50 : List (Nat × zRow) := [
  (0, .aload_n 0, 1, 0, 0, 0),
  (1, .invokespecial 3, 3, 1000, 0, 89),
  (4, .aload_n 0, 1, 0, 0, 0),
  (5, .new 9, 3, 6, 0, 90),
  (8, .dup, 1, 0, 0, 0),
  (9, .invokespecial 11, 3, 64, 0, 92),
  (12, .putfield 12, 3, 4, 0, 179),
  (15, .aload_n 0, 1, 0, 0, 0),
  (16, .new 18, 3, 1, 0, 110),
  (19, .dup, 1, 0, 0, 0),
  (20, .invokespecial 20, 3, 3, 0, 112),
  (23, .putfield 21, 3, 4, 1, 182),
  (26, .aload_n 0, 1, 0, 0, 0),
  (27, .new 25, 3, 7, 0, 162),
  (30, .dup, 1, 0, 0, 0),
  (31, .invokespecial 27, 3, 69, 0, 164),
  (34, .putfield 28, 3, 4, 2, 185),
  (37, .aload_n 0, 1, 0, 0, 0),
  (38, .iconst 5, 1, 0, 0, 0),
  (39, .newarray .int, 2, 0, 0, 0),
  (41, .dup, 1, 0, 0, 0),
  (42, .iconst 0, 1, 0, 0, 0),
  (43, .iconst 0, 1, 0, 0, 0),
  (44, .iastore, 1, 0, 0, 0),
  (45, .dup, 1, 0, 0, 0),
  (46, .iconst 1, 1, 0, 0, 0),
  (47, .iconst 1, 1, 0, 0, 0),
  (48, .iastore, 1, 0, 0, 0),
  (49, .dup, 1, 0, 0, 0),
  (50, .iconst 2, 1, 0, 0, 0),
  (51, .iconst 2, 1, 0, 0, 0),
  (52, .iastore, 1, 0, 0, 0),
  (53, .dup, 1, 0, 0, 0),
  (54, .iconst 3, 1, 0, 0, 0),
  (55, .iconst 3, 1, 0, 0, 0),
  (56, .iastore, 1, 0, 0, 0),
  (57, .dup, 1, 0, 0, 0),
  (58, .iconst 4, 1, 0, 0, 0),
  (59, .iconst 4, 1, 0, 0, 0),
  (60, .iastore, 1, 0, 0, 0),
  (61, .putfield 32, 3, 4, 3, 187),
  (64, .return_, 1, 0, 0, 0)
  ]
/-- X4_takeOver -/
def zp51 : List (Nat × zRow) := [
  (0, .aload_n 0, 1, 0, 0, 0),
  (1, .getfield 12, 3, 4, 0, 179),
  (4, .aload_n 1, 1, 0, 0, 0),
  (5, .getfield 12, 3, 4, 0, 179),
  (8, .invokevirtual 36, 3, 68, 0, 341),
  (11, .aload_n 0, 1, 0, 0, 0),
  (12, .getfield 21, 3, 4, 1, 182),
  (15, .aload_n 1, 1, 0, 0, 0),
  (16, .getfield 21, 3, 4, 1, 182),
  (19, .invokevirtual 40, 3, 11, 0, 348),
  (22, .aload_n 0, 1, 0, 0, 0),
  (23, .getfield 28, 3, 4, 2, 185),
  (26, .aload_n 1, 1, 0, 0, 0),
  (27, .getfield 28, 3, 4, 2, 185),
  (30, .invokevirtual 43, 3, 78, 0, 353),
  (33, .aload_n 1, 1, 0, 0, 0),
  (34, .getfield 32, 3, 4, 3, 187),
  (37, .iconst 0, 1, 0, 0, 0),
  (38, .aload_n 0, 1, 0, 0, 0),
  (39, .getfield 32, 3, 4, 3, 187),
  (42, .iconst 0, 1, 0, 0, 0),
  (43, .iconst 5, 1, 0, 0, 0),
  (44, .invokestatic 46, 3, 1001, 0, 358),
  (47, .return_, 1, 0, 0, 0)
  ]
/-- X4_startWith -/
def zp52 : List (Nat × zRow) := [
  (0, .aload_n 0, 1, 0, 0, 0),
  (1, .getfield 12, 3, 4, 0, 179),
  (4, .invokevirtual 52, 3, 65, 0, 366),
  (7, .iconst 0, 1, 0, 0, 0),
  (8, .istore_n 2, 1, 0, 0, 0),
  (9, .iload_n 2, 1, 0, 0, 0),
  (10, .aload_n 1, 1, 0, 0, 0),
  (11, .getfield 55, 3, 2, 1, 245),
  (14, .if_icmp .ge 24, 3, 0, 0, 0),
  (17, .aload_n 0, 1, 0, 0, 0),
  (18, .getfield 12, 3, 4, 0, 179),
  (21, .aload_n 1, 1, 0, 0, 0),
  (22, .iload_n 2, 1, 0, 0, 0),
  (23, .invokevirtual 61, 3, 36, 0, 370),
  (26, .bipush 97, 2, 0, 0, 0),
  (28, .isub, 1, 0, 0, 0),
  (29, .invokevirtual 65, 3, 66, 0, 371),
  (32, .iinc 2 1, 3, 0, 0, 0),
  (35, .goto (-26), 3, 0, 0, 0),
  (38, .aload_n 0, 1, 0, 0, 0),
  (39, .getfield 21, 3, 4, 1, 182),
  (42, .invokevirtual 69, 3, 4, 0, 375),
  (45, .aload_n 0, 1, 0, 0, 0),
  (46, .getfield 28, 3, 4, 2, 185),
  (49, .invokevirtual 70, 3, 70, 0, 379),
  (52, .return_, 1, 0, 0, 0)
  ]
/-- X4_hasGap -/
def zp53 : List (Nat × zRow) := [
  (0, .iload_n 1, 1, 0, 0, 0),
  (1, .ifCond .lt 18, 3, 0, 0, 0),
  (4, .iload_n 1, 1, 0, 0, 0),
  (5, .aload_n 0, 1, 0, 0, 0),
  (6, .getfield 12, 3, 4, 0, 179),
  (9, .getfield 71, 3, 6, 1, 101),
  (12, .if_icmp .gt 7, 3, 0, 0, 0),
  (15, .iconst 1, 1, 0, 0, 0),
  (16, .goto 4, 3, 0, 0, 0),
  (19, .iconst 0, 1, 0, 0, 0),
  (20, .ireturn, 1, 0, 0, 0)
  ]
/-- X4_canTake -/
def zp54 : List (Nat × zRow) := [
  (0, .aload_n 1, 1, 0, 0, 0),
  (1, .getfield 72, 3, 1, 2, 125),
  (4, .iload_n 2, 1, 0, 0, 0),
  (5, .iaload, 1, 0, 0, 0),
  (6, .istore_n 3, 1, 0, 0, 0),
  (7, .aload_n 1, 1, 0, 0, 0),
  (8, .getfield 75, 3, 1, 3, 129),
  (11, .iload_n 2, 1, 0, 0, 0),
  (12, .iaload, 1, 0, 0, 0),
  (13, .istore 4, 2, 0, 0, 0),
  (15, .aload_n 1, 1, 0, 0, 0),
  (16, .getfield 78, 3, 1, 1, 121),
  (19, .iload_n 2, 1, 0, 0, 0),
  (20, .iaload, 1, 0, 0, 0),
  (21, .iconst 1, 1, 0, 0, 0),
  (22, .if_icmp .ne 17, 3, 0, 0, 0),
  (25, .iload_n 3, 1, 0, 0, 0),
  (26, .iload 4, 2, 0, 0, 0),
  (28, .if_icmp .ne 7, 3, 0, 0, 0),
  (31, .iconst 1, 1, 0, 0, 0),
  (32, .goto 18, 3, 0, 0, 0),
  (35, .iconst 0, 1, 0, 0, 0),
  (36, .goto 14, 3, 0, 0, 0),
  (39, .iload_n 3, 1, 0, 0, 0),
  (40, .iload 4, 2, 0, 0, 0),
  (42, .if_icmp .ge 7, 3, 0, 0, 0),
  (45, .iconst 1, 1, 0, 0, 0),
  (46, .goto 4, 3, 0, 0, 0),
  (49, .iconst 0, 1, 0, 0, 0),
  (50, .istore 5, 2, 0, 0, 0),
  (52, .aload_n 0, 1, 0, 0, 0),
  (53, .iload_n 3, 1, 0, 0, 0),
  (54, .invokevirtual 81, 3, 53, 0, 446),
  (57, .ifCond .eq 45, 3, 0, 0, 0),
  (60, .aload_n 0, 1, 0, 0, 0),
  (61, .iload 4, 2, 0, 0, 0),
  (63, .invokevirtual 81, 3, 53, 0, 446),
  (66, .ifCond .eq 36, 3, 0, 0, 0),
  (69, .iload 5, 2, 0, 0, 0),
  (71, .ifCond .eq 31, 3, 0, 0, 0),
  (74, .aload_n 0, 1, 0, 0, 0),
  (75, .getfield 21, 3, 4, 1, 182),
  (78, .getfield 85, 3, 1, 7, 144),
  (81, .bipush 20, 2, 0, 0, 0),
  (83, .if_icmp .ge 19, 3, 0, 0, 0),
  (86, .aload_n 0, 1, 0, 0, 0),
  (87, .getfield 21, 3, 4, 1, 182),
  (90, .aload_n 1, 1, 0, 0, 0),
  (91, .iload_n 2, 1, 0, 0, 0),
  (92, .invokevirtual 88, 3, 15, 0, 450),
  (95, .ifCond .ne 7, 3, 0, 0, 0),
  (98, .iconst 1, 1, 0, 0, 0),
  (99, .goto 4, 3, 0, 0, 0),
  (102, .iconst 0, 1, 0, 0, 0),
  (103, .ireturn, 1, 0, 0, 0)
  ]
/-- X4_printLength -/
def zp55 : List (Nat × zRow) := [
  (0, .aload_n 0, 1, 0, 0, 0),
  (1, .getfield 12, 3, 4, 0, 179),
  (4, .getfield 71, 3, 6, 1, 101),
  (7, .aload_n 0, 1, 0, 0, 0),
  (8, .getfield 21, 3, 4, 1, 182),
  (11, .invokevirtual 92, 3, 21, 0, 498),
  (14, .iadd, 1, 0, 0, 0),
  (15, .ireturn, 1, 0, 0, 0)
  ]
/-- X4_printLengthWithout -/
def zp56 : List (Nat × zRow) := [
  (0, .aload_n 0, 1, 0, 0, 0),
  (1, .getfield 21, 3, 4, 1, 182),
  (4, .getfield 96, 3, 1, 4, 134),
  (7, .iload_n 1, 1, 0, 0, 0),
  (8, .iaload, 1, 0, 0, 0),
  (9, .iconst 1, 1, 0, 0, 0),
  (10, .if_icmp .ne 19, 3, 0, 0, 0),
  (13, .aload_n 0, 1, 0, 0, 0),
  (14, .invokevirtual 99, 3, 55, 0, 494),
  (17, .aload_n 0, 1, 0, 0, 0),
  (18, .getfield 21, 3, 4, 1, 182),
  (21, .iload_n 1, 1, 0, 0, 0),
  (22, .invokevirtual 102, 3, 20, 0, 506),
  (25, .isub, 1, 0, 0, 0),
  (26, .goto 7, 3, 0, 0, 0),
  (29, .aload_n 0, 1, 0, 0, 0),
  (30, .invokevirtual 99, 3, 55, 0, 494),
  (33, .ireturn, 1, 0, 0, 0)
  ]
/-- X4_canAccept -/
def zp57 : List (Nat × zRow) := [
  (0, .aload_n 0, 1, 0, 0, 0),
  (1, .getfield 21, 3, 4, 1, 182),
  (4, .getfield 96, 3, 1, 4, 134),
  (7, .iload_n 1, 1, 0, 0, 0),
  (8, .iaload, 1, 0, 0, 0),
  (9, .ifCond .ne 37, 3, 0, 0, 0),
  (12, .aload_n 0, 1, 0, 0, 0),
  (13, .getfield 21, 3, 4, 1, 182),
  (16, .iload_n 1, 1, 0, 0, 0),
  (17, .iconst 1, 1, 0, 0, 0),
  (18, .invokevirtual 105, 3, 16, 0, 486),
  (21, .ifCond .ne 25, 3, 0, 0, 0),
  (24, .aload_n 0, 1, 0, 0, 0),
  (25, .invokevirtual 99, 3, 55, 0, 494),
  (28, .aload_n 0, 1, 0, 0, 0),
  (29, .getfield 21, 3, 4, 1, 182),
  (32, .iload_n 1, 1, 0, 0, 0),
  (33, .invokevirtual 102, 3, 20, 0, 506),
  (36, .iadd, 1, 0, 0, 0),
  (37, .bipush 60, 2, 0, 0, 0),
  (39, .if_icmp .gt 7, 3, 0, 0, 0),
  (42, .iconst 1, 1, 0, 0, 0),
  (43, .goto 4, 3, 0, 0, 0),
  (46, .iconst 0, 1, 0, 0, 0),
  (47, .ireturn, 1, 0, 0, 0)
  ]
/-- X4_judgeByRank -/
def zp58 : List (Nat × zRow) := [
  (0, .iconst 0, 1, 0, 0, 0),
  (1, .istore_n 1, 1, 0, 0, 0),
  (2, .bipush 9, 2, 0, 0, 0),
  (4, .istore_n 2, 1, 0, 0, 0),
  (5, .iload_n 2, 1, 0, 0, 0),
  (6, .ifCond .lt 69, 3, 0, 0, 0),
  (9, .iconst 0, 1, 0, 0, 0),
  (10, .istore_n 3, 1, 0, 0, 0),
  (11, .iload_n 3, 1, 0, 0, 0),
  (12, .aload_n 0, 1, 0, 0, 0),
  (13, .getfield 21, 3, 4, 1, 182),
  (16, .getfield 85, 3, 1, 7, 144),
  (19, .if_icmp .ge 50, 3, 0, 0, 0),
  (22, .aload_n 0, 1, 0, 0, 0),
  (23, .getfield 21, 3, 4, 1, 182),
  (26, .getfield 96, 3, 1, 4, 134),
  (29, .iload_n 3, 1, 0, 0, 0),
  (30, .iaload, 1, 0, 0, 0),
  (31, .ifCond .ne 32, 3, 0, 0, 0),
  (34, .aload_n 0, 1, 0, 0, 0),
  (35, .getfield 32, 3, 4, 3, 187),
  (38, .aload_n 0, 1, 0, 0, 0),
  (39, .getfield 21, 3, 4, 1, 182),
  (42, .getfield 109, 3, 1, 0, 118),
  (45, .iload_n 3, 1, 0, 0, 0),
  (46, .iaload, 1, 0, 0, 0),
  (47, .iaload, 1, 0, 0, 0),
  (48, .iload_n 2, 1, 0, 0, 0),
  (49, .if_icmp .ne 14, 3, 0, 0, 0),
  (52, .aload_n 0, 1, 0, 0, 0),
  (53, .iload_n 3, 1, 0, 0, 0),
  (54, .invokevirtual 112, 3, 59, 0, 539),
  (57, .ifCond .eq 6, 3, 0, 0, 0),
  (60, .iinc 1 1, 3, 0, 0, 0),
  (63, .iinc 3 1, 3, 0, 0, 0),
  (66, .goto (-55), 3, 0, 0, 0),
  (69, .iinc 2 (-1), 3, 0, 0, 0),
  (72, .goto (-67), 3, 0, 0, 0),
  (75, .iload_n 1, 1, 0, 0, 0),
  (76, .ireturn, 1, 0, 0, 0)
  ]
/-- X4_isAcceptedByVerdict -/
def zp59 : List (Nat × zRow) := [
  (0, .aload_n 0, 1, 0, 0, 0),
  (1, .iload_n 1, 1, 0, 0, 0),
  (2, .invokevirtual 115, 3, 57, 0, 543),
  (5, .ifCond .eq 14, 3, 0, 0, 0),
  (8, .aload_n 0, 1, 0, 0, 0),
  (9, .getfield 21, 3, 4, 1, 182),
  (12, .iload_n 1, 1, 0, 0, 0),
  (13, .invokevirtual 118, 3, 19, 0, 544),
  (16, .pop, 1, 0, 0, 0),
  (17, .iconst 1, 1, 0, 0, 0),
  (18, .ireturn, 1, 0, 0, 0),
  (19, .aload_n 0, 1, 0, 0, 0),
  (20, .getfield 21, 3, 4, 1, 182),
  (23, .getfield 96, 3, 1, 4, 134),
  (26, .iload_n 1, 1, 0, 0, 0),
  (27, .iconst 2, 1, 0, 0, 0),
  (28, .iastore, 1, 0, 0, 0),
  (29, .iconst 0, 1, 0, 0, 0),
  (30, .ireturn, 1, 0, 0, 0)
  ]
/-- X4_shipAs -/
def zp60 : List (Nat × zRow) := [
  (0, .aload_n 0, 1, 0, 0, 0),
  (1, .getfield 12, 3, 4, 0, 179),
  (4, .invokevirtual 52, 3, 65, 0, 366),
  (7, .iconst 0, 1, 0, 0, 0),
  (8, .istore_n 2, 1, 0, 0, 0),
  (9, .iload_n 2, 1, 0, 0, 0),
  (10, .aload_n 1, 1, 0, 0, 0),
  (11, .getfield 121, 3, 8, 4, 279),
  (14, .if_icmp .ge 21, 3, 0, 0, 0),
  (17, .aload_n 0, 1, 0, 0, 0),
  (18, .getfield 12, 3, 4, 0, 179),
  (21, .aload_n 1, 1, 0, 0, 0),
  (22, .iload_n 2, 1, 0, 0, 0),
  (23, .invokevirtual 124, 3, 80, 0, 573),
  (26, .invokevirtual 65, 3, 66, 0, 371),
  (29, .iinc 2 1, 3, 0, 0, 0),
  (32, .goto (-23), 3, 0, 0, 0),
  (35, .aload_n 0, 1, 0, 0, 0),
  (36, .getfield 28, 3, 4, 2, 185),
  (39, .aload_n 0, 1, 0, 0, 0),
  (40, .getfield 12, 3, 4, 0, 179),
  (43, .invokevirtual 125, 3, 73, 0, 577),
  (46, .aload_n 0, 1, 0, 0, 0),
  (47, .getfield 21, 3, 4, 1, 182),
  (50, .invokevirtual 127, 3, 29, 0, 581),
  (53, .return_, 1, 0, 0, 0)
  ]
/-- X5_init -/
def zp61 : List (Nat × zRow) := [
  (0, .aload_n 0, 1, 0, 0, 0),
  (1, .invokespecial 3, 3, 1000, 0, 223),
  (4, .aload_n 0, 1, 0, 0, 0),
  (5, .iconst 2, 1, 0, 0, 0),
  (6, .anewarray 9, 3, 4, 0, 224),
  (9, .putfield 11, 3, 5, 0, 226),
  (12, .aload_n 0, 1, 0, 0, 0),
  (13, .iconst 2, 1, 0, 0, 0),
  (14, .newarray .boolean, 2, 0, 0, 0),
  (16, .putfield 17, 3, 5, 1, 228),
  (19, .iconst 0, 1, 0, 0, 0),
  (20, .istore_n 1, 1, 0, 0, 0),
  (21, .iload_n 1, 1, 0, 0, 0),
  (22, .iconst 2, 1, 0, 0, 0),
  (23, .if_icmp .ge 22, 3, 0, 0, 0),
  (26, .aload_n 0, 1, 0, 0, 0),
  (27, .getfield 11, 3, 5, 0, 226),
  (30, .iload_n 1, 1, 0, 0, 0),
  (31, .new 9, 3, 4, 0, 224),
  (34, .dup, 1, 0, 0, 0),
  (35, .invokespecial 21, 3, 50, 0, 225),
  (38, .aastore, 1, 0, 0, 0),
  (39, .iinc 1 1, 3, 0, 0, 0),
  (42, .goto (-21), 3, 0, 0, 0),
  (45, .return_, 1, 0, 0, 0)
  ]
/-- X5_isSlot -/
def zp62 : List (Nat × zRow) := [
  (0, .iload_n 0, 1, 0, 0, 0),
  (1, .ifCond .lt 12, 3, 0, 0, 0),
  (4, .iload_n 0, 1, 0, 0, 0),
  (5, .iconst 2, 1, 0, 0, 0),
  (6, .if_icmp .ge 7, 3, 0, 0, 0),
  (9, .iconst 1, 1, 0, 0, 0),
  (10, .goto 4, 3, 0, 0, 0),
  (13, .iconst 0, 1, 0, 0, 0),
  (14, .ireturn, 1, 0, 0, 0)
  ]
/-- X5_keep -/
def zp63 : List (Nat × zRow) := [
  (0, .aload_n 0, 1, 0, 0, 0),
  (1, .getfield 11, 3, 5, 0, 226),
  (4, .iload_n 1, 1, 0, 0, 0),
  (5, .aaload, 1, 0, 0, 0),
  (6, .aload_n 2, 1, 0, 0, 0),
  (7, .invokevirtual 22, 3, 51, 0, 768),
  (10, .aload_n 0, 1, 0, 0, 0),
  (11, .getfield 17, 3, 5, 1, 228),
  (14, .iload_n 1, 1, 0, 0, 0),
  (15, .iconst 1, 1, 0, 0, 0),
  (16, .bastore, 1, 0, 0, 0),
  (17, .return_, 1, 0, 0, 0)
  ]
/-- X6_init -/
def zp64 : List (Nat × zRow) := [
  (0, .aload_n 0, 1, 0, 0, 0),
  (1, .invokespecial 3, 3, 1000, 0, 95),
  (4, .aload_n 0, 1, 0, 0, 0),
  (5, .bipush 60, 2, 0, 0, 0),
  (7, .newarray .int, 2, 0, 0, 0),
  (9, .putfield 9, 3, 6, 0, 96),
  (12, .return_, 1, 0, 0, 0)
  ]
/-- X6_clear -/
def zp65 : List (Nat × zRow) := [
  (0, .aload_n 0, 1, 0, 0, 0),
  (1, .iconst 0, 1, 0, 0, 0),
  (2, .putfield 15, 3, 6, 1, 99),
  (5, .return_, 1, 0, 0, 0)
  ]
/-- X6_add -/
def zp66 : List (Nat × zRow) := [
  (0, .aload_n 0, 1, 0, 0, 0),
  (1, .getfield 15, 3, 6, 1, 99),
  (4, .bipush 60, 2, 0, 0, 0),
  (6, .if_icmp .ge 23, 3, 0, 0, 0),
  (9, .aload_n 0, 1, 0, 0, 0),
  (10, .getfield 9, 3, 6, 0, 96),
  (13, .aload_n 0, 1, 0, 0, 0),
  (14, .getfield 15, 3, 6, 1, 99),
  (17, .iload_n 1, 1, 0, 0, 0),
  (18, .iastore, 1, 0, 0, 0),
  (19, .aload_n 0, 1, 0, 0, 0),
  (20, .dup, 1, 0, 0, 0),
  (21, .getfield 15, 3, 6, 1, 99),
  (24, .iconst 1, 1, 0, 0, 0),
  (25, .iadd, 1, 0, 0, 0),
  (26, .putfield 15, 3, 6, 1, 99),
  (29, .return_, 1, 0, 0, 0)
  ]
/-- X6_at -/
def zp67 : List (Nat × zRow) := [
  (0, .iload_n 1, 1, 0, 0, 0),
  (1, .ifCond .lt 20, 3, 0, 0, 0),
  (4, .iload_n 1, 1, 0, 0, 0),
  (5, .aload_n 0, 1, 0, 0, 0),
  (6, .getfield 15, 3, 6, 1, 99),
  (9, .if_icmp .ge 12, 3, 0, 0, 0),
  (12, .aload_n 0, 1, 0, 0, 0),
  (13, .getfield 9, 3, 6, 0, 96),
  (16, .iload_n 1, 1, 0, 0, 0),
  (17, .iaload, 1, 0, 0, 0),
  (18, .goto 4, 3, 0, 0, 0),
  (21, .iconst (-1), 1, 0, 0, 0),
  (22, .ireturn, 1, 0, 0, 0)
  ]
/-- X6_takeOver -/
def zp68 : List (Nat × zRow) := [
  (0, .aload_n 1, 1, 0, 0, 0),
  (1, .getfield 9, 3, 6, 0, 96),
  (4, .iconst 0, 1, 0, 0, 0),
  (5, .aload_n 0, 1, 0, 0, 0),
  (6, .getfield 9, 3, 6, 0, 96),
  (9, .iconst 0, 1, 0, 0, 0),
  (10, .bipush 60, 2, 0, 0, 0),
  (12, .invokestatic 19, 3, 1001, 0, 345),
  (15, .aload_n 0, 1, 0, 0, 0),
  (16, .aload_n 1, 1, 0, 0, 0),
  (17, .getfield 15, 3, 6, 1, 99),
  (20, .putfield 15, 3, 6, 1, 99),
  (23, .return_, 1, 0, 0, 0)
  ]
/-- X7_init -/
def zp69 : List (Nat × zRow) := [
  (0, .aload_n 0, 1, 0, 0, 0),
  (1, .invokespecial 3, 3, 1000, 0, 167),
  (4, .aload_n 0, 1, 0, 0, 0),
  (5, .sipush 360, 3, 0, 0, 0),
  (8, .newarray .int, 2, 0, 0, 0),
  (10, .putfield 9, 3, 7, 0, 168),
  (13, .aload_n 0, 1, 0, 0, 0),
  (14, .bipush 6, 2, 0, 0, 0),
  (16, .newarray .int, 2, 0, 0, 0),
  (18, .putfield 15, 3, 7, 1, 169),
  (21, .return_, 1, 0, 0, 0)
  ]
/-- X7_clear -/
def zp70 : List (Nat × zRow) := [
  (0, .aload_n 0, 1, 0, 0, 0),
  (1, .iconst 0, 1, 0, 0, 0),
  (2, .putfield 18, 3, 7, 2, 170),
  (5, .return_, 1, 0, 0, 0)
  ]
/-- X7_kept -/
def zp71 : List (Nat × zRow) := [
  (0, .aload_n 0, 1, 0, 0, 0),
  (1, .getfield 18, 3, 7, 2, 170),
  (4, .bipush 6, 2, 0, 0, 0),
  (6, .invokestatic 22, 3, 1002, 0, 676),
  (9, .ireturn, 1, 0, 0, 0)
  ]
/-- X7_has -/
def zp72 : List (Nat × zRow) := [
  (0, .iload_n 1, 1, 0, 0, 0),
  (1, .ifCond .lt 15, 3, 0, 0, 0),
  (4, .iload_n 1, 1, 0, 0, 0),
  (5, .aload_n 0, 1, 0, 0, 0),
  (6, .invokevirtual 28, 3, 71, 0, 685),
  (9, .if_icmp .ge 7, 3, 0, 0, 0),
  (12, .iconst 1, 1, 0, 0, 0),
  (13, .goto 4, 3, 0, 0, 0),
  (16, .iconst 0, 1, 0, 0, 0),
  (17, .ireturn, 1, 0, 0, 0)
  ]
/-- X7_add -/
def zp73 : List (Nat × zRow) := [
  (0, .aload_n 0, 1, 0, 0, 0),
  (1, .getfield 18, 3, 7, 2, 170),
  (4, .bipush 6, 2, 0, 0, 0),
  (6, .irem, 1, 0, 0, 0),
  (7, .istore_n 2, 1, 0, 0, 0),
  (8, .aload_n 1, 1, 0, 0, 0),
  (9, .getfield 32, 3, 6, 0, 97),
  (12, .iconst 0, 1, 0, 0, 0),
  (13, .aload_n 0, 1, 0, 0, 0),
  (14, .getfield 9, 3, 7, 0, 168),
  (17, .iload_n 2, 1, 0, 0, 0),
  (18, .bipush 60, 2, 0, 0, 0),
  (20, .imul, 1, 0, 0, 0),
  (21, .bipush 60, 2, 0, 0, 0),
  (23, .invokestatic 35, 3, 1001, 0, 357),
  (26, .aload_n 0, 1, 0, 0, 0),
  (27, .getfield 15, 3, 7, 1, 169),
  (30, .iload_n 2, 1, 0, 0, 0),
  (31, .aload_n 1, 1, 0, 0, 0),
  (32, .getfield 41, 3, 6, 1, 103),
  (35, .iastore, 1, 0, 0, 0),
  (36, .aload_n 0, 1, 0, 0, 0),
  (37, .dup, 1, 0, 0, 0),
  (38, .getfield 18, 3, 7, 2, 170),
  (41, .iconst 1, 1, 0, 0, 0),
  (42, .iadd, 1, 0, 0, 0),
  (43, .putfield 18, 3, 7, 2, 170),
  (46, .return_, 1, 0, 0, 0)
  ]
/-- X7_lengthOf -/
def zp74 : List (Nat × zRow) := [
  (0, .aload_n 0, 1, 0, 0, 0),
  (1, .iload_n 1, 1, 0, 0, 0),
  (2, .invokevirtual 44, 3, 72, 0, 690),
  (5, .ifCond .eq 16, 3, 0, 0, 0),
  (8, .aload_n 0, 1, 0, 0, 0),
  (9, .getfield 15, 3, 7, 1, 169),
  (12, .aload_n 0, 1, 0, 0, 0),
  (13, .iload_n 1, 1, 0, 0, 0),
  (14, .invokevirtual 48, 3, 76, 0, 691),
  (17, .iaload, 1, 0, 0, 0),
  (18, .goto 4, 3, 0, 0, 0),
  (21, .iconst 0, 1, 0, 0, 0),
  (22, .ireturn, 1, 0, 0, 0)
  ]
/-- X7_at -/
def zp75 : List (Nat × zRow) := [
  (0, .iload_n 2, 1, 0, 0, 0),
  (1, .ifCond .lt 12, 3, 0, 0, 0),
  (4, .iload_n 2, 1, 0, 0, 0),
  (5, .aload_n 0, 1, 0, 0, 0),
  (6, .iload_n 1, 1, 0, 0, 0),
  (7, .invokevirtual 52, 3, 74, 0, 702),
  (10, .if_icmp .lt 5, 3, 0, 0, 0),
  (13, .iconst (-1), 1, 0, 0, 0),
  (14, .ireturn, 1, 0, 0, 0),
  (15, .aload_n 0, 1, 0, 0, 0),
  (16, .getfield 9, 3, 7, 0, 168),
  (19, .aload_n 0, 1, 0, 0, 0),
  (20, .iload_n 1, 1, 0, 0, 0),
  (21, .invokevirtual 48, 3, 76, 0, 691),
  (24, .bipush 60, 2, 0, 0, 0),
  (26, .imul, 1, 0, 0, 0),
  (27, .iload_n 2, 1, 0, 0, 0),
  (28, .iadd, 1, 0, 0, 0),
  (29, .iaload, 1, 0, 0, 0),
  (30, .ireturn, 1, 0, 0, 0)
  ]
/-- X7_rowOf -/
def zp76 : List (Nat × zRow) := [
  (0, .aload_n 0, 1, 0, 0, 0),
  (1, .getfield 18, 3, 7, 2, 170),
  (4, .iconst 1, 1, 0, 0, 0),
  (5, .isub, 1, 0, 0, 0),
  (6, .iload_n 1, 1, 0, 0, 0),
  (7, .isub, 1, 0, 0, 0),
  (8, .bipush 6, 2, 0, 0, 0),
  (10, .invokestatic 55, 3, 185, 0, 695),
  (13, .ireturn, 1, 0, 0, 0)
  ]
/-- X7_distance -/
def zp77 : List (Nat × zRow) := [
  (0, .aload_n 0, 1, 0, 0, 0),
  (1, .iload_n 1, 1, 0, 0, 0),
  (2, .invokevirtual 52, 3, 74, 0, 702),
  (5, .istore 4, 2, 0, 0, 0),
  (7, .aload_n 0, 1, 0, 0, 0),
  (8, .iload_n 2, 1, 0, 0, 0),
  (9, .invokevirtual 52, 3, 74, 0, 702),
  (12, .aload_n 3, 1, 0, 0, 0),
  (13, .arraylength, 1, 0, 0, 0),
  (14, .iconst 1, 1, 0, 0, 0),
  (15, .isub, 1, 0, 0, 0),
  (16, .invokestatic 22, 3, 1002, 0, 676),
  (19, .istore 5, 2, 0, 0, 0),
  (21, .aload_n 0, 1, 0, 0, 0),
  (22, .iload_n 1, 1, 0, 0, 0),
  (23, .invokevirtual 48, 3, 76, 0, 691),
  (26, .bipush 60, 2, 0, 0, 0),
  (28, .imul, 1, 0, 0, 0),
  (29, .istore 6, 2, 0, 0, 0),
  (31, .aload_n 0, 1, 0, 0, 0),
  (32, .iload_n 2, 1, 0, 0, 0),
  (33, .invokevirtual 48, 3, 76, 0, 691),
  (36, .bipush 60, 2, 0, 0, 0),
  (38, .imul, 1, 0, 0, 0),
  (39, .istore 7, 2, 0, 0, 0),
  (41, .iconst 0, 1, 0, 0, 0),
  (42, .istore 8, 2, 0, 0, 0),
  (44, .iload 8, 2, 0, 0, 0),
  (46, .iload 5, 2, 0, 0, 0),
  (48, .if_icmp .gt 15, 3, 0, 0, 0),
  (51, .aload_n 3, 1, 0, 0, 0),
  (52, .iload 8, 2, 0, 0, 0),
  (54, .iload 8, 2, 0, 0, 0),
  (56, .iastore, 1, 0, 0, 0),
  (57, .iinc 8 1, 3, 0, 0, 0),
  (60, .goto (-16), 3, 0, 0, 0),
  (63, .iconst 0, 1, 0, 0, 0),
  (64, .istore 8, 2, 0, 0, 0),
  (66, .iload 8, 2, 0, 0, 0),
  (68, .iload 4, 2, 0, 0, 0),
  (70, .if_icmp .ge 101, 3, 0, 0, 0),
  (73, .aload_n 3, 1, 0, 0, 0),
  (74, .iconst 0, 1, 0, 0, 0),
  (75, .iaload, 1, 0, 0, 0),
  (76, .istore 9, 2, 0, 0, 0),
  (78, .aload_n 3, 1, 0, 0, 0),
  (79, .iconst 0, 1, 0, 0, 0),
  (80, .iload 8, 2, 0, 0, 0),
  (82, .iconst 1, 1, 0, 0, 0),
  (83, .iadd, 1, 0, 0, 0),
  (84, .iastore, 1, 0, 0, 0),
  (85, .iconst 0, 1, 0, 0, 0),
  (86, .istore 10, 2, 0, 0, 0),
  (88, .iload 10, 2, 0, 0, 0),
  (90, .iload 5, 2, 0, 0, 0),
  (92, .if_icmp .ge 73, 3, 0, 0, 0),
  (95, .aload_n 0, 1, 0, 0, 0),
  (96, .getfield 9, 3, 7, 0, 168),
  (99, .iload 6, 2, 0, 0, 0),
  (101, .iload 8, 2, 0, 0, 0),
  (103, .iadd, 1, 0, 0, 0),
  (104, .iaload, 1, 0, 0, 0),
  (105, .aload_n 0, 1, 0, 0, 0),
  (106, .getfield 9, 3, 7, 0, 168),
  (109, .iload 7, 2, 0, 0, 0),
  (111, .iload 10, 2, 0, 0, 0),
  (113, .iadd, 1, 0, 0, 0),
  (114, .iaload, 1, 0, 0, 0),
  (115, .if_icmp .ne 8, 3, 0, 0, 0),
  (118, .iload 9, 2, 0, 0, 0),
  (120, .goto 7, 3, 0, 0, 0),
  (123, .iload 9, 2, 0, 0, 0),
  (125, .iconst 1, 1, 0, 0, 0),
  (126, .iadd, 1, 0, 0, 0),
  (127, .istore 11, 2, 0, 0, 0),
  (129, .aload_n 3, 1, 0, 0, 0),
  (130, .iload 10, 2, 0, 0, 0),
  (132, .iconst 1, 1, 0, 0, 0),
  (133, .iadd, 1, 0, 0, 0),
  (134, .iaload, 1, 0, 0, 0),
  (135, .istore 9, 2, 0, 0, 0),
  (137, .aload_n 3, 1, 0, 0, 0),
  (138, .iload 10, 2, 0, 0, 0),
  (140, .iconst 1, 1, 0, 0, 0),
  (141, .iadd, 1, 0, 0, 0),
  (142, .iload 11, 2, 0, 0, 0),
  (144, .iconst 1, 1, 0, 0, 0),
  (145, .iload 9, 2, 0, 0, 0),
  (147, .aload_n 3, 1, 0, 0, 0),
  (148, .iload 10, 2, 0, 0, 0),
  (150, .iaload, 1, 0, 0, 0),
  (151, .invokestatic 22, 3, 1002, 0, 676),
  (154, .iadd, 1, 0, 0, 0),
  (155, .invokestatic 22, 3, 1002, 0, 676),
  (158, .iastore, 1, 0, 0, 0),
  (159, .iinc 10 1, 3, 0, 0, 0),
  (162, .goto (-74), 3, 0, 0, 0),
  (165, .iinc 8 1, 3, 0, 0, 0),
  (168, .goto (-102), 3, 0, 0, 0),
  (171, .aload_n 3, 1, 0, 0, 0),
  (172, .iload 5, 2, 0, 0, 0),
  (174, .iaload, 1, 0, 0, 0),
  (175, .ireturn, 1, 0, 0, 0)
  ]
/-- X7_takeOver -/
def zp78 : List (Nat × zRow) := [
  (0, .aload_n 1, 1, 0, 0, 0),
  (1, .getfield 9, 3, 7, 0, 168),
  (4, .iconst 0, 1, 0, 0, 0),
  (5, .aload_n 0, 1, 0, 0, 0),
  (6, .getfield 9, 3, 7, 0, 168),
  (9, .iconst 0, 1, 0, 0, 0),
  (10, .sipush 360, 3, 0, 0, 0),
  (13, .invokestatic 35, 3, 1001, 0, 357),
  (16, .aload_n 1, 1, 0, 0, 0),
  (17, .getfield 15, 3, 7, 1, 169),
  (20, .iconst 0, 1, 0, 0, 0),
  (21, .aload_n 0, 1, 0, 0, 0),
  (22, .getfield 15, 3, 7, 1, 169),
  (25, .iconst 0, 1, 0, 0, 0),
  (26, .bipush 6, 2, 0, 0, 0),
  (28, .invokestatic 35, 3, 1001, 0, 357),
  (31, .aload_n 0, 1, 0, 0, 0),
  (32, .aload_n 1, 1, 0, 0, 0),
  (33, .getfield 18, 3, 7, 2, 170),
  (36, .putfield 18, 3, 7, 2, 170),
  (39, .return_, 1, 0, 0, 0)
  ]
/-- X8_init -/
def zp79 : List (Nat × zRow) := [
  (0, .aload_n 0, 1, 0, 0, 0),
  (1, .invokespecial 3, 3, 1000, 0, 273),
  (4, .aload_n 0, 1, 0, 0, 0),
  (5, .bipush 20, 2, 0, 0, 0),
  (7, .newarray .boolean, 2, 0, 0, 0),
  (9, .putfield 9, 3, 8, 0, 274),
  (12, .aload_n 0, 1, 0, 0, 0),
  (13, .bipush 61, 2, 0, 0, 0),
  (15, .newarray .int, 2, 0, 0, 0),
  (17, .putfield 15, 3, 8, 1, 275),
  (20, .aload_n 0, 1, 0, 0, 0),
  (21, .bipush 61, 2, 0, 0, 0),
  (23, .newarray .int, 2, 0, 0, 0),
  (25, .putfield 19, 3, 8, 2, 276),
  (28, .aload_n 0, 1, 0, 0, 0),
  (29, .sipush 180, 3, 0, 0, 0),
  (32, .newarray .int, 2, 0, 0, 0),
  (34, .putfield 22, 3, 8, 3, 277),
  (37, .return_, 1, 0, 0, 0)
  ]
/-- X8_at -/
def zp80 : List (Nat × zRow) := [
  (0, .iload_n 1, 1, 0, 0, 0),
  (1, .ifCond .lt 20, 3, 0, 0, 0),
  (4, .iload_n 1, 1, 0, 0, 0),
  (5, .aload_n 0, 1, 0, 0, 0),
  (6, .getfield 25, 3, 8, 4, 278),
  (9, .if_icmp .ge 12, 3, 0, 0, 0),
  (12, .aload_n 0, 1, 0, 0, 0),
  (13, .getfield 22, 3, 8, 3, 277),
  (16, .iload_n 1, 1, 0, 0, 0),
  (17, .iaload, 1, 0, 0, 0),
  (18, .goto 4, 3, 0, 0, 0),
  (21, .iconst (-1), 1, 0, 0, 0),
  (22, .ireturn, 1, 0, 0, 0)
  ]
/-- X8_showPrint -/
def zp81 : List (Nat × zRow) := [
  (0, .iconst 0, 1, 0, 0, 0),
  (1, .istore_n 2, 1, 0, 0, 0),
  (2, .iload_n 2, 1, 0, 0, 0),
  (3, .aload_n 1, 1, 0, 0, 0),
  (4, .getfield 29, 3, 4, 1, 183),
  (7, .getfield 35, 3, 1, 7, 142),
  (10, .if_icmp .ge 33, 3, 0, 0, 0),
  (13, .aload_n 0, 1, 0, 0, 0),
  (14, .getfield 9, 3, 8, 0, 274),
  (17, .iload_n 2, 1, 0, 0, 0),
  (18, .aload_n 1, 1, 0, 0, 0),
  (19, .getfield 29, 3, 4, 1, 183),
  (22, .getfield 40, 3, 1, 4, 133),
  (25, .iload_n 2, 1, 0, 0, 0),
  (26, .iaload, 1, 0, 0, 0),
  (27, .iconst 1, 1, 0, 0, 0),
  (28, .if_icmp .ne 7, 3, 0, 0, 0),
  (31, .iconst 1, 1, 0, 0, 0),
  (32, .goto 4, 3, 0, 0, 0),
  (35, .iconst 0, 1, 0, 0, 0),
  (36, .bastore, 1, 0, 0, 0),
  (37, .iinc 2 1, 3, 0, 0, 0),
  (40, .goto (-38), 3, 0, 0, 0),
  (43, .aload_n 0, 1, 0, 0, 0),
  (44, .aload_n 1, 1, 0, 0, 0),
  (45, .invokevirtual 43, 3, 83, 0, 553),
  (48, .return_, 1, 0, 0, 0)
  ]
/-- X8_showSeenBy -/
def zp82 : List (Nat × zRow) := [
  (0, .aload_n 2, 1, 0, 0, 0),
  (1, .getfield 29, 3, 4, 1, 183),
  (4, .astore_n 3, 1, 0, 0, 0),
  (5, .iconst 0, 1, 0, 0, 0),
  (6, .istore 4, 2, 0, 0, 0),
  (8, .iload 4, 2, 0, 0, 0),
  (10, .aload_n 3, 1, 0, 0, 0),
  (11, .getfield 35, 3, 1, 7, 142),
  (14, .if_icmp .ge 78, 3, 0, 0, 0),
  (17, .aload_n 3, 1, 0, 0, 0),
  (18, .getfield 40, 3, 1, 4, 133),
  (21, .iload 4, 2, 0, 0, 0),
  (23, .iaload, 1, 0, 0, 0),
  (24, .ifCond .ne 29, 3, 0, 0, 0),
  (27, .aload_n 0, 1, 0, 0, 0),
  (28, .getfield 9, 3, 8, 0, 274),
  (31, .iload 4, 2, 0, 0, 0),
  (33, .aload_n 3, 1, 0, 0, 0),
  (34, .getfield 47, 3, 1, 0, 117),
  (37, .iload 4, 2, 0, 0, 0),
  (39, .iaload, 1, 0, 0, 0),
  (40, .iload_n 1, 1, 0, 0, 0),
  (41, .if_icmp .ne 7, 3, 0, 0, 0),
  (44, .iconst 1, 1, 0, 0, 0),
  (45, .goto 4, 3, 0, 0, 0),
  (48, .iconst 0, 1, 0, 0, 0),
  (49, .bastore, 1, 0, 0, 0),
  (50, .goto 36, 3, 0, 0, 0),
  (53, .aload_n 0, 1, 0, 0, 0),
  (54, .getfield 9, 3, 8, 0, 274),
  (57, .iload 4, 2, 0, 0, 0),
  (59, .aload_n 3, 1, 0, 0, 0),
  (60, .getfield 40, 3, 1, 4, 133),
  (63, .iload 4, 2, 0, 0, 0),
  (65, .iaload, 1, 0, 0, 0),
  (66, .iconst 1, 1, 0, 0, 0),
  (67, .if_icmp .ne 17, 3, 0, 0, 0),
  (70, .aload_n 3, 1, 0, 0, 0),
  (71, .iload_n 1, 1, 0, 0, 0),
  (72, .iload 4, 2, 0, 0, 0),
  (74, .invokevirtual 50, 3, 17, 0, 619),
  (77, .ifCond .ne 7, 3, 0, 0, 0),
  (80, .iconst 1, 1, 0, 0, 0),
  (81, .goto 4, 3, 0, 0, 0),
  (84, .iconst 0, 1, 0, 0, 0),
  (85, .bastore, 1, 0, 0, 0),
  (86, .iinc 4 1, 3, 0, 0, 0),
  (89, .goto (-81), 3, 0, 0, 0),
  (92, .aload_n 0, 1, 0, 0, 0),
  (93, .aload_n 2, 1, 0, 0, 0),
  (94, .invokevirtual 43, 3, 83, 0, 553),
  (97, .return_, 1, 0, 0, 0)
  ]
/-- X8_carryOut -/
def zp83 : List (Nat × zRow) := [
  (0, .aload_n 1, 1, 0, 0, 0),
  (1, .getfield 29, 3, 4, 1, 183),
  (4, .astore_n 2, 1, 0, 0, 0),
  (5, .aload_n 1, 1, 0, 0, 0),
  (6, .getfield 54, 3, 4, 0, 181),
  (9, .getfield 58, 3, 6, 1, 102),
  (12, .istore_n 3, 1, 0, 0, 0),
  (13, .aload_n 0, 1, 0, 0, 0),
  (14, .aload_n 2, 1, 0, 0, 0),
  (15, .iload_n 3, 1, 0, 0, 0),
  (16, .invokevirtual 61, 3, 84, 0, 557),
  (19, .aload_n 0, 1, 0, 0, 0),
  (20, .iconst 0, 1, 0, 0, 0),
  (21, .putfield 25, 3, 8, 4, 278),
  (24, .iconst 0, 1, 0, 0, 0),
  (25, .istore 4, 2, 0, 0, 0),
  (27, .iconst 0, 1, 0, 0, 0),
  (28, .istore 5, 2, 0, 0, 0),
  (30, .iload 5, 2, 0, 0, 0),
  (32, .iload_n 3, 1, 0, 0, 0),
  (33, .if_icmp .gt 80, 3, 0, 0, 0),
  (36, .aload_n 0, 1, 0, 0, 0),
  (37, .aload_n 2, 1, 0, 0, 0),
  (38, .aload_n 0, 1, 0, 0, 0),
  (39, .getfield 15, 3, 8, 1, 275),
  (42, .iload 5, 2, 0, 0, 0),
  (44, .iaload, 1, 0, 0, 0),
  (45, .invokevirtual 65, 3, 85, 0, 561),
  (48, .aload_n 0, 1, 0, 0, 0),
  (49, .getfield 19, 3, 8, 2, 276),
  (52, .iload 5, 2, 0, 0, 0),
  (54, .iaload, 1, 0, 0, 0),
  (55, .istore 6, 2, 0, 0, 0),
  (57, .iload 6, 2, 0, 0, 0),
  (59, .bipush (-6), 2, 0, 0, 0),
  (61, .if_icmp .eq 19, 3, 0, 0, 0),
  (64, .aload_n 0, 1, 0, 0, 0),
  (65, .aload_n 2, 1, 0, 0, 0),
  (66, .iload 6, 2, 0, 0, 0),
  (68, .invokevirtual 65, 3, 85, 0, 561),
  (71, .aload_n 2, 1, 0, 0, 0),
  (72, .getfield 68, 3, 1, 3, 130),
  (75, .iload 6, 2, 0, 0, 0),
  (77, .iaload, 1, 0, 0, 0),
  (78, .istore 4, 2, 0, 0, 0),
  (80, .iload 5, 2, 0, 0, 0),
  (82, .iload_n 3, 1, 0, 0, 0),
  (83, .if_icmp .ge 24, 3, 0, 0, 0),
  (86, .iload 5, 2, 0, 0, 0),
  (88, .iload 4, 2, 0, 0, 0),
  (90, .if_icmp .lt 17, 3, 0, 0, 0),
  (93, .aload_n 0, 1, 0, 0, 0),
  (94, .aload_n 1, 1, 0, 0, 0),
  (95, .getfield 54, 3, 4, 0, 181),
  (98, .getfield 71, 3, 6, 0, 98),
  (101, .iload 5, 2, 0, 0, 0),
  (103, .iaload, 1, 0, 0, 0),
  (104, .invokevirtual 72, 3, 86, 0, 565),
  (107, .iinc 5 1, 3, 0, 0, 0),
  (110, .goto (-80), 3, 0, 0, 0),
  (113, .return_, 1, 0, 0, 0)
  ]
/-- X8_placeChosen -/
def zp84 : List (Nat × zRow) := [
  (0, .iconst 0, 1, 0, 0, 0),
  (1, .istore_n 3, 1, 0, 0, 0),
  (2, .iload_n 3, 1, 0, 0, 0),
  (3, .iload_n 2, 1, 0, 0, 0),
  (4, .if_icmp .gt 25, 3, 0, 0, 0),
  (7, .aload_n 0, 1, 0, 0, 0),
  (8, .getfield 15, 3, 8, 1, 275),
  (11, .iload_n 3, 1, 0, 0, 0),
  (12, .bipush (-6), 2, 0, 0, 0),
  (14, .iastore, 1, 0, 0, 0),
  (15, .aload_n 0, 1, 0, 0, 0),
  (16, .getfield 19, 3, 8, 2, 276),
  (19, .iload_n 3, 1, 0, 0, 0),
  (20, .bipush (-6), 2, 0, 0, 0),
  (22, .iastore, 1, 0, 0, 0),
  (23, .iinc 3 1, 3, 0, 0, 0),
  (26, .goto (-24), 3, 0, 0, 0),
  (29, .iconst 0, 1, 0, 0, 0),
  (30, .istore_n 3, 1, 0, 0, 0),
  (31, .iload_n 3, 1, 0, 0, 0),
  (32, .aload_n 1, 1, 0, 0, 0),
  (33, .getfield 35, 3, 1, 7, 142),
  (36, .if_icmp .ge 66, 3, 0, 0, 0),
  (39, .aload_n 1, 1, 0, 0, 0),
  (40, .getfield 76, 3, 1, 2, 126),
  (43, .iload_n 3, 1, 0, 0, 0),
  (44, .iaload, 1, 0, 0, 0),
  (45, .istore 4, 2, 0, 0, 0),
  (47, .aload_n 0, 1, 0, 0, 0),
  (48, .getfield 9, 3, 8, 0, 274),
  (51, .iload_n 3, 1, 0, 0, 0),
  (52, .baload, 1, 0, 0, 0),
  (53, .ifCond .eq 43, 3, 0, 0, 0),
  (56, .iload 4, 2, 0, 0, 0),
  (58, .ifCond .lt 38, 3, 0, 0, 0),
  (61, .iload 4, 2, 0, 0, 0),
  (63, .iload_n 2, 1, 0, 0, 0),
  (64, .if_icmp .gt 32, 3, 0, 0, 0),
  (67, .aload_n 1, 1, 0, 0, 0),
  (68, .getfield 79, 3, 1, 1, 122),
  (71, .iload_n 3, 1, 0, 0, 0),
  (72, .iaload, 1, 0, 0, 0),
  (73, .iconst 1, 1, 0, 0, 0),
  (74, .if_icmp .ne 14, 3, 0, 0, 0),
  (77, .aload_n 0, 1, 0, 0, 0),
  (78, .getfield 15, 3, 8, 1, 275),
  (81, .iload 4, 2, 0, 0, 0),
  (83, .iload_n 3, 1, 0, 0, 0),
  (84, .iastore, 1, 0, 0, 0),
  (85, .goto 11, 3, 0, 0, 0),
  (88, .aload_n 0, 1, 0, 0, 0),
  (89, .getfield 19, 3, 8, 2, 276),
  (92, .iload 4, 2, 0, 0, 0),
  (94, .iload_n 3, 1, 0, 0, 0),
  (95, .iastore, 1, 0, 0, 0),
  (96, .iinc 3 1, 3, 0, 0, 0),
  (99, .goto (-68), 3, 0, 0, 0),
  (102, .return_, 1, 0, 0, 0)
  ]
/-- X8_addLettersOf -/
def zp85 : List (Nat × zRow) := [
  (0, .iload_n 2, 1, 0, 0, 0),
  (1, .bipush (-6), 2, 0, 0, 0),
  (3, .if_icmp .ne 4, 3, 0, 0, 0),
  (6, .return_, 1, 0, 0, 0),
  (7, .iconst 0, 1, 0, 0, 0),
  (8, .istore_n 3, 1, 0, 0, 0),
  (9, .iload_n 3, 1, 0, 0, 0),
  (10, .aload_n 1, 1, 0, 0, 0),
  (11, .getfield 82, 3, 1, 5, 137),
  (14, .iload_n 2, 1, 0, 0, 0),
  (15, .iaload, 1, 0, 0, 0),
  (16, .if_icmp .ge 24, 3, 0, 0, 0),
  (19, .aload_n 0, 1, 0, 0, 0),
  (20, .aload_n 1, 1, 0, 0, 0),
  (21, .getfield 85, 3, 1, 6, 140),
  (24, .iload_n 2, 1, 0, 0, 0),
  (25, .bipush 6, 2, 0, 0, 0),
  (27, .imul, 1, 0, 0, 0),
  (28, .iload_n 3, 1, 0, 0, 0),
  (29, .iadd, 1, 0, 0, 0),
  (30, .iaload, 1, 0, 0, 0),
  (31, .invokevirtual 72, 3, 86, 0, 565),
  (34, .iinc 3 1, 3, 0, 0, 0),
  (37, .goto (-28), 3, 0, 0, 0),
  (40, .return_, 1, 0, 0, 0)
  ]
/-- X8_add -/
def zp86 : List (Nat × zRow) := [
  (0, .aload_n 0, 1, 0, 0, 0),
  (1, .getfield 25, 3, 8, 4, 278),
  (4, .sipush 180, 3, 0, 0, 0),
  (7, .if_icmp .ge 23, 3, 0, 0, 0),
  (10, .aload_n 0, 1, 0, 0, 0),
  (11, .getfield 22, 3, 8, 3, 277),
  (14, .aload_n 0, 1, 0, 0, 0),
  (15, .getfield 25, 3, 8, 4, 278),
  (18, .iload_n 1, 1, 0, 0, 0),
  (19, .iastore, 1, 0, 0, 0),
  (20, .aload_n 0, 1, 0, 0, 0),
  (21, .dup, 1, 0, 0, 0),
  (22, .getfield 25, 3, 8, 4, 278),
  (25, .iconst 1, 1, 0, 0, 0),
  (26, .iadd, 1, 0, 0, 0),
  (27, .putfield 25, 3, 8, 4, 278),
  (30, .return_, 1, 0, 0, 0)
  ]
/-- X9_init -/
def zp87 : List (Nat × zRow) := [
  (0, .aload_n 0, 1, 0, 0, 0),
  (1, .invokespecial 3, 3, 1000, 0, 81),
  (4, .aload_n 0, 1, 0, 0, 0),
  (5, .new 9, 3, 4, 0, 84),
  (8, .dup, 1, 0, 0, 0),
  (9, .invokespecial 11, 3, 50, 0, 86),
  (12, .putfield 12, 3, 9, 0, 292),
  (15, .aload_n 0, 1, 0, 0, 0),
  (16, .new 16, 3, 0, 0, 198),
  (19, .dup, 1, 0, 0, 0),
  (20, .invokespecial 18, 3, 0, 0, 200),
  (23, .putfield 19, 3, 9, 1, 293),
  (26, .aload_n 0, 1, 0, 0, 0),
  (27, .new 23, 3, 5, 0, 218),
  (30, .dup, 1, 0, 0, 0),
  (31, .invokespecial 25, 3, 61, 0, 220),
  (34, .putfield 26, 3, 9, 2, 294),
  (37, .aload_n 0, 1, 0, 0, 0),
  (38, .new 30, 3, 2, 0, 236),
  (41, .dup, 1, 0, 0, 0),
  (42, .invokespecial 32, 3, 34, 0, 238),
  (45, .putfield 33, 3, 9, 3, 295),
  (48, .aload_n 0, 1, 0, 0, 0),
  (49, .new 37, 3, 3, 0, 252),
  (52, .dup, 1, 0, 0, 0),
  (53, .invokespecial 39, 3, 41, 0, 254),
  (56, .putfield 40, 3, 9, 4, 296),
  (59, .aload_n 0, 1, 0, 0, 0),
  (60, .new 44, 3, 8, 0, 268),
  (63, .dup, 1, 0, 0, 0),
  (64, .invokespecial 46, 3, 79, 0, 270),
  (67, .putfield 47, 3, 9, 5, 297),
  (70, .aload_n 0, 1, 0, 0, 0),
  (71, .bipush 20, 2, 0, 0, 0),
  (73, .newarray .int, 2, 0, 0, 0),
  (75, .putfield 51, 3, 9, 6, 298),
  (78, .aload_n 0, 1, 0, 0, 0),
  (79, .bipush 61, 2, 0, 0, 0),
  (81, .newarray .int, 2, 0, 0, 0),
  (83, .putfield 55, 3, 9, 7, 299),
  (86, .return_, 1, 0, 0, 0)
  ]
/-- X9_begin -/
def zp88 : List (Nat × zRow) := [
  (0, .aload_n 0, 1, 0, 0, 0),
  (1, .getfield 33, 3, 9, 3, 295),
  (4, .invokevirtual 58, 3, 38, 0, 321),
  (7, .ifCond .ne 6, 3, 0, 0, 0),
  (10, .bipush (-3), 2, 0, 0, 0),
  (12, .ireturn, 1, 0, 0, 0),
  (13, .aload_n 0, 1, 0, 0, 0),
  (14, .getfield 19, 3, 9, 1, 293),
  (17, .aload_n 0, 1, 0, 0, 0),
  (18, .getfield 12, 3, 9, 0, 292),
  (21, .invokevirtual 62, 3, 1, 0, 333),
  (24, .aload_n 0, 1, 0, 0, 0),
  (25, .getfield 12, 3, 9, 0, 292),
  (28, .aload_n 0, 1, 0, 0, 0),
  (29, .getfield 33, 3, 9, 3, 295),
  (32, .invokevirtual 66, 3, 52, 0, 362),
  (35, .aload_n 0, 1, 0, 0, 0),
  (36, .getfield 33, 3, 9, 3, 295),
  (39, .invokevirtual 70, 3, 35, 0, 383),
  (42, .aload_n 0, 1, 0, 0, 0),
  (43, .getfield 12, 3, 9, 0, 292),
  (46, .getfield 73, 3, 4, 0, 180),
  (49, .getfield 77, 3, 6, 1, 100),
  (52, .ireturn, 1, 0, 0, 0)
  ]
/-- X9_rank -/
def zp89 : List (Nat × zRow) := [
  (0, .iload_n 1, 1, 0, 0, 0),
  (1, .invokestatic 83, 3, 113, 0, 391),
  (4, .ifCond .ne 5, 3, 0, 0, 0),
  (7, .iconst (-1), 1, 0, 0, 0),
  (8, .ireturn, 1, 0, 0, 0),
  (9, .iload_n 2, 1, 0, 0, 0),
  (10, .ifCond .lt 9, 3, 0, 0, 0),
  (13, .iload_n 2, 1, 0, 0, 0),
  (14, .bipush 9, 2, 0, 0, 0),
  (16, .if_icmp .le 6, 3, 0, 0, 0),
  (19, .bipush (-2), 2, 0, 0, 0),
  (21, .ireturn, 1, 0, 0, 0),
  (22, .aload_n 0, 1, 0, 0, 0),
  (23, .getfield 19, 3, 9, 1, 293),
  (26, .aload_n 0, 1, 0, 0, 0),
  (27, .getfield 12, 3, 9, 0, 292),
  (30, .invokevirtual 62, 3, 1, 0, 333),
  (33, .aload_n 0, 1, 0, 0, 0),
  (34, .getfield 12, 3, 9, 0, 292),
  (37, .getfield 87, 3, 4, 3, 188),
  (40, .iload_n 1, 1, 0, 0, 0),
  (41, .iaload, 1, 0, 0, 0),
  (42, .istore_n 3, 1, 0, 0, 0),
  (43, .aload_n 0, 1, 0, 0, 0),
  (44, .getfield 12, 3, 9, 0, 292),
  (47, .getfield 87, 3, 4, 3, 188),
  (50, .iload_n 1, 1, 0, 0, 0),
  (51, .iload_n 2, 1, 0, 0, 0),
  (52, .iastore, 1, 0, 0, 0),
  (53, .iload_n 3, 1, 0, 0, 0),
  (54, .ireturn, 1, 0, 0, 0)
  ]
/-- X9_mark -/
def zp90 : List (Nat × zRow) := [
  (0, .aload_n 0, 1, 0, 0, 0),
  (1, .getfield 40, 3, 9, 4, 296),
  (4, .aload_n 0, 1, 0, 0, 0),
  (5, .getfield 33, 3, 9, 3, 295),
  (8, .invokevirtual 90, 3, 42, 0, 398),
  (11, .bipush (-6), 2, 0, 0, 0),
  (13, .if_icmp .eq 6, 3, 0, 0, 0),
  (16, .bipush (-3), 2, 0, 0, 0),
  (18, .ireturn, 1, 0, 0, 0),
  (19, .aload_n 0, 1, 0, 0, 0),
  (20, .getfield 19, 3, 9, 1, 293),
  (23, .aload_n 0, 1, 0, 0, 0),
  (24, .getfield 12, 3, 9, 0, 292),
  (27, .invokevirtual 62, 3, 1, 0, 333),
  (30, .iconst 0, 1, 0, 0, 0),
  (31, .istore_n 1, 1, 0, 0, 0),
  (32, .iload_n 1, 1, 0, 0, 0),
  (33, .aload_n 0, 1, 0, 0, 0),
  (34, .getfield 40, 3, 9, 4, 296),
  (37, .getfield 94, 3, 3, 0, 261),
  (40, .getfield 98, 3, 1, 7, 143),
  (43, .if_icmp .ge 45, 3, 0, 0, 0),
  (46, .aload_n 0, 1, 0, 0, 0),
  (47, .getfield 12, 3, 9, 0, 292),
  (50, .aload_n 0, 1, 0, 0, 0),
  (51, .getfield 40, 3, 9, 4, 296),
  (54, .getfield 94, 3, 3, 0, 261),
  (57, .iload_n 1, 1, 0, 0, 0),
  (58, .invokevirtual 103, 3, 54, 0, 442),
  (61, .ifCond .eq 27, 3, 0, 0, 0),
  (64, .aload_n 0, 1, 0, 0, 0),
  (65, .getfield 12, 3, 9, 0, 292),
  (68, .getfield 107, 3, 4, 1, 184),
  (71, .aload_n 0, 1, 0, 0, 0),
  (72, .getfield 40, 3, 9, 4, 296),
  (75, .getfield 94, 3, 3, 0, 261),
  (78, .iload_n 1, 1, 0, 0, 0),
  (79, .invokevirtual 110, 3, 8, 0, 458),
  (82, .iinc 1 1, 3, 0, 0, 0),
  (85, .goto (-53), 3, 0, 0, 0),
  (88, .aload_n 0, 1, 0, 0, 0),
  (89, .getfield 33, 3, 9, 3, 295),
  (92, .invokevirtual 70, 3, 35, 0, 383),
  (95, .iload_n 1, 1, 0, 0, 0),
  (96, .ireturn, 1, 0, 0, 0)
  ]
/-- X9_strike -/
def zp91 : List (Nat × zRow) := [
  (0, .iload_n 1, 1, 0, 0, 0),
  (1, .invokestatic 83, 3, 113, 0, 391),
  (4, .ifCond .eq 25, 3, 0, 0, 0),
  (7, .aload_n 0, 1, 0, 0, 0),
  (8, .getfield 12, 3, 9, 0, 292),
  (11, .iload_n 2, 1, 0, 0, 0),
  (12, .invokevirtual 114, 3, 53, 0, 470),
  (15, .ifCond .eq 14, 3, 0, 0, 0),
  (18, .aload_n 0, 1, 0, 0, 0),
  (19, .getfield 12, 3, 9, 0, 292),
  (22, .iload_n 3, 1, 0, 0, 0),
  (23, .invokevirtual 114, 3, 53, 0, 470),
  (26, .ifCond .ne 5, 3, 0, 0, 0),
  (29, .iconst (-1), 1, 0, 0, 0),
  (30, .ireturn, 1, 0, 0, 0),
  (31, .iload_n 3, 1, 0, 0, 0),
  (32, .iload_n 2, 1, 0, 0, 0),
  (33, .if_icmp .gt 6, 3, 0, 0, 0),
  (36, .bipush (-2), 2, 0, 0, 0),
  (38, .ireturn, 1, 0, 0, 0),
  (39, .aload_n 0, 1, 0, 0, 0),
  (40, .getfield 12, 3, 9, 0, 292),
  (43, .getfield 107, 3, 4, 1, 184),
  (46, .getfield 98, 3, 1, 7, 143),
  (49, .bipush 20, 2, 0, 0, 0),
  (51, .if_icmp .lt 6, 3, 0, 0, 0),
  (54, .bipush (-4), 2, 0, 0, 0),
  (56, .ireturn, 1, 0, 0, 0),
  (57, .aload_n 0, 1, 0, 0, 0),
  (58, .getfield 40, 3, 9, 4, 296),
  (61, .getfield 94, 3, 3, 0, 261),
  (64, .astore 4, 2, 0, 0, 0),
  (66, .aload 4, 2, 0, 0, 0),
  (68, .invokevirtual 117, 3, 4, 0, 471),
  (71, .aload 4, 2, 0, 0, 0),
  (73, .iload_n 1, 1, 0, 0, 0),
  (74, .iconst 0, 1, 0, 0, 0),
  (75, .iload_n 2, 1, 0, 0, 0),
  (76, .iload_n 3, 1, 0, 0, 0),
  (77, .invokevirtual 118, 3, 6, 0, 472),
  (80, .aload_n 0, 1, 0, 0, 0),
  (81, .getfield 12, 3, 9, 0, 292),
  (84, .getfield 107, 3, 4, 1, 184),
  (87, .aload 4, 2, 0, 0, 0),
  (89, .iconst 0, 1, 0, 0, 0),
  (90, .invokevirtual 122, 3, 15, 0, 473),
  (93, .ifCond .eq 6, 3, 0, 0, 0),
  (96, .bipush (-5), 2, 0, 0, 0),
  (98, .ireturn, 1, 0, 0, 0),
  (99, .aload_n 0, 1, 0, 0, 0),
  (100, .getfield 19, 3, 9, 1, 293),
  (103, .aload_n 0, 1, 0, 0, 0),
  (104, .getfield 12, 3, 9, 0, 292),
  (107, .invokevirtual 62, 3, 1, 0, 333),
  (110, .aload_n 0, 1, 0, 0, 0),
  (111, .getfield 12, 3, 9, 0, 292),
  (114, .getfield 107, 3, 4, 1, 184),
  (117, .aload 4, 2, 0, 0, 0),
  (119, .iconst 0, 1, 0, 0, 0),
  (120, .invokevirtual 110, 3, 8, 0, 458),
  (123, .aload_n 0, 1, 0, 0, 0),
  (124, .getfield 12, 3, 9, 0, 292),
  (127, .getfield 107, 3, 4, 1, 184),
  (130, .getfield 98, 3, 1, 7, 143),
  (133, .iconst 1, 1, 0, 0, 0),
  (134, .isub, 1, 0, 0, 0),
  (135, .ireturn, 1, 0, 0, 0)
  ]
/-- X9_accept -/
def zp92 : List (Nat × zRow) := [
  (0, .aload_n 0, 1, 0, 0, 0),
  (1, .getfield 12, 3, 9, 0, 292),
  (4, .getfield 107, 3, 4, 1, 184),
  (7, .iload_n 1, 1, 0, 0, 0),
  (8, .invokevirtual 125, 3, 5, 0, 478),
  (11, .ifCond .ne 5, 3, 0, 0, 0),
  (14, .iconst (-1), 1, 0, 0, 0),
  (15, .ireturn, 1, 0, 0, 0),
  (16, .aload_n 0, 1, 0, 0, 0),
  (17, .getfield 12, 3, 9, 0, 292),
  (20, .iload_n 1, 1, 0, 0, 0),
  (21, .invokevirtual 128, 3, 57, 0, 482),
  (24, .ifCond .ne 6, 3, 0, 0, 0),
  (27, .bipush (-5), 2, 0, 0, 0),
  (29, .ireturn, 1, 0, 0, 0),
  (30, .aload_n 0, 1, 0, 0, 0),
  (31, .getfield 19, 3, 9, 1, 293),
  (34, .aload_n 0, 1, 0, 0, 0),
  (35, .getfield 12, 3, 9, 0, 292),
  (38, .invokevirtual 62, 3, 1, 0, 333),
  (41, .aload_n 0, 1, 0, 0, 0),
  (42, .getfield 12, 3, 9, 0, 292),
  (45, .getfield 107, 3, 4, 1, 184),
  (48, .iload_n 1, 1, 0, 0, 0),
  (49, .invokevirtual 131, 3, 19, 0, 507),
  (52, .ireturn, 1, 0, 0, 0)
  ]
/-- X9_refuse -/
def zp93 : List (Nat × zRow) := [
  (0, .aload_n 0, 1, 0, 0, 0),
  (1, .getfield 12, 3, 9, 0, 292),
  (4, .getfield 107, 3, 4, 1, 184),
  (7, .iload_n 1, 1, 0, 0, 0),
  (8, .invokevirtual 125, 3, 5, 0, 478),
  (11, .ifCond .ne 5, 3, 0, 0, 0),
  (14, .iconst (-1), 1, 0, 0, 0),
  (15, .ireturn, 1, 0, 0, 0),
  (16, .aload_n 0, 1, 0, 0, 0),
  (17, .getfield 12, 3, 9, 0, 292),
  (20, .getfield 107, 3, 4, 1, 184),
  (23, .getfield 135, 3, 1, 4, 135),
  (26, .iload_n 1, 1, 0, 0, 0),
  (27, .iaload, 1, 0, 0, 0),
  (28, .ifCond .eq 6, 3, 0, 0, 0),
  (31, .bipush (-5), 2, 0, 0, 0),
  (33, .ireturn, 1, 0, 0, 0),
  (34, .aload_n 0, 1, 0, 0, 0),
  (35, .getfield 19, 3, 9, 1, 293),
  (38, .aload_n 0, 1, 0, 0, 0),
  (39, .getfield 12, 3, 9, 0, 292),
  (42, .invokevirtual 62, 3, 1, 0, 333),
  (45, .aload_n 0, 1, 0, 0, 0),
  (46, .getfield 12, 3, 9, 0, 292),
  (49, .getfield 107, 3, 4, 1, 184),
  (52, .getfield 135, 3, 1, 4, 135),
  (55, .iload_n 1, 1, 0, 0, 0),
  (56, .iconst 2, 1, 0, 0, 0),
  (57, .iastore, 1, 0, 0, 0),
  (58, .aload_n 0, 1, 0, 0, 0),
  (59, .getfield 12, 3, 9, 0, 292),
  (62, .getfield 107, 3, 4, 1, 184),
  (65, .iconst 0, 1, 0, 0, 0),
  (66, .invokevirtual 138, 3, 25, 0, 515),
  (69, .ireturn, 1, 0, 0, 0)
  ]
/-- X9_wash -/
def zp94 : List (Nat × zRow) := [
  (0, .aload_n 0, 1, 0, 0, 0),
  (1, .getfield 12, 3, 9, 0, 292),
  (4, .getfield 107, 3, 4, 1, 184),
  (7, .iload_n 1, 1, 0, 0, 0),
  (8, .invokevirtual 125, 3, 5, 0, 478),
  (11, .ifCond .ne 5, 3, 0, 0, 0),
  (14, .iconst (-1), 1, 0, 0, 0),
  (15, .ireturn, 1, 0, 0, 0),
  (16, .aload_n 0, 1, 0, 0, 0),
  (17, .getfield 12, 3, 9, 0, 292),
  (20, .iload_n 1, 1, 0, 0, 0),
  (21, .invokevirtual 141, 3, 56, 0, 523),
  (24, .bipush 60, 2, 0, 0, 0),
  (26, .if_icmp .le 6, 3, 0, 0, 0),
  (29, .bipush (-5), 2, 0, 0, 0),
  (31, .ireturn, 1, 0, 0, 0),
  (32, .aload_n 0, 1, 0, 0, 0),
  (33, .getfield 19, 3, 9, 1, 293),
  (36, .aload_n 0, 1, 0, 0, 0),
  (37, .getfield 12, 3, 9, 0, 292),
  (40, .invokevirtual 62, 3, 1, 0, 333),
  (43, .aload_n 0, 1, 0, 0, 0),
  (44, .getfield 12, 3, 9, 0, 292),
  (47, .getfield 107, 3, 4, 1, 184),
  (50, .iload_n 1, 1, 0, 0, 0),
  (51, .invokevirtual 144, 3, 9, 0, 527),
  (54, .aload_n 0, 1, 0, 0, 0),
  (55, .getfield 12, 3, 9, 0, 292),
  (58, .getfield 107, 3, 4, 1, 184),
  (61, .getfield 98, 3, 1, 7, 143),
  (64, .ireturn, 1, 0, 0, 0)
  ]
/-- X9_judge -/
def zp95 : List (Nat × zRow) := [
  (0, .aload_n 0, 1, 0, 0, 0),
  (1, .getfield 19, 3, 9, 1, 293),
  (4, .aload_n 0, 1, 0, 0, 0),
  (5, .getfield 12, 3, 9, 0, 292),
  (8, .invokevirtual 62, 3, 1, 0, 333),
  (11, .aload_n 0, 1, 0, 0, 0),
  (12, .getfield 12, 3, 9, 0, 292),
  (15, .invokevirtual 148, 3, 58, 0, 535),
  (18, .ireturn, 1, 0, 0, 0)
  ]
/-- X9_ship -/
def zp96 : List (Nat × zRow) := [
  (0, .aload_n 0, 1, 0, 0, 0),
  (1, .getfield 19, 3, 9, 1, 293),
  (4, .aload_n 0, 1, 0, 0, 0),
  (5, .getfield 12, 3, 9, 0, 292),
  (8, .invokevirtual 62, 3, 1, 0, 333),
  (11, .aload_n 0, 1, 0, 0, 0),
  (12, .getfield 47, 3, 9, 5, 297),
  (15, .aload_n 0, 1, 0, 0, 0),
  (16, .getfield 12, 3, 9, 0, 292),
  (19, .invokevirtual 152, 3, 81, 0, 549),
  (22, .aload_n 0, 1, 0, 0, 0),
  (23, .getfield 12, 3, 9, 0, 292),
  (26, .aload_n 0, 1, 0, 0, 0),
  (27, .getfield 47, 3, 9, 5, 297),
  (30, .invokevirtual 155, 3, 60, 0, 569),
  (33, .aload_n 0, 1, 0, 0, 0),
  (34, .getfield 12, 3, 9, 0, 292),
  (37, .getfield 159, 3, 4, 2, 186),
  (40, .getfield 163, 3, 7, 2, 171),
  (43, .iconst 1, 1, 0, 0, 0),
  (44, .isub, 1, 0, 0, 0),
  (45, .ireturn, 1, 0, 0, 0)
  ]
/-- X9_letter -/
def zp97 : List (Nat × zRow) := [
  (0, .iload_n 1, 1, 0, 0, 0),
  (1, .ifCond .ne 15, 3, 0, 0, 0),
  (4, .aload_n 0, 1, 0, 0, 0),
  (5, .getfield 12, 3, 9, 0, 292),
  (8, .getfield 73, 3, 4, 0, 180),
  (11, .iload_n 2, 1, 0, 0, 0),
  (12, .invokevirtual 168, 3, 67, 0, 606),
  (15, .ireturn, 1, 0, 0, 0),
  (16, .iload_n 1, 1, 0, 0, 0),
  (17, .iconst 1, 1, 0, 0, 0),
  (18, .if_icmp .ne 23, 3, 0, 0, 0),
  (21, .aload_n 0, 1, 0, 0, 0),
  (22, .getfield 47, 3, 9, 5, 297),
  (25, .aload_n 0, 1, 0, 0, 0),
  (26, .getfield 12, 3, 9, 0, 292),
  (29, .invokevirtual 152, 3, 81, 0, 549),
  (32, .aload_n 0, 1, 0, 0, 0),
  (33, .getfield 47, 3, 9, 5, 297),
  (36, .iload_n 2, 1, 0, 0, 0),
  (37, .invokevirtual 171, 3, 80, 0, 610),
  (40, .ireturn, 1, 0, 0, 0),
  (41, .bipush (-2), 2, 0, 0, 0),
  (43, .ireturn, 1, 0, 0, 0)
  ]
/-- X9_seen -/
def zp98 : List (Nat × zRow) := [
  (0, .iload_n 1, 1, 0, 0, 0),
  (1, .invokestatic 83, 3, 113, 0, 391),
  (4, .ifCond .ne 5, 3, 0, 0, 0),
  (7, .iconst (-1), 1, 0, 0, 0),
  (8, .ireturn, 1, 0, 0, 0),
  (9, .aload_n 0, 1, 0, 0, 0),
  (10, .getfield 47, 3, 9, 5, 297),
  (13, .iload_n 1, 1, 0, 0, 0),
  (14, .aload_n 0, 1, 0, 0, 0),
  (15, .getfield 12, 3, 9, 0, 292),
  (18, .invokevirtual 172, 3, 82, 0, 615),
  (21, .aload_n 0, 1, 0, 0, 0),
  (22, .getfield 47, 3, 9, 5, 297),
  (25, .iload_n 2, 1, 0, 0, 0),
  (26, .invokevirtual 171, 3, 80, 0, 610),
  (29, .ireturn, 1, 0, 0, 0)
  ]
/-- X9_of -/
def zp99 : List (Nat × zRow) := [
  (0, .aload_n 0, 1, 0, 0, 0),
  (1, .getfield 12, 3, 9, 0, 292),
  (4, .getfield 107, 3, 4, 1, 184),
  (7, .astore_n 3, 1, 0, 0, 0),
  (8, .aload_n 3, 1, 0, 0, 0),
  (9, .iload_n 1, 1, 0, 0, 0),
  (10, .invokevirtual 125, 3, 5, 0, 478),
  (13, .ifCond .ne 5, 3, 0, 0, 0),
  (16, .iconst (-1), 1, 0, 0, 0),
  (17, .ireturn, 1, 0, 0, 0),
  (18, .iload_n 2, 1, 0, 0, 0),
  (19, .tableswitch 102 0 7 #[45, 52, 59, 66, 73, 80, 87, 93], 45, 0, 0, 0),
  (64, .aload_n 3, 1, 0, 0, 0),
  (65, .getfield 176, 3, 1, 0, 119),
  (68, .iload_n 1, 1, 0, 0, 0),
  (69, .iaload, 1, 0, 0, 0),
  (70, .ireturn, 1, 0, 0, 0),
  (71, .aload_n 3, 1, 0, 0, 0),
  (72, .getfield 179, 3, 1, 1, 123),
  (75, .iload_n 1, 1, 0, 0, 0),
  (76, .iaload, 1, 0, 0, 0),
  (77, .ireturn, 1, 0, 0, 0),
  (78, .aload_n 3, 1, 0, 0, 0),
  (79, .getfield 182, 3, 1, 2, 127),
  (82, .iload_n 1, 1, 0, 0, 0),
  (83, .iaload, 1, 0, 0, 0),
  (84, .ireturn, 1, 0, 0, 0),
  (85, .aload_n 3, 1, 0, 0, 0),
  (86, .getfield 185, 3, 1, 3, 131),
  (89, .iload_n 1, 1, 0, 0, 0),
  (90, .iaload, 1, 0, 0, 0),
  (91, .ireturn, 1, 0, 0, 0),
  (92, .aload_n 3, 1, 0, 0, 0),
  (93, .getfield 188, 3, 1, 5, 138),
  (96, .iload_n 1, 1, 0, 0, 0),
  (97, .iaload, 1, 0, 0, 0),
  (98, .ireturn, 1, 0, 0, 0),
  (99, .aload_n 3, 1, 0, 0, 0),
  (100, .getfield 135, 3, 1, 4, 135),
  (103, .iload_n 1, 1, 0, 0, 0),
  (104, .iaload, 1, 0, 0, 0),
  (105, .ireturn, 1, 0, 0, 0),
  (106, .aload_n 3, 1, 0, 0, 0),
  (107, .iload_n 1, 1, 0, 0, 0),
  (108, .invokevirtual 191, 3, 22, 0, 627),
  (111, .ireturn, 1, 0, 0, 0),
  (112, .aload_n 3, 1, 0, 0, 0),
  (113, .iload_n 1, 1, 0, 0, 0),
  (114, .invokevirtual 194, 3, 20, 0, 635),
  (117, .bipush 100, 2, 0, 0, 0),
  (119, .iadd, 1, 0, 0, 0),
  (120, .ireturn, 1, 0, 0, 0),
  (121, .bipush (-2), 2, 0, 0, 0),
  (123, .ireturn, 1, 0, 0, 0)
  ]
/-- X9_clash -/
def zp100 : List (Nat × zRow) := [
  (0, .aload_n 0, 1, 0, 0, 0),
  (1, .getfield 12, 3, 9, 0, 292),
  (4, .getfield 107, 3, 4, 1, 184),
  (7, .iload_n 1, 1, 0, 0, 0),
  (8, .invokevirtual 125, 3, 5, 0, 478),
  (11, .ifCond .eq 17, 3, 0, 0, 0),
  (14, .aload_n 0, 1, 0, 0, 0),
  (15, .getfield 12, 3, 9, 0, 292),
  (18, .getfield 107, 3, 4, 1, 184),
  (21, .iload_n 2, 1, 0, 0, 0),
  (22, .invokevirtual 125, 3, 5, 0, 478),
  (25, .ifCond .ne 5, 3, 0, 0, 0),
  (28, .iconst (-1), 1, 0, 0, 0),
  (29, .ireturn, 1, 0, 0, 0),
  (30, .iload_n 1, 1, 0, 0, 0),
  (31, .iload_n 2, 1, 0, 0, 0),
  (32, .if_icmp .ne 6, 3, 0, 0, 0),
  (35, .bipush (-2), 2, 0, 0, 0),
  (37, .ireturn, 1, 0, 0, 0),
  (38, .aload_n 0, 1, 0, 0, 0),
  (39, .getfield 12, 3, 9, 0, 292),
  (42, .getfield 107, 3, 4, 1, 184),
  (45, .iload_n 1, 1, 0, 0, 0),
  (46, .iload_n 2, 1, 0, 0, 0),
  (47, .invokevirtual 197, 3, 12, 0, 640),
  (50, .ifCond .ne 5, 3, 0, 0, 0),
  (53, .iconst 0, 1, 0, 0, 0),
  (54, .ireturn, 1, 0, 0, 0),
  (55, .aload_n 0, 1, 0, 0, 0),
  (56, .getfield 12, 3, 9, 0, 292),
  (59, .getfield 107, 3, 4, 1, 184),
  (62, .iload_n 1, 1, 0, 0, 0),
  (63, .iload_n 2, 1, 0, 0, 0),
  (64, .invokevirtual 201, 3, 14, 0, 641),
  (67, .ifCond .eq 7, 3, 0, 0, 0),
  (70, .iconst 2, 1, 0, 0, 0),
  (71, .goto 4, 3, 0, 0, 0),
  (74, .iconst 1, 1, 0, 0, 0),
  (75, .ireturn, 1, 0, 0, 0)
  ]
/-- X9_editor -/
def zp101 : List (Nat × zRow) := [
  (0, .iload_n 1, 1, 0, 0, 0),
  (1, .invokestatic 83, 3, 113, 0, 391),
  (4, .ifCond .ne 5, 3, 0, 0, 0),
  (7, .iconst (-1), 1, 0, 0, 0),
  (8, .ireturn, 1, 0, 0, 0),
  (9, .iload_n 2, 1, 0, 0, 0),
  (10, .tableswitch 121 0 6 #[42, 52, 64, 77, 90, 103, 115], 42, 0, 0, 0),
  (52, .aload_n 0, 1, 0, 0, 0),
  (53, .getfield 12, 3, 9, 0, 292),
  (56, .getfield 87, 3, 4, 3, 188),
  (59, .iload_n 1, 1, 0, 0, 0),
  (60, .iaload, 1, 0, 0, 0),
  (61, .ireturn, 1, 0, 0, 0),
  (62, .aload_n 0, 1, 0, 0, 0),
  (63, .getfield 12, 3, 9, 0, 292),
  (66, .getfield 107, 3, 4, 1, 184),
  (69, .iload_n 1, 1, 0, 0, 0),
  (70, .invokevirtual 204, 3, 26, 0, 646),
  (73, .ireturn, 1, 0, 0, 0),
  (74, .aload_n 0, 1, 0, 0, 0),
  (75, .getfield 12, 3, 9, 0, 292),
  (78, .getfield 107, 3, 4, 1, 184),
  (81, .iload_n 1, 1, 0, 0, 0),
  (82, .iconst 0, 1, 0, 0, 0),
  (83, .invokevirtual 207, 3, 27, 0, 650),
  (86, .ireturn, 1, 0, 0, 0),
  (87, .aload_n 0, 1, 0, 0, 0),
  (88, .getfield 12, 3, 9, 0, 292),
  (91, .getfield 107, 3, 4, 1, 184),
  (94, .iload_n 1, 1, 0, 0, 0),
  (95, .iconst 1, 1, 0, 0, 0),
  (96, .invokevirtual 207, 3, 27, 0, 650),
  (99, .ireturn, 1, 0, 0, 0),
  (100, .aload_n 0, 1, 0, 0, 0),
  (101, .getfield 12, 3, 9, 0, 292),
  (104, .getfield 107, 3, 4, 1, 184),
  (107, .iload_n 1, 1, 0, 0, 0),
  (108, .iconst 2, 1, 0, 0, 0),
  (109, .invokevirtual 207, 3, 27, 0, 650),
  (112, .ireturn, 1, 0, 0, 0),
  (113, .aload_n 0, 1, 0, 0, 0),
  (114, .getfield 12, 3, 9, 0, 292),
  (117, .getfield 107, 3, 4, 1, 184),
  (120, .iload_n 1, 1, 0, 0, 0),
  (121, .invokevirtual 211, 3, 23, 0, 654),
  (124, .ireturn, 1, 0, 0, 0),
  (125, .aload_n 0, 1, 0, 0, 0),
  (126, .iload_n 1, 1, 0, 0, 0),
  (127, .invokevirtual 214, 3, 114, 0, 659),
  (130, .ireturn, 1, 0, 0, 0),
  (131, .bipush (-2), 2, 0, 0, 0),
  (133, .ireturn, 1, 0, 0, 0)
  ]
/-- X9_count -/
def zp102 : List (Nat × zRow) := [
  (0, .iload_n 1, 1, 0, 0, 0),
  (1, .tableswitch 158 0 9 #[55, 66, 74, 85, 97, 109, 120, 131, 142, 150], 55, 0, 0, 0),
  (56, .aload_n 0, 1, 0, 0, 0),
  (57, .getfield 12, 3, 9, 0, 292),
  (60, .getfield 73, 3, 4, 0, 180),
  (63, .getfield 77, 3, 6, 1, 100),
  (66, .ireturn, 1, 0, 0, 0),
  (67, .aload_n 0, 1, 0, 0, 0),
  (68, .getfield 12, 3, 9, 0, 292),
  (71, .invokevirtual 217, 3, 55, 0, 667),
  (74, .ireturn, 1, 0, 0, 0),
  (75, .aload_n 0, 1, 0, 0, 0),
  (76, .getfield 12, 3, 9, 0, 292),
  (79, .getfield 107, 3, 4, 1, 184),
  (82, .getfield 98, 3, 1, 7, 143),
  (85, .ireturn, 1, 0, 0, 0),
  (86, .aload_n 0, 1, 0, 0, 0),
  (87, .getfield 12, 3, 9, 0, 292),
  (90, .getfield 107, 3, 4, 1, 184),
  (93, .iconst 0, 1, 0, 0, 0),
  (94, .invokevirtual 138, 3, 25, 0, 515),
  (97, .ireturn, 1, 0, 0, 0),
  (98, .aload_n 0, 1, 0, 0, 0),
  (99, .getfield 12, 3, 9, 0, 292),
  (102, .getfield 107, 3, 4, 1, 184),
  (105, .iconst 1, 1, 0, 0, 0),
  (106, .invokevirtual 138, 3, 25, 0, 515),
  (109, .ireturn, 1, 0, 0, 0),
  (110, .aload_n 0, 1, 0, 0, 0),
  (111, .getfield 12, 3, 9, 0, 292),
  (114, .getfield 107, 3, 4, 1, 184),
  (117, .invokevirtual 220, 3, 24, 0, 668),
  (120, .ireturn, 1, 0, 0, 0),
  (121, .aload_n 0, 1, 0, 0, 0),
  (122, .getfield 12, 3, 9, 0, 292),
  (125, .getfield 159, 3, 4, 2, 186),
  (128, .getfield 163, 3, 7, 2, 171),
  (131, .ireturn, 1, 0, 0, 0),
  (132, .aload_n 0, 1, 0, 0, 0),
  (133, .getfield 12, 3, 9, 0, 292),
  (136, .getfield 159, 3, 4, 2, 186),
  (139, .invokevirtual 223, 3, 71, 0, 672),
  (142, .ireturn, 1, 0, 0, 0),
  (143, .aload_n 0, 1, 0, 0, 0),
  (144, .getfield 33, 3, 9, 3, 295),
  (147, .getfield 226, 3, 2, 1, 246),
  (150, .ireturn, 1, 0, 0, 0),
  (151, .aload_n 0, 1, 0, 0, 0),
  (152, .getfield 19, 3, 9, 1, 293),
  (155, .getfield 227, 3, 0, 2, 210),
  (158, .ireturn, 1, 0, 0, 0),
  (159, .bipush (-2), 2, 0, 0, 0),
  (161, .ireturn, 1, 0, 0, 0)
  ]
/-- X9_version -/
def zp103 : List (Nat × zRow) := [
  (0, .aload_n 0, 1, 0, 0, 0),
  (1, .getfield 12, 3, 9, 0, 292),
  (4, .getfield 159, 3, 4, 2, 186),
  (7, .iload_n 1, 1, 0, 0, 0),
  (8, .invokevirtual 228, 3, 72, 0, 681),
  (11, .ifCond .ne 5, 3, 0, 0, 0),
  (14, .iconst (-1), 1, 0, 0, 0),
  (15, .ireturn, 1, 0, 0, 0),
  (16, .iload_n 2, 1, 0, 0, 0),
  (17, .bipush (-6), 2, 0, 0, 0),
  (19, .if_icmp .ne 15, 3, 0, 0, 0),
  (22, .aload_n 0, 1, 0, 0, 0),
  (23, .getfield 12, 3, 9, 0, 292),
  (26, .getfield 159, 3, 4, 2, 186),
  (29, .iload_n 1, 1, 0, 0, 0),
  (30, .invokevirtual 229, 3, 74, 0, 686),
  (33, .ireturn, 1, 0, 0, 0),
  (34, .aload_n 0, 1, 0, 0, 0),
  (35, .getfield 12, 3, 9, 0, 292),
  (38, .getfield 159, 3, 4, 2, 186),
  (41, .iload_n 1, 1, 0, 0, 0),
  (42, .iload_n 2, 1, 0, 0, 0),
  (43, .invokevirtual 232, 3, 75, 0, 698),
  (46, .ireturn, 1, 0, 0, 0)
  ]
/-- X9_apart -/
def zp104 : List (Nat × zRow) := [
  (0, .aload_n 0, 1, 0, 0, 0),
  (1, .getfield 12, 3, 9, 0, 292),
  (4, .getfield 159, 3, 4, 2, 186),
  (7, .iload_n 1, 1, 0, 0, 0),
  (8, .invokevirtual 228, 3, 72, 0, 681),
  (11, .ifCond .eq 17, 3, 0, 0, 0),
  (14, .aload_n 0, 1, 0, 0, 0),
  (15, .getfield 12, 3, 9, 0, 292),
  (18, .getfield 159, 3, 4, 2, 186),
  (21, .iload_n 2, 1, 0, 0, 0),
  (22, .invokevirtual 228, 3, 72, 0, 681),
  (25, .ifCond .ne 5, 3, 0, 0, 0),
  (28, .iconst (-1), 1, 0, 0, 0),
  (29, .ireturn, 1, 0, 0, 0),
  (30, .aload_n 0, 1, 0, 0, 0),
  (31, .getfield 12, 3, 9, 0, 292),
  (34, .getfield 159, 3, 4, 2, 186),
  (37, .iload_n 1, 1, 0, 0, 0),
  (38, .iload_n 2, 1, 0, 0, 0),
  (39, .aload_n 0, 1, 0, 0, 0),
  (40, .getfield 55, 3, 9, 7, 299),
  (43, .invokevirtual 234, 3, 77, 0, 707),
  (46, .ireturn, 1, 0, 0, 0)
  ]
/-- X9_ifAccepted -/
def zp105 : List (Nat × zRow) := [
  (0, .aload_n 0, 1, 0, 0, 0),
  (1, .getfield 12, 3, 9, 0, 292),
  (4, .getfield 107, 3, 4, 1, 184),
  (7, .iload_n 1, 1, 0, 0, 0),
  (8, .invokevirtual 125, 3, 5, 0, 478),
  (11, .ifCond .ne 5, 3, 0, 0, 0),
  (14, .iconst (-1), 1, 0, 0, 0),
  (15, .ireturn, 1, 0, 0, 0),
  (16, .iload_n 2, 1, 0, 0, 0),
  (17, .ifCond .eq 11, 3, 0, 0, 0),
  (20, .iload_n 2, 1, 0, 0, 0),
  (21, .iconst 1, 1, 0, 0, 0),
  (22, .if_icmp .eq 6, 3, 0, 0, 0),
  (25, .bipush (-2), 2, 0, 0, 0),
  (27, .ireturn, 1, 0, 0, 0),
  (28, .aload_n 0, 1, 0, 0, 0),
  (29, .getfield 12, 3, 9, 0, 292),
  (32, .getfield 107, 3, 4, 1, 184),
  (35, .getfield 135, 3, 1, 4, 135),
  (38, .iload_n 1, 1, 0, 0, 0),
  (39, .iaload, 1, 0, 0, 0),
  (40, .ifCond .ne 18, 3, 0, 0, 0),
  (43, .aload_n 0, 1, 0, 0, 0),
  (44, .getfield 12, 3, 9, 0, 292),
  (47, .getfield 107, 3, 4, 1, 184),
  (50, .iload_n 1, 1, 0, 0, 0),
  (51, .iconst 1, 1, 0, 0, 0),
  (52, .invokevirtual 238, 3, 16, 0, 715),
  (55, .ifCond .eq 6, 3, 0, 0, 0),
  (58, .bipush (-5), 2, 0, 0, 0),
  (60, .ireturn, 1, 0, 0, 0),
  (61, .iload_n 2, 1, 0, 0, 0),
  (62, .ifCond .ne 17, 3, 0, 0, 0),
  (65, .aload_n 0, 1, 0, 0, 0),
  (66, .getfield 12, 3, 9, 0, 292),
  (69, .getfield 107, 3, 4, 1, 184),
  (72, .iload_n 1, 1, 0, 0, 0),
  (73, .invokevirtual 241, 3, 18, 0, 716),
  (76, .goto 22, 3, 0, 0, 0),
  (79, .aload_n 0, 1, 0, 0, 0),
  (80, .getfield 12, 3, 9, 0, 292),
  (83, .invokevirtual 217, 3, 55, 0, 667),
  (86, .aload_n 0, 1, 0, 0, 0),
  (87, .getfield 12, 3, 9, 0, 292),
  (90, .getfield 107, 3, 4, 1, 184),
  (93, .iload_n 1, 1, 0, 0, 0),
  (94, .invokevirtual 194, 3, 20, 0, 635),
  (97, .iadd, 1, 0, 0, 0),
  (98, .ireturn, 1, 0, 0, 0)
  ]
/-- X9_ifJudged -/
def zp106 : List (Nat × zRow) := [
  (0, .iload_n 1, 1, 0, 0, 0),
  (1, .ifCond .lt 8, 3, 0, 0, 0),
  (4, .iload_n 1, 1, 0, 0, 0),
  (5, .iconst 5, 1, 0, 0, 0),
  (6, .if_icmp .le 6, 3, 0, 0, 0),
  (9, .bipush (-2), 2, 0, 0, 0),
  (11, .ireturn, 1, 0, 0, 0),
  (12, .aload_n 0, 1, 0, 0, 0),
  (13, .getfield 12, 3, 9, 0, 292),
  (16, .getfield 107, 3, 4, 1, 184),
  (19, .getfield 135, 3, 1, 4, 135),
  (22, .iconst 0, 1, 0, 0, 0),
  (23, .aload_n 0, 1, 0, 0, 0),
  (24, .getfield 51, 3, 9, 6, 298),
  (27, .iconst 0, 1, 0, 0, 0),
  (28, .bipush 20, 2, 0, 0, 0),
  (30, .invokestatic 244, 3, 1001, 0, 724),
  (33, .aload_n 0, 1, 0, 0, 0),
  (34, .getfield 12, 3, 9, 0, 292),
  (37, .invokevirtual 148, 3, 58, 0, 535),
  (40, .pop, 1, 0, 0, 0),
  (41, .iload_n 1, 1, 0, 0, 0),
  (42, .iconst 5, 1, 0, 0, 0),
  (43, .if_icmp .ne 13, 3, 0, 0, 0),
  (46, .aload_n 0, 1, 0, 0, 0),
  (47, .getfield 12, 3, 9, 0, 292),
  (50, .invokevirtual 217, 3, 55, 0, 667),
  (53, .goto 18, 3, 0, 0, 0),
  (56, .aload_n 0, 1, 0, 0, 0),
  (57, .getfield 12, 3, 9, 0, 292),
  (60, .getfield 107, 3, 4, 1, 184),
  (63, .aload_n 0, 1, 0, 0, 0),
  (64, .getfield 51, 3, 9, 6, 298),
  (67, .iload_n 1, 1, 0, 0, 0),
  (68, .invokevirtual 250, 3, 28, 0, 725),
  (71, .istore_n 2, 1, 0, 0, 0),
  (72, .aload_n 0, 1, 0, 0, 0),
  (73, .getfield 51, 3, 9, 6, 298),
  (76, .iconst 0, 1, 0, 0, 0),
  (77, .aload_n 0, 1, 0, 0, 0),
  (78, .getfield 12, 3, 9, 0, 292),
  (81, .getfield 107, 3, 4, 1, 184),
  (84, .getfield 135, 3, 1, 4, 135),
  (87, .iconst 0, 1, 0, 0, 0),
  (88, .bipush 20, 2, 0, 0, 0),
  (90, .invokestatic 244, 3, 1001, 0, 724),
  (93, .iload_n 2, 1, 0, 0, 0),
  (94, .ireturn, 1, 0, 0, 0)
  ]
/-- X9_put -/
def zp107 : List (Nat × zRow) := [
  (0, .lload_n 1, 1, 0, 0, 0),
  (1, .invokestatic 254, 3, 39, 0, 733),
  (4, .istore_n 3, 1, 0, 0, 0),
  (5, .iload_n 3, 1, 0, 0, 0),
  (6, .bipush (-6), 2, 0, 0, 0),
  (8, .if_icmp .ne 6, 3, 0, 0, 0),
  (11, .bipush (-2), 2, 0, 0, 0),
  (13, .ireturn, 1, 0, 0, 0),
  (14, .aload_n 0, 1, 0, 0, 0),
  (15, .getfield 33, 3, 9, 3, 295),
  (18, .getfield 226, 3, 2, 1, 246),
  (21, .iload_n 3, 1, 0, 0, 0),
  (22, .iadd, 1, 0, 0, 0),
  (23, .bipush 60, 2, 0, 0, 0),
  (25, .if_icmp .le 6, 3, 0, 0, 0),
  (28, .bipush (-4), 2, 0, 0, 0),
  (30, .ireturn, 1, 0, 0, 0),
  (31, .aload_n 0, 1, 0, 0, 0),
  (32, .getfield 33, 3, 9, 3, 295),
  (35, .lload_n 1, 1, 0, 0, 0),
  (36, .iload_n 3, 1, 0, 0, 0),
  (37, .invokevirtual 258, 3, 40, 0, 737),
  (40, .aload_n 0, 1, 0, 0, 0),
  (41, .getfield 33, 3, 9, 3, 295),
  (44, .getfield 226, 3, 2, 1, 246),
  (47, .ireturn, 1, 0, 0, 0)
  ]
/-- X9_wipe -/
def zp108 : List (Nat × zRow) := [
  (0, .aload_n 0, 1, 0, 0, 0),
  (1, .getfield 33, 3, 9, 3, 295),
  (4, .getfield 226, 3, 2, 1, 246),
  (7, .istore_n 1, 1, 0, 0, 0),
  (8, .aload_n 0, 1, 0, 0, 0),
  (9, .getfield 33, 3, 9, 3, 295),
  (12, .invokevirtual 70, 3, 35, 0, 383),
  (15, .iload_n 1, 1, 0, 0, 0),
  (16, .ireturn, 1, 0, 0, 0)
  ]
/-- X9_fault -/
def zp109 : List (Nat × zRow) := [
  (0, .aload_n 0, 1, 0, 0, 0),
  (1, .getfield 40, 3, 9, 4, 296),
  (4, .aload_n 0, 1, 0, 0, 0),
  (5, .getfield 33, 3, 9, 3, 295),
  (8, .invokevirtual 90, 3, 42, 0, 398),
  (11, .ireturn, 1, 0, 0, 0)
  ]
/-- X9_undo -/
def zp110 : List (Nat × zRow) := [
  (0, .aload_n 0, 1, 0, 0, 0),
  (1, .getfield 19, 3, 9, 1, 293),
  (4, .getfield 227, 3, 0, 2, 210),
  (7, .ifCond .ne 6, 3, 0, 0, 0),
  (10, .bipush (-5), 2, 0, 0, 0),
  (12, .ireturn, 1, 0, 0, 0),
  (13, .aload_n 0, 1, 0, 0, 0),
  (14, .getfield 19, 3, 9, 1, 293),
  (17, .aload_n 0, 1, 0, 0, 0),
  (18, .getfield 12, 3, 9, 0, 292),
  (21, .invokevirtual 262, 3, 2, 0, 753),
  (24, .aload_n 0, 1, 0, 0, 0),
  (25, .getfield 19, 3, 9, 1, 293),
  (28, .getfield 227, 3, 0, 2, 210),
  (31, .ireturn, 1, 0, 0, 0)
  ]
/-- X9_save -/
def zp111 : List (Nat × zRow) := [
  (0, .iload_n 1, 1, 0, 0, 0),
  (1, .invokestatic 265, 3, 62, 0, 761),
  (4, .ifCond .ne 6, 3, 0, 0, 0),
  (7, .bipush (-2), 2, 0, 0, 0),
  (9, .ireturn, 1, 0, 0, 0),
  (10, .aload_n 0, 1, 0, 0, 0),
  (11, .getfield 26, 3, 9, 2, 294),
  (14, .iload_n 1, 1, 0, 0, 0),
  (15, .aload_n 0, 1, 0, 0, 0),
  (16, .getfield 12, 3, 9, 0, 292),
  (19, .invokevirtual 268, 3, 63, 0, 764),
  (22, .aload_n 0, 1, 0, 0, 0),
  (23, .getfield 12, 3, 9, 0, 292),
  (26, .getfield 107, 3, 4, 1, 184),
  (29, .getfield 98, 3, 1, 7, 143),
  (32, .ireturn, 1, 0, 0, 0)
  ]
/-- X9_restore -/
def zp112 : List (Nat × zRow) := [
  (0, .iload_n 1, 1, 0, 0, 0),
  (1, .invokestatic 265, 3, 62, 0, 761),
  (4, .ifCond .ne 6, 3, 0, 0, 0),
  (7, .bipush (-2), 2, 0, 0, 0),
  (9, .ireturn, 1, 0, 0, 0),
  (10, .aload_n 0, 1, 0, 0, 0),
  (11, .getfield 26, 3, 9, 2, 294),
  (14, .getfield 271, 3, 5, 1, 229),
  (17, .iload_n 1, 1, 0, 0, 0),
  (18, .baload, 1, 0, 0, 0),
  (19, .ifCond .ne 6, 3, 0, 0, 0),
  (22, .bipush (-5), 2, 0, 0, 0),
  (24, .ireturn, 1, 0, 0, 0),
  (25, .aload_n 0, 1, 0, 0, 0),
  (26, .getfield 19, 3, 9, 1, 293),
  (29, .aload_n 0, 1, 0, 0, 0),
  (30, .getfield 12, 3, 9, 0, 292),
  (33, .invokevirtual 62, 3, 1, 0, 333),
  (36, .aload_n 0, 1, 0, 0, 0),
  (37, .getfield 12, 3, 9, 0, 292),
  (40, .aload_n 0, 1, 0, 0, 0),
  (41, .getfield 26, 3, 9, 2, 294),
  (44, .getfield 275, 3, 5, 0, 227),
  (47, .iload_n 1, 1, 0, 0, 0),
  (48, .aaload, 1, 0, 0, 0),
  (49, .invokevirtual 279, 3, 51, 0, 773),
  (52, .aload_n 0, 1, 0, 0, 0),
  (53, .getfield 12, 3, 9, 0, 292),
  (56, .getfield 107, 3, 4, 1, 184),
  (59, .getfield 98, 3, 1, 7, 143),
  (62, .ireturn, 1, 0, 0, 0)
  ]
/-- X9_isEditor -/
def zp113 : List (Nat × zRow) := [
  (0, .iload_n 0, 1, 0, 0, 0),
  (1, .ifCond .lt 12, 3, 0, 0, 0),
  (4, .iload_n 0, 1, 0, 0, 0),
  (5, .iconst 5, 1, 0, 0, 0),
  (6, .if_icmp .ge 7, 3, 0, 0, 0),
  (9, .iconst 1, 1, 0, 0, 0),
  (10, .goto 4, 3, 0, 0, 0),
  (13, .iconst 0, 1, 0, 0, 0),
  (14, .ireturn, 1, 0, 0, 0)
  ]
/-- X9_seenLength -/
def zp114 : List (Nat × zRow) := [
  (0, .aload_n 0, 1, 0, 0, 0),
  (1, .getfield 47, 3, 9, 5, 297),
  (4, .iload_n 1, 1, 0, 0, 0),
  (5, .aload_n 0, 1, 0, 0, 0),
  (6, .getfield 12, 3, 9, 0, 292),
  (9, .invokevirtual 172, 3, 82, 0, 615),
  (12, .aload_n 0, 1, 0, 0, 0),
  (13, .getfield 47, 3, 9, 5, 297),
  (16, .getfield 282, 3, 8, 4, 280),
  (19, .ireturn, 1, 0, 0, 0)
  ]
/-- X10_init -/
def zp115 : List (Nat × zRow) := [
  (0, .aload_n 0, 1, 0, 0, 0),
  (1, .invokespecial 1, 3, 1000, 0, 779),
  (4, .aload_n 0, 1, 0, 0, 0),
  (5, .sipush 675, 3, 0, 0, 0),
  (8, .newarray .int, 2, 0, 0, 0),
  (10, .putfield 7, 3, 10, 1, 781),
  (13, .aload_n 0, 1, 0, 0, 0),
  (14, .sipush 675, 3, 0, 0, 0),
  (17, .newarray .int, 2, 0, 0, 0),
  (19, .putfield 13, 3, 10, 2, 782),
  (22, .aload_n 0, 1, 0, 0, 0),
  (23, .sipush 4050, 3, 0, 0, 0),
  (26, .newarray .int, 2, 0, 0, 0),
  (28, .putfield 16, 3, 10, 3, 783),
  (31, .aload_n 0, 1, 0, 0, 0),
  (32, .sipush 1350, 3, 0, 0, 0),
  (35, .newarray .int, 2, 0, 0, 0),
  (37, .putfield 19, 3, 10, 5, 785),
  (40, .aload_n 0, 1, 0, 0, 0),
  (41, .iconst 2, 1, 0, 0, 0),
  (42, .newarray .boolean, 2, 0, 0, 0),
  (44, .putfield 22, 3, 10, 6, 786),
  (47, .aload_n 0, 1, 0, 0, 0),
  (48, .bipush 60, 2, 0, 0, 0),
  (50, .newarray .int, 2, 0, 0, 0),
  (52, .putfield 26, 3, 10, 7, 787),
  (55, .aload_n 0, 1, 0, 0, 0),
  (56, .bipush 20, 2, 0, 0, 0),
  (58, .newarray .boolean, 2, 0, 0, 0),
  (60, .putfield 29, 3, 10, 9, 789),
  (63, .aload_n 0, 1, 0, 0, 0),
  (64, .sipush 180, 3, 0, 0, 0),
  (67, .newarray .int, 2, 0, 0, 0),
  (69, .putfield 32, 3, 10, 10, 790),
  (72, .aload_n 0, 1, 0, 0, 0),
  (73, .bipush 20, 2, 0, 0, 0),
  (75, .newarray .boolean, 2, 0, 0, 0),
  (77, .putfield 35, 3, 10, 12, 792),
  (80, .aload_n 0, 1, 0, 0, 0),
  (81, .bipush 61, 2, 0, 0, 0),
  (83, .newarray .int, 2, 0, 0, 0),
  (85, .putfield 38, 3, 10, 13, 793),
  (88, .aload_n 0, 1, 0, 0, 0),
  (89, .bipush 61, 2, 0, 0, 0),
  (91, .newarray .int, 2, 0, 0, 0),
  (93, .putfield 41, 3, 10, 14, 794),
  (96, .aload_n 0, 1, 0, 0, 0),
  (97, .sipush 192, 3, 0, 0, 0),
  (100, .newarray .int, 2, 0, 0, 0),
  (102, .putfield 44, 3, 10, 17, 797),
  (105, .aload_n 0, 1, 0, 0, 0),
  (106, .iconst 0, 1, 0, 0, 0),
  (107, .putfield 47, 3, 10, 0, 780),
  (110, .iconst 0, 1, 0, 0, 0),
  (111, .istore_n 1, 1, 0, 0, 0),
  (112, .iload_n 1, 1, 0, 0, 0),
  (113, .iconst 5, 1, 0, 0, 0),
  (114, .if_icmp .ge 19, 3, 0, 0, 0),
  (117, .aload_n 0, 1, 0, 0, 0),
  (118, .getfield 7, 3, 10, 1, 781),
  (121, .bipush 61, 2, 0, 0, 0),
  (123, .iload_n 1, 1, 0, 0, 0),
  (124, .iadd, 1, 0, 0, 0),
  (125, .iload_n 1, 1, 0, 0, 0),
  (126, .iastore, 1, 0, 0, 0),
  (127, .iinc 1 1, 3, 0, 0, 0),
  (130, .goto (-18), 3, 0, 0, 0),
  (133, .return_, 1, 0, 0, 0)
  ]
/-- X10_in -/
def zp116 : List (Nat × zRow) := [
  (0, .iload_n 0, 1, 0, 0, 0),
  (1, .iload_n 1, 1, 0, 0, 0),
  (2, .if_icmp .lt 12, 3, 0, 0, 0),
  (5, .iload_n 0, 1, 0, 0, 0),
  (6, .iload_n 2, 1, 0, 0, 0),
  (7, .if_icmp .gt 7, 3, 0, 0, 0),
  (10, .iconst 1, 1, 0, 0, 0),
  (11, .goto 4, 3, 0, 0, 0),
  (14, .iconst 0, 1, 0, 0, 0),
  (15, .ireturn, 1, 0, 0, 0)
  ]
/-- X10_get -/
def zp117 : List (Nat × zRow) := [
  (0, .aload_n 0, 1, 0, 0, 0),
  (1, .getfield 7, 3, 10, 1, 781),
  (4, .bipush 67, 2, 0, 0, 0),
  (6, .bipush 12, 2, 0, 0, 0),
  (8, .iload_n 1, 1, 0, 0, 0),
  (9, .imul, 1, 0, 0, 0),
  (10, .iadd, 1, 0, 0, 0),
  (11, .iload_n 2, 1, 0, 0, 0),
  (12, .iadd, 1, 0, 0, 0),
  (13, .iaload, 1, 0, 0, 0),
  (14, .ireturn, 1, 0, 0, 0)
  ]
/-- X10_lays -/
def zp118 : List (Nat × zRow) := [
  (0, .aload_n 0, 1, 0, 0, 0),
  (1, .getfield 7, 3, 10, 1, 781),
  (4, .bipush 67, 2, 0, 0, 0),
  (6, .bipush 12, 2, 0, 0, 0),
  (8, .iload_n 1, 1, 0, 0, 0),
  (9, .imul, 1, 0, 0, 0),
  (10, .iadd, 1, 0, 0, 0),
  (11, .iload_n 2, 1, 0, 0, 0),
  (12, .iadd, 1, 0, 0, 0),
  (13, .iload_n 3, 1, 0, 0, 0),
  (14, .iastore, 1, 0, 0, 0),
  (15, .return_, 1, 0, 0, 0)
  ]
/-- X10_isMark -/
def zp119 : List (Nat × zRow) := [
  (0, .iload_n 1, 1, 0, 0, 0),
  (1, .iconst 0, 1, 0, 0, 0),
  (2, .aload_n 0, 1, 0, 0, 0),
  (3, .getfield 7, 3, 10, 1, 781),
  (6, .bipush 66, 2, 0, 0, 0),
  (8, .iaload, 1, 0, 0, 0),
  (9, .iconst 1, 1, 0, 0, 0),
  (10, .isub, 1, 0, 0, 0),
  (11, .invokestatic 51, 3, 116, 0, 842),
  (14, .ireturn, 1, 0, 0, 0)
  ]
/-- X10_isEditor -/
def zp120 : List (Nat × zRow) := [
  (0, .iload_n 0, 1, 0, 0, 0),
  (1, .iconst 0, 1, 0, 0, 0),
  (2, .iconst 4, 1, 0, 0, 0),
  (3, .invokestatic 51, 3, 116, 0, 842),
  (6, .ireturn, 1, 0, 0, 0)
  ]
/-- X10_records -/
def zp121 : List (Nat × zRow) := [
  (0, .aload_n 0, 1, 0, 0, 0),
  (1, .getfield 55, 3, 10, 4, 784),
  (4, .bipush 6, 2, 0, 0, 0),
  (6, .if_icmp .ne 44, 3, 0, 0, 0),
  (9, .iconst 0, 1, 0, 0, 0),
  (10, .istore_n 1, 1, 0, 0, 0),
  (11, .iload_n 1, 1, 0, 0, 0),
  (12, .sipush 3375, 3, 0, 0, 0),
  (15, .if_icmp .ge 25, 3, 0, 0, 0),
  (18, .aload_n 0, 1, 0, 0, 0),
  (19, .getfield 16, 3, 10, 3, 783),
  (22, .iload_n 1, 1, 0, 0, 0),
  (23, .aload_n 0, 1, 0, 0, 0),
  (24, .getfield 16, 3, 10, 3, 783),
  (27, .iload_n 1, 1, 0, 0, 0),
  (28, .sipush 675, 3, 0, 0, 0),
  (31, .iadd, 1, 0, 0, 0),
  (32, .iaload, 1, 0, 0, 0),
  (33, .iastore, 1, 0, 0, 0),
  (34, .iinc 1 1, 3, 0, 0, 0),
  (37, .goto (-26), 3, 0, 0, 0),
  (40, .aload_n 0, 1, 0, 0, 0),
  (41, .dup, 1, 0, 0, 0),
  (42, .getfield 55, 3, 10, 4, 784),
  (45, .iconst 1, 1, 0, 0, 0),
  (46, .isub, 1, 0, 0, 0),
  (47, .putfield 55, 3, 10, 4, 784),
  (50, .iconst 0, 1, 0, 0, 0),
  (51, .istore_n 1, 1, 0, 0, 0),
  (52, .iload_n 1, 1, 0, 0, 0),
  (53, .sipush 675, 3, 0, 0, 0),
  (56, .if_icmp .ge 30, 3, 0, 0, 0),
  (59, .aload_n 0, 1, 0, 0, 0),
  (60, .getfield 16, 3, 10, 3, 783),
  (63, .sipush 675, 3, 0, 0, 0),
  (66, .aload_n 0, 1, 0, 0, 0),
  (67, .getfield 55, 3, 10, 4, 784),
  (70, .imul, 1, 0, 0, 0),
  (71, .iload_n 1, 1, 0, 0, 0),
  (72, .iadd, 1, 0, 0, 0),
  (73, .aload_n 0, 1, 0, 0, 0),
  (74, .getfield 7, 3, 10, 1, 781),
  (77, .iload_n 1, 1, 0, 0, 0),
  (78, .iaload, 1, 0, 0, 0),
  (79, .iastore, 1, 0, 0, 0),
  (80, .iinc 1 1, 3, 0, 0, 0),
  (83, .goto (-31), 3, 0, 0, 0),
  (86, .aload_n 0, 1, 0, 0, 0),
  (87, .dup, 1, 0, 0, 0),
  (88, .getfield 55, 3, 10, 4, 784),
  (91, .iconst 1, 1, 0, 0, 0),
  (92, .iadd, 1, 0, 0, 0),
  (93, .putfield 55, 3, 10, 4, 784),
  (96, .return_, 1, 0, 0, 0)
  ]
/-- X10_putAside -/
def zp122 : List (Nat × zRow) := [
  (0, .iconst 0, 1, 0, 0, 0),
  (1, .istore_n 1, 1, 0, 0, 0),
  (2, .iload_n 1, 1, 0, 0, 0),
  (3, .sipush 675, 3, 0, 0, 0),
  (6, .if_icmp .ge 21, 3, 0, 0, 0),
  (9, .aload_n 0, 1, 0, 0, 0),
  (10, .getfield 13, 3, 10, 2, 782),
  (13, .iload_n 1, 1, 0, 0, 0),
  (14, .aload_n 0, 1, 0, 0, 0),
  (15, .getfield 7, 3, 10, 1, 781),
  (18, .iload_n 1, 1, 0, 0, 0),
  (19, .iaload, 1, 0, 0, 0),
  (20, .iastore, 1, 0, 0, 0),
  (21, .iinc 1 1, 3, 0, 0, 0),
  (24, .goto (-22), 3, 0, 0, 0),
  (27, .return_, 1, 0, 0, 0)
  ]
/-- X10_takeBack -/
def zp123 : List (Nat × zRow) := [
  (0, .iconst 0, 1, 0, 0, 0),
  (1, .istore_n 1, 1, 0, 0, 0),
  (2, .iload_n 1, 1, 0, 0, 0),
  (3, .sipush 675, 3, 0, 0, 0),
  (6, .if_icmp .ge 21, 3, 0, 0, 0),
  (9, .aload_n 0, 1, 0, 0, 0),
  (10, .getfield 7, 3, 10, 1, 781),
  (13, .iload_n 1, 1, 0, 0, 0),
  (14, .aload_n 0, 1, 0, 0, 0),
  (15, .getfield 13, 3, 10, 2, 782),
  (18, .iload_n 1, 1, 0, 0, 0),
  (19, .iaload, 1, 0, 0, 0),
  (20, .iastore, 1, 0, 0, 0),
  (21, .iinc 1 1, 3, 0, 0, 0),
  (24, .goto (-22), 3, 0, 0, 0),
  (27, .return_, 1, 0, 0, 0)
  ]
/-- X10_clashes -/
def zp124 : List (Nat × zRow) := [
  (0, .aload_n 0, 1, 0, 0, 0),
  (1, .iload_n 1, 1, 0, 0, 0),
  (2, .iconst 1, 1, 0, 0, 0),
  (3, .invokevirtual 58, 3, 117, 0, 900),
  (6, .iconst 1, 1, 0, 0, 0),
  (7, .if_icmp .ne 7, 3, 0, 0, 0),
  (10, .iconst 1, 1, 0, 0, 0),
  (11, .goto 4, 3, 0, 0, 0),
  (14, .iconst 0, 1, 0, 0, 0),
  (15, .istore_n 3, 1, 0, 0, 0),
  (16, .aload_n 0, 1, 0, 0, 0),
  (17, .iload_n 2, 1, 0, 0, 0),
  (18, .iconst 1, 1, 0, 0, 0),
  (19, .invokevirtual 58, 3, 117, 0, 900),
  (22, .iconst 1, 1, 0, 0, 0),
  (23, .if_icmp .ne 7, 3, 0, 0, 0),
  (26, .iconst 1, 1, 0, 0, 0),
  (27, .goto 4, 3, 0, 0, 0),
  (30, .iconst 0, 1, 0, 0, 0),
  (31, .istore 4, 2, 0, 0, 0),
  (33, .iload_n 3, 1, 0, 0, 0),
  (34, .ifCond .eq 29, 3, 0, 0, 0),
  (37, .iload 4, 2, 0, 0, 0),
  (39, .ifCond .eq 24, 3, 0, 0, 0),
  (42, .aload_n 0, 1, 0, 0, 0),
  (43, .iload_n 1, 1, 0, 0, 0),
  (44, .iconst 2, 1, 0, 0, 0),
  (45, .invokevirtual 58, 3, 117, 0, 900),
  (48, .aload_n 0, 1, 0, 0, 0),
  (49, .iload_n 2, 1, 0, 0, 0),
  (50, .iconst 2, 1, 0, 0, 0),
  (51, .invokevirtual 58, 3, 117, 0, 900),
  (54, .if_icmp .ne 7, 3, 0, 0, 0),
  (57, .iconst 1, 1, 0, 0, 0),
  (58, .goto 4, 3, 0, 0, 0),
  (61, .iconst 0, 1, 0, 0, 0),
  (62, .ireturn, 1, 0, 0, 0),
  (63, .iload_n 3, 1, 0, 0, 0),
  (64, .ifCond .ne 8, 3, 0, 0, 0),
  (67, .iload 4, 2, 0, 0, 0),
  (69, .ifCond .eq 60, 3, 0, 0, 0),
  (72, .aload_n 0, 1, 0, 0, 0),
  (73, .iload_n 3, 1, 0, 0, 0),
  (74, .ifCond .eq 7, 3, 0, 0, 0),
  (77, .iload_n 1, 1, 0, 0, 0),
  (78, .goto 4, 3, 0, 0, 0),
  (81, .iload_n 2, 1, 0, 0, 0),
  (82, .iconst 2, 1, 0, 0, 0),
  (83, .invokevirtual 58, 3, 117, 0, 900),
  (86, .istore 5, 2, 0, 0, 0),
  (88, .iload_n 3, 1, 0, 0, 0),
  (89, .ifCond .eq 7, 3, 0, 0, 0),
  (92, .iload_n 2, 1, 0, 0, 0),
  (93, .goto 4, 3, 0, 0, 0),
  (96, .iload_n 1, 1, 0, 0, 0),
  (97, .istore 6, 2, 0, 0, 0),
  (99, .iload 5, 2, 0, 0, 0),
  (101, .aload_n 0, 1, 0, 0, 0),
  (102, .iload 6, 2, 0, 0, 0),
  (104, .iconst 2, 1, 0, 0, 0),
  (105, .invokevirtual 58, 3, 117, 0, 900),
  (108, .if_icmp .le 19, 3, 0, 0, 0),
  (111, .iload 5, 2, 0, 0, 0),
  (113, .aload_n 0, 1, 0, 0, 0),
  (114, .iload 6, 2, 0, 0, 0),
  (116, .iconst 3, 1, 0, 0, 0),
  (117, .invokevirtual 58, 3, 117, 0, 900),
  (120, .if_icmp .ge 7, 3, 0, 0, 0),
  (123, .iconst 1, 1, 0, 0, 0),
  (124, .goto 4, 3, 0, 0, 0),
  (127, .iconst 0, 1, 0, 0, 0),
  (128, .ireturn, 1, 0, 0, 0),
  (129, .aload_n 0, 1, 0, 0, 0),
  (130, .iload_n 1, 1, 0, 0, 0),
  (131, .iconst 2, 1, 0, 0, 0),
  (132, .invokevirtual 58, 3, 117, 0, 900),
  (135, .aload_n 0, 1, 0, 0, 0),
  (136, .iload_n 2, 1, 0, 0, 0),
  (137, .iconst 3, 1, 0, 0, 0),
  (138, .invokevirtual 58, 3, 117, 0, 900),
  (141, .if_icmp .ge 22, 3, 0, 0, 0),
  (144, .aload_n 0, 1, 0, 0, 0),
  (145, .iload_n 2, 1, 0, 0, 0),
  (146, .iconst 2, 1, 0, 0, 0),
  (147, .invokevirtual 58, 3, 117, 0, 900),
  (150, .aload_n 0, 1, 0, 0, 0),
  (151, .iload_n 1, 1, 0, 0, 0),
  (152, .iconst 3, 1, 0, 0, 0),
  (153, .invokevirtual 58, 3, 117, 0, 900),
  (156, .if_icmp .ge 7, 3, 0, 0, 0),
  (159, .iconst 1, 1, 0, 0, 0),
  (160, .goto 4, 3, 0, 0, 0),
  (163, .iconst 0, 1, 0, 0, 0),
  (164, .ireturn, 1, 0, 0, 0)
  ]
/-- X10_quarrels -/
def zp125 : List (Nat × zRow) := [
  (0, .iload_n 1, 1, 0, 0, 0),
  (1, .iload_n 2, 1, 0, 0, 0),
  (2, .if_icmp .eq 51, 3, 0, 0, 0),
  (5, .aload_n 0, 1, 0, 0, 0),
  (6, .iload_n 1, 1, 0, 0, 0),
  (7, .iconst 5, 1, 0, 0, 0),
  (8, .invokevirtual 58, 3, 117, 0, 900),
  (11, .iconst 2, 1, 0, 0, 0),
  (12, .if_icmp .eq 41, 3, 0, 0, 0),
  (15, .aload_n 0, 1, 0, 0, 0),
  (16, .iload_n 2, 1, 0, 0, 0),
  (17, .iconst 5, 1, 0, 0, 0),
  (18, .invokevirtual 58, 3, 117, 0, 900),
  (21, .iconst 2, 1, 0, 0, 0),
  (22, .if_icmp .eq 31, 3, 0, 0, 0),
  (25, .aload_n 0, 1, 0, 0, 0),
  (26, .iload_n 1, 1, 0, 0, 0),
  (27, .iconst 0, 1, 0, 0, 0),
  (28, .invokevirtual 58, 3, 117, 0, 900),
  (31, .aload_n 0, 1, 0, 0, 0),
  (32, .iload_n 2, 1, 0, 0, 0),
  (33, .iconst 0, 1, 0, 0, 0),
  (34, .invokevirtual 58, 3, 117, 0, 900),
  (37, .if_icmp .eq 16, 3, 0, 0, 0),
  (40, .aload_n 0, 1, 0, 0, 0),
  (41, .iload_n 1, 1, 0, 0, 0),
  (42, .iload_n 2, 1, 0, 0, 0),
  (43, .invokevirtual 62, 3, 124, 0, 904),
  (46, .ifCond .eq 7, 3, 0, 0, 0),
  (49, .iconst 1, 1, 0, 0, 0),
  (50, .goto 4, 3, 0, 0, 0),
  (53, .iconst 0, 1, 0, 0, 0),
  (54, .ireturn, 1, 0, 0, 0)
  ]
/-- X10_clashing -/
def zp126 : List (Nat × zRow) := [
  (0, .iconst 0, 1, 0, 0, 0),
  (1, .istore_n 3, 1, 0, 0, 0),
  (2, .iconst 0, 1, 0, 0, 0),
  (3, .istore 4, 2, 0, 0, 0),
  (5, .iload 4, 2, 0, 0, 0),
  (7, .aload_n 0, 1, 0, 0, 0),
  (8, .getfield 7, 3, 10, 1, 781),
  (11, .bipush 66, 2, 0, 0, 0),
  (13, .iaload, 1, 0, 0, 0),
  (14, .if_icmp .ge 44, 3, 0, 0, 0),
  (17, .iload_n 3, 1, 0, 0, 0),
  (18, .iload 4, 2, 0, 0, 0),
  (20, .iload_n 1, 1, 0, 0, 0),
  (21, .if_icmp .eq 28, 3, 0, 0, 0),
  (24, .aload_n 0, 1, 0, 0, 0),
  (25, .iload 4, 2, 0, 0, 0),
  (27, .iconst 5, 1, 0, 0, 0),
  (28, .invokevirtual 58, 3, 117, 0, 900),
  (31, .iload_n 2, 1, 0, 0, 0),
  (32, .if_icmp .ne 17, 3, 0, 0, 0),
  (35, .aload_n 0, 1, 0, 0, 0),
  (36, .iload_n 1, 1, 0, 0, 0),
  (37, .iload 4, 2, 0, 0, 0),
  (39, .invokevirtual 62, 3, 124, 0, 904),
  (42, .ifCond .eq 7, 3, 0, 0, 0),
  (45, .iconst 1, 1, 0, 0, 0),
  (46, .goto 4, 3, 0, 0, 0),
  (49, .iconst 0, 1, 0, 0, 0),
  (50, .iadd, 1, 0, 0, 0),
  (51, .istore_n 3, 1, 0, 0, 0),
  (52, .iinc 4 1, 3, 0, 0, 0),
  (55, .goto (-50), 3, 0, 0, 0),
  (58, .iload_n 3, 1, 0, 0, 0),
  (59, .ireturn, 1, 0, 0, 0)
  ]
/-- X10_longer -/
def zp127 : List (Nat × zRow) := [
  (0, .aload_n 0, 1, 0, 0, 0),
  (1, .iload_n 1, 1, 0, 0, 0),
  (2, .iconst 4, 1, 0, 0, 0),
  (3, .invokevirtual 58, 3, 117, 0, 900),
  (6, .aload_n 0, 1, 0, 0, 0),
  (7, .iload_n 1, 1, 0, 0, 0),
  (8, .iconst 3, 1, 0, 0, 0),
  (9, .invokevirtual 58, 3, 117, 0, 900),
  (12, .aload_n 0, 1, 0, 0, 0),
  (13, .iload_n 1, 1, 0, 0, 0),
  (14, .iconst 2, 1, 0, 0, 0),
  (15, .invokevirtual 58, 3, 117, 0, 900),
  (18, .isub, 1, 0, 0, 0),
  (19, .isub, 1, 0, 0, 0),
  (20, .ireturn, 1, 0, 0, 0)
  ]
/-- X10_printMany -/
def zp128 : List (Nat × zRow) := [
  (0, .aload_n 0, 1, 0, 0, 0),
  (1, .getfield 7, 3, 10, 1, 781),
  (4, .iconst 0, 1, 0, 0, 0),
  (5, .iaload, 1, 0, 0, 0),
  (6, .istore_n 1, 1, 0, 0, 0),
  (7, .iconst 0, 1, 0, 0, 0),
  (8, .istore_n 2, 1, 0, 0, 0),
  (9, .iload_n 2, 1, 0, 0, 0),
  (10, .aload_n 0, 1, 0, 0, 0),
  (11, .getfield 7, 3, 10, 1, 781),
  (14, .bipush 66, 2, 0, 0, 0),
  (16, .iaload, 1, 0, 0, 0),
  (17, .if_icmp .ge 31, 3, 0, 0, 0),
  (20, .iload_n 1, 1, 0, 0, 0),
  (21, .aload_n 0, 1, 0, 0, 0),
  (22, .iload_n 2, 1, 0, 0, 0),
  (23, .iconst 5, 1, 0, 0, 0),
  (24, .invokevirtual 58, 3, 117, 0, 900),
  (27, .iconst 1, 1, 0, 0, 0),
  (28, .if_icmp .ne 11, 3, 0, 0, 0),
  (31, .aload_n 0, 1, 0, 0, 0),
  (32, .iload_n 2, 1, 0, 0, 0),
  (33, .invokevirtual 66, 3, 127, 0, 940),
  (36, .goto 4, 3, 0, 0, 0),
  (39, .iconst 0, 1, 0, 0, 0),
  (40, .iadd, 1, 0, 0, 0),
  (41, .istore_n 1, 1, 0, 0, 0),
  (42, .iinc 2 1, 3, 0, 0, 0),
  (45, .goto (-36), 3, 0, 0, 0),
  (48, .iload_n 1, 1, 0, 0, 0),
  (49, .ireturn, 1, 0, 0, 0)
  ]
/-- X10_writes -/
def zp129 : List (Nat × zRow) := [
  (0, .aload_n 0, 1, 0, 0, 0),
  (1, .getfield 32, 3, 10, 10, 790),
  (4, .aload_n 0, 1, 0, 0, 0),
  (5, .getfield 70, 3, 10, 11, 791),
  (8, .iload_n 1, 1, 0, 0, 0),
  (9, .iastore, 1, 0, 0, 0),
  (10, .aload_n 0, 1, 0, 0, 0),
  (11, .dup, 1, 0, 0, 0),
  (12, .getfield 70, 3, 10, 11, 791),
  (15, .iconst 1, 1, 0, 0, 0),
  (16, .iadd, 1, 0, 0, 0),
  (17, .putfield 70, 3, 10, 11, 791),
  (20, .return_, 1, 0, 0, 0)
  ]
/-- X10_writesMarks -/
def zp130 : List (Nat × zRow) := [
  (0, .iconst 0, 1, 0, 0, 0),
  (1, .istore_n 3, 1, 0, 0, 0),
  (2, .iload_n 3, 1, 0, 0, 0),
  (3, .aload_n 0, 1, 0, 0, 0),
  (4, .getfield 7, 3, 10, 1, 781),
  (7, .bipush 66, 2, 0, 0, 0),
  (9, .iaload, 1, 0, 0, 0),
  (10, .if_icmp .ge 72, 3, 0, 0, 0),
  (13, .iconst 0, 1, 0, 0, 0),
  (14, .istore 4, 2, 0, 0, 0),
  (16, .iload 4, 2, 0, 0, 0),
  (18, .aload_n 0, 1, 0, 0, 0),
  (19, .iload_n 3, 1, 0, 0, 0),
  (20, .iconst 4, 1, 0, 0, 0),
  (21, .invokevirtual 58, 3, 117, 0, 900),
  (24, .if_icmp .ge 52, 3, 0, 0, 0),
  (27, .aload_n 0, 1, 0, 0, 0),
  (28, .getfield 29, 3, 10, 9, 789),
  (31, .iload_n 3, 1, 0, 0, 0),
  (32, .baload, 1, 0, 0, 0),
  (33, .ifCond .eq 43, 3, 0, 0, 0),
  (36, .aload_n 0, 1, 0, 0, 0),
  (37, .iload_n 3, 1, 0, 0, 0),
  (38, .iconst 1, 1, 0, 0, 0),
  (39, .invokevirtual 58, 3, 117, 0, 900),
  (42, .iload_n 2, 1, 0, 0, 0),
  (43, .if_icmp .ne 33, 3, 0, 0, 0),
  (46, .aload_n 0, 1, 0, 0, 0),
  (47, .iload_n 3, 1, 0, 0, 0),
  (48, .iconst 2, 1, 0, 0, 0),
  (49, .invokevirtual 58, 3, 117, 0, 900),
  (52, .iload_n 1, 1, 0, 0, 0),
  (53, .if_icmp .ne 23, 3, 0, 0, 0),
  (56, .aload_n 0, 1, 0, 0, 0),
  (57, .aload_n 0, 1, 0, 0, 0),
  (58, .iload_n 3, 1, 0, 0, 0),
  (59, .bipush 6, 2, 0, 0, 0),
  (61, .iload 4, 2, 0, 0, 0),
  (63, .iadd, 1, 0, 0, 0),
  (64, .invokevirtual 58, 3, 117, 0, 900),
  (67, .invokevirtual 73, 3, 129, 0, 992),
  (70, .iinc 4 1, 3, 0, 0, 0),
  (73, .goto (-57), 3, 0, 0, 0),
  (76, .iinc 3 1, 3, 0, 0, 0),
  (79, .goto (-77), 3, 0, 0, 0),
  (82, .return_, 1, 0, 0, 0)
  ]
/-- X10_isLeftOut -/
def zp131 : List (Nat × zRow) := [
  (0, .iconst 0, 1, 0, 0, 0),
  (1, .istore_n 2, 1, 0, 0, 0),
  (2, .iconst 0, 1, 0, 0, 0),
  (3, .istore_n 3, 1, 0, 0, 0),
  (4, .iload_n 3, 1, 0, 0, 0),
  (5, .aload_n 0, 1, 0, 0, 0),
  (6, .getfield 7, 3, 10, 1, 781),
  (9, .bipush 66, 2, 0, 0, 0),
  (11, .iaload, 1, 0, 0, 0),
  (12, .if_icmp .ge 49, 3, 0, 0, 0),
  (15, .iload_n 2, 1, 0, 0, 0),
  (16, .ifCond .ne 33, 3, 0, 0, 0),
  (19, .aload_n 0, 1, 0, 0, 0),
  (20, .getfield 29, 3, 10, 9, 789),
  (23, .iload_n 3, 1, 0, 0, 0),
  (24, .baload, 1, 0, 0, 0),
  (25, .ifCond .eq 28, 3, 0, 0, 0),
  (28, .iload_n 1, 1, 0, 0, 0),
  (29, .aload_n 0, 1, 0, 0, 0),
  (30, .iload_n 3, 1, 0, 0, 0),
  (31, .iconst 2, 1, 0, 0, 0),
  (32, .invokevirtual 58, 3, 117, 0, 900),
  (35, .aload_n 0, 1, 0, 0, 0),
  (36, .iload_n 3, 1, 0, 0, 0),
  (37, .iconst 3, 1, 0, 0, 0),
  (38, .invokevirtual 58, 3, 117, 0, 900),
  (41, .iconst 1, 1, 0, 0, 0),
  (42, .isub, 1, 0, 0, 0),
  (43, .invokestatic 51, 3, 116, 0, 842),
  (46, .ifCond .eq 7, 3, 0, 0, 0),
  (49, .iconst 1, 1, 0, 0, 0),
  (50, .goto 4, 3, 0, 0, 0),
  (53, .iconst 0, 1, 0, 0, 0),
  (54, .istore_n 2, 1, 0, 0, 0),
  (55, .iinc 3 1, 3, 0, 0, 0),
  (58, .goto (-54), 3, 0, 0, 0),
  (61, .iload_n 2, 1, 0, 0, 0),
  (62, .ireturn, 1, 0, 0, 0)
  ]
/-- X10_carriesOut -/
def zp132 : List (Nat × zRow) := [
  (0, .aload_n 0, 1, 0, 0, 0),
  (1, .iconst 0, 1, 0, 0, 0),
  (2, .putfield 70, 3, 10, 11, 791),
  (5, .iconst 0, 1, 0, 0, 0),
  (6, .istore_n 1, 1, 0, 0, 0),
  (7, .iload_n 1, 1, 0, 0, 0),
  (8, .aload_n 0, 1, 0, 0, 0),
  (9, .getfield 7, 3, 10, 1, 781),
  (12, .iconst 0, 1, 0, 0, 0),
  (13, .iaload, 1, 0, 0, 0),
  (14, .if_icmp .gt 51, 3, 0, 0, 0),
  (17, .aload_n 0, 1, 0, 0, 0),
  (18, .iload_n 1, 1, 0, 0, 0),
  (19, .iconst 1, 1, 0, 0, 0),
  (20, .invokevirtual 77, 3, 130, 0, 988),
  (23, .aload_n 0, 1, 0, 0, 0),
  (24, .iload_n 1, 1, 0, 0, 0),
  (25, .iconst 2, 1, 0, 0, 0),
  (26, .invokevirtual 77, 3, 130, 0, 988),
  (29, .iload_n 1, 1, 0, 0, 0),
  (30, .aload_n 0, 1, 0, 0, 0),
  (31, .getfield 7, 3, 10, 1, 781),
  (34, .iconst 0, 1, 0, 0, 0),
  (35, .iaload, 1, 0, 0, 0),
  (36, .if_icmp .ge 23, 3, 0, 0, 0),
  (39, .aload_n 0, 1, 0, 0, 0),
  (40, .iload_n 1, 1, 0, 0, 0),
  (41, .invokevirtual 81, 3, 131, 0, 996),
  (44, .ifCond .ne 15, 3, 0, 0, 0),
  (47, .aload_n 0, 1, 0, 0, 0),
  (48, .aload_n 0, 1, 0, 0, 0),
  (49, .getfield 7, 3, 10, 1, 781),
  (52, .iconst 1, 1, 0, 0, 0),
  (53, .iload_n 1, 1, 0, 0, 0),
  (54, .iadd, 1, 0, 0, 0),
  (55, .iaload, 1, 0, 0, 0),
  (56, .invokevirtual 73, 3, 129, 0, 992),
  (59, .iinc 1 1, 3, 0, 0, 0),
  (62, .goto (-55), 3, 0, 0, 0),
  (65, .return_, 1, 0, 0, 0)
  ]
/-- X10_prints -/
def zp133 : List (Nat × zRow) := [
  (0, .iconst 0, 1, 0, 0, 0),
  (1, .istore_n 1, 1, 0, 0, 0),
  (2, .iload_n 1, 1, 0, 0, 0),
  (3, .aload_n 0, 1, 0, 0, 0),
  (4, .getfield 7, 3, 10, 1, 781),
  (7, .bipush 66, 2, 0, 0, 0),
  (9, .iaload, 1, 0, 0, 0),
  (10, .if_icmp .ge 30, 3, 0, 0, 0),
  (13, .aload_n 0, 1, 0, 0, 0),
  (14, .getfield 29, 3, 10, 9, 789),
  (17, .iload_n 1, 1, 0, 0, 0),
  (18, .aload_n 0, 1, 0, 0, 0),
  (19, .iload_n 1, 1, 0, 0, 0),
  (20, .iconst 5, 1, 0, 0, 0),
  (21, .invokevirtual 58, 3, 117, 0, 900),
  (24, .iconst 1, 1, 0, 0, 0),
  (25, .if_icmp .ne 7, 3, 0, 0, 0),
  (28, .iconst 1, 1, 0, 0, 0),
  (29, .goto 4, 3, 0, 0, 0),
  (32, .iconst 0, 1, 0, 0, 0),
  (33, .bastore, 1, 0, 0, 0),
  (34, .iinc 1 1, 3, 0, 0, 0),
  (37, .goto (-35), 3, 0, 0, 0),
  (40, .aload_n 0, 1, 0, 0, 0),
  (41, .invokevirtual 85, 3, 132, 0, 984),
  (44, .return_, 1, 0, 0, 0)
  ]
/-- X10_clashesWithOpen -/
def zp134 : List (Nat × zRow) := [
  (0, .iconst 0, 1, 0, 0, 0),
  (1, .istore_n 3, 1, 0, 0, 0),
  (2, .iconst 0, 1, 0, 0, 0),
  (3, .istore 4, 2, 0, 0, 0),
  (5, .iload 4, 2, 0, 0, 0),
  (7, .aload_n 0, 1, 0, 0, 0),
  (8, .getfield 7, 3, 10, 1, 781),
  (11, .bipush 66, 2, 0, 0, 0),
  (13, .iaload, 1, 0, 0, 0),
  (14, .if_icmp .ge 56, 3, 0, 0, 0),
  (17, .iload_n 3, 1, 0, 0, 0),
  (18, .ifCond .ne 40, 3, 0, 0, 0),
  (21, .iload 4, 2, 0, 0, 0),
  (23, .iload_n 1, 1, 0, 0, 0),
  (24, .if_icmp .eq 38, 3, 0, 0, 0),
  (27, .aload_n 0, 1, 0, 0, 0),
  (28, .iload 4, 2, 0, 0, 0),
  (30, .iconst 0, 1, 0, 0, 0),
  (31, .invokevirtual 58, 3, 117, 0, 900),
  (34, .iload_n 2, 1, 0, 0, 0),
  (35, .if_icmp .ne 27, 3, 0, 0, 0),
  (38, .aload_n 0, 1, 0, 0, 0),
  (39, .iload 4, 2, 0, 0, 0),
  (41, .iconst 5, 1, 0, 0, 0),
  (42, .invokevirtual 58, 3, 117, 0, 900),
  (45, .ifCond .ne 17, 3, 0, 0, 0),
  (48, .aload_n 0, 1, 0, 0, 0),
  (49, .iload_n 1, 1, 0, 0, 0),
  (50, .iload 4, 2, 0, 0, 0),
  (52, .invokevirtual 62, 3, 124, 0, 904),
  (55, .ifCond .eq 7, 3, 0, 0, 0),
  (58, .iconst 1, 1, 0, 0, 0),
  (59, .goto 4, 3, 0, 0, 0),
  (62, .iconst 0, 1, 0, 0, 0),
  (63, .istore_n 3, 1, 0, 0, 0),
  (64, .iinc 4 1, 3, 0, 0, 0),
  (67, .goto (-62), 3, 0, 0, 0),
  (70, .iload_n 3, 1, 0, 0, 0),
  (71, .ireturn, 1, 0, 0, 0)
  ]
/-- X10_shows -/
def zp135 : List (Nat × zRow) := [
  (0, .iconst 0, 1, 0, 0, 0),
  (1, .istore_n 2, 1, 0, 0, 0),
  (2, .iload_n 2, 1, 0, 0, 0),
  (3, .aload_n 0, 1, 0, 0, 0),
  (4, .getfield 7, 3, 10, 1, 781),
  (7, .bipush 66, 2, 0, 0, 0),
  (9, .iaload, 1, 0, 0, 0),
  (10, .if_icmp .ge 66, 3, 0, 0, 0),
  (13, .aload_n 0, 1, 0, 0, 0),
  (14, .getfield 29, 3, 10, 9, 789),
  (17, .iload_n 2, 1, 0, 0, 0),
  (18, .aload_n 0, 1, 0, 0, 0),
  (19, .iload_n 2, 1, 0, 0, 0),
  (20, .iconst 5, 1, 0, 0, 0),
  (21, .invokevirtual 58, 3, 117, 0, 900),
  (24, .iconst 1, 1, 0, 0, 0),
  (25, .if_icmp .ne 20, 3, 0, 0, 0),
  (28, .aload_n 0, 1, 0, 0, 0),
  (29, .iload_n 2, 1, 0, 0, 0),
  (30, .iload_n 1, 1, 0, 0, 0),
  (31, .invokevirtual 88, 3, 134, 0, 1020),
  (34, .ifCond .ne 7, 3, 0, 0, 0),
  (37, .iconst 1, 1, 0, 0, 0),
  (38, .goto 31, 3, 0, 0, 0),
  (41, .iconst 0, 1, 0, 0, 0),
  (42, .goto 27, 3, 0, 0, 0),
  (45, .aload_n 0, 1, 0, 0, 0),
  (46, .iload_n 2, 1, 0, 0, 0),
  (47, .iconst 5, 1, 0, 0, 0),
  (48, .invokevirtual 58, 3, 117, 0, 900),
  (51, .ifCond .ne 17, 3, 0, 0, 0),
  (54, .aload_n 0, 1, 0, 0, 0),
  (55, .iload_n 2, 1, 0, 0, 0),
  (56, .iconst 0, 1, 0, 0, 0),
  (57, .invokevirtual 58, 3, 117, 0, 900),
  (60, .iload_n 1, 1, 0, 0, 0),
  (61, .if_icmp .ne 7, 3, 0, 0, 0),
  (64, .iconst 1, 1, 0, 0, 0),
  (65, .goto 4, 3, 0, 0, 0),
  (68, .iconst 0, 1, 0, 0, 0),
  (69, .bastore, 1, 0, 0, 0),
  (70, .iinc 2 1, 3, 0, 0, 0),
  (73, .goto (-71), 3, 0, 0, 0),
  (76, .aload_n 0, 1, 0, 0, 0),
  (77, .invokevirtual 85, 3, 132, 0, 984),
  (80, .return_, 1, 0, 0, 0)
  ]
/-- X10_begin -/
def zp136 : List (Nat × zRow) := [
  (0, .aload_n 0, 1, 0, 0, 0),
  (1, .iconst 0, 1, 0, 0, 0),
  (2, .putfield 47, 3, 10, 0, 780),
  (5, .iconst 0, 1, 0, 0, 0),
  (6, .istore_n 1, 1, 0, 0, 0),
  (7, .iload_n 1, 1, 0, 0, 0),
  (8, .aload_n 0, 1, 0, 0, 0),
  (9, .getfield 91, 3, 10, 8, 788),
  (12, .if_icmp .ge 28, 3, 0, 0, 0),
  (15, .aload_n 0, 1, 0, 0, 0),
  (16, .getfield 26, 3, 10, 7, 787),
  (19, .iload_n 1, 1, 0, 0, 0),
  (20, .iaload, 1, 0, 0, 0),
  (21, .bipush 97, 2, 0, 0, 0),
  (23, .bipush 122, 2, 0, 0, 0),
  (25, .invokestatic 51, 3, 116, 0, 842),
  (28, .ifCond .ne 6, 3, 0, 0, 0),
  (31, .bipush (-3), 2, 0, 0, 0),
  (33, .ireturn, 1, 0, 0, 0),
  (34, .iinc 1 1, 3, 0, 0, 0),
  (37, .goto (-30), 3, 0, 0, 0),
  (40, .aload_n 0, 1, 0, 0, 0),
  (41, .invokevirtual 94, 3, 121, 0, 845),
  (44, .iconst 0, 1, 0, 0, 0),
  (45, .istore_n 1, 1, 0, 0, 0),
  (46, .iload_n 1, 1, 0, 0, 0),
  (47, .sipush 675, 3, 0, 0, 0),
  (50, .if_icmp .ge 36, 3, 0, 0, 0),
  (53, .aload_n 0, 1, 0, 0, 0),
  (54, .getfield 7, 3, 10, 1, 781),
  (57, .iload_n 1, 1, 0, 0, 0),
  (58, .iload_n 1, 1, 0, 0, 0),
  (59, .bipush 61, 2, 0, 0, 0),
  (61, .bipush 65, 2, 0, 0, 0),
  (63, .invokestatic 51, 3, 116, 0, 842),
  (66, .ifCond .eq 12, 3, 0, 0, 0),
  (69, .aload_n 0, 1, 0, 0, 0),
  (70, .getfield 7, 3, 10, 1, 781),
  (73, .iload_n 1, 1, 0, 0, 0),
  (74, .iaload, 1, 0, 0, 0),
  (75, .goto 4, 3, 0, 0, 0),
  (78, .iconst 0, 1, 0, 0, 0),
  (79, .iastore, 1, 0, 0, 0),
  (80, .iinc 1 1, 3, 0, 0, 0),
  (83, .goto (-37), 3, 0, 0, 0),
  (86, .iconst 0, 1, 0, 0, 0),
  (87, .istore_n 1, 1, 0, 0, 0),
  (88, .iload_n 1, 1, 0, 0, 0),
  (89, .aload_n 0, 1, 0, 0, 0),
  (90, .getfield 91, 3, 10, 8, 788),
  (93, .if_icmp .ge 26, 3, 0, 0, 0),
  (96, .aload_n 0, 1, 0, 0, 0),
  (97, .getfield 7, 3, 10, 1, 781),
  (100, .iconst 1, 1, 0, 0, 0),
  (101, .iload_n 1, 1, 0, 0, 0),
  (102, .iadd, 1, 0, 0, 0),
  (103, .aload_n 0, 1, 0, 0, 0),
  (104, .getfield 26, 3, 10, 7, 787),
  (107, .iload_n 1, 1, 0, 0, 0),
  (108, .iaload, 1, 0, 0, 0),
  (109, .bipush 97, 2, 0, 0, 0),
  (111, .isub, 1, 0, 0, 0),
  (112, .iastore, 1, 0, 0, 0),
  (113, .iinc 1 1, 3, 0, 0, 0),
  (116, .goto (-28), 3, 0, 0, 0),
  (119, .aload_n 0, 1, 0, 0, 0),
  (120, .getfield 7, 3, 10, 1, 781),
  (123, .iconst 0, 1, 0, 0, 0),
  (124, .aload_n 0, 1, 0, 0, 0),
  (125, .getfield 91, 3, 10, 8, 788),
  (128, .iastore, 1, 0, 0, 0),
  (129, .aload_n 0, 1, 0, 0, 0),
  (130, .iconst 0, 1, 0, 0, 0),
  (131, .putfield 91, 3, 10, 8, 788),
  (134, .aload_n 0, 1, 0, 0, 0),
  (135, .getfield 7, 3, 10, 1, 781),
  (138, .iconst 0, 1, 0, 0, 0),
  (139, .iaload, 1, 0, 0, 0),
  (140, .ireturn, 1, 0, 0, 0)
  ]
/-- X10_rank -/
def zp137 : List (Nat × zRow) := [
  (0, .aload_n 0, 1, 0, 0, 0),
  (1, .iconst 0, 1, 0, 0, 0),
  (2, .putfield 47, 3, 10, 0, 780),
  (5, .iload_n 1, 1, 0, 0, 0),
  (6, .invokestatic 97, 3, 120, 0, 853),
  (9, .ifCond .ne 5, 3, 0, 0, 0),
  (12, .iconst (-1), 1, 0, 0, 0),
  (13, .ireturn, 1, 0, 0, 0),
  (14, .iload_n 2, 1, 0, 0, 0),
  (15, .iconst 0, 1, 0, 0, 0),
  (16, .bipush 9, 2, 0, 0, 0),
  (18, .invokestatic 51, 3, 116, 0, 842),
  (21, .ifCond .ne 6, 3, 0, 0, 0),
  (24, .bipush (-2), 2, 0, 0, 0),
  (26, .ireturn, 1, 0, 0, 0),
  (27, .aload_n 0, 1, 0, 0, 0),
  (28, .invokevirtual 94, 3, 121, 0, 845),
  (31, .aload_n 0, 1, 0, 0, 0),
  (32, .getfield 7, 3, 10, 1, 781),
  (35, .bipush 61, 2, 0, 0, 0),
  (37, .iload_n 1, 1, 0, 0, 0),
  (38, .iadd, 1, 0, 0, 0),
  (39, .iaload, 1, 0, 0, 0),
  (40, .istore_n 3, 1, 0, 0, 0),
  (41, .aload_n 0, 1, 0, 0, 0),
  (42, .getfield 7, 3, 10, 1, 781),
  (45, .bipush 61, 2, 0, 0, 0),
  (47, .iload_n 1, 1, 0, 0, 0),
  (48, .iadd, 1, 0, 0, 0),
  (49, .iload_n 2, 1, 0, 0, 0),
  (50, .iastore, 1, 0, 0, 0),
  (51, .iload_n 3, 1, 0, 0, 0),
  (52, .ireturn, 1, 0, 0, 0)
  ]
/-- X10_isAgainstOwn -/
def zp138 : List (Nat × zRow) := [
  (0, .iconst 0, 1, 0, 0, 0),
  (1, .istore_n 2, 1, 0, 0, 0),
  (2, .iconst 0, 1, 0, 0, 0),
  (3, .istore_n 3, 1, 0, 0, 0),
  (4, .iload_n 3, 1, 0, 0, 0),
  (5, .iload_n 1, 1, 0, 0, 0),
  (6, .if_icmp .ge 53, 3, 0, 0, 0),
  (9, .iload_n 2, 1, 0, 0, 0),
  (10, .ifCond .ne 37, 3, 0, 0, 0),
  (13, .aload_n 0, 1, 0, 0, 0),
  (14, .iload_n 3, 1, 0, 0, 0),
  (15, .iconst 0, 1, 0, 0, 0),
  (16, .invokevirtual 58, 3, 117, 0, 900),
  (19, .aload_n 0, 1, 0, 0, 0),
  (20, .iload_n 1, 1, 0, 0, 0),
  (21, .iconst 0, 1, 0, 0, 0),
  (22, .invokevirtual 58, 3, 117, 0, 900),
  (25, .if_icmp .ne 26, 3, 0, 0, 0),
  (28, .aload_n 0, 1, 0, 0, 0),
  (29, .iload_n 3, 1, 0, 0, 0),
  (30, .iconst 5, 1, 0, 0, 0),
  (31, .invokevirtual 58, 3, 117, 0, 900),
  (34, .iconst 2, 1, 0, 0, 0),
  (35, .if_icmp .eq 16, 3, 0, 0, 0),
  (38, .aload_n 0, 1, 0, 0, 0),
  (39, .iload_n 1, 1, 0, 0, 0),
  (40, .iload_n 3, 1, 0, 0, 0),
  (41, .invokevirtual 62, 3, 124, 0, 904),
  (44, .ifCond .eq 7, 3, 0, 0, 0),
  (47, .iconst 1, 1, 0, 0, 0),
  (48, .goto 4, 3, 0, 0, 0),
  (51, .iconst 0, 1, 0, 0, 0),
  (52, .istore_n 2, 1, 0, 0, 0),
  (53, .iinc 3 1, 3, 0, 0, 0),
  (56, .goto (-52), 3, 0, 0, 0),
  (59, .iload_n 2, 1, 0, 0, 0),
  (60, .ireturn, 1, 0, 0, 0)
  ]
/-- X10_clears -/
def zp139 : List (Nat × zRow) := [
  (0, .iconst 0, 1, 0, 0, 0),
  (1, .istore_n 2, 1, 0, 0, 0),
  (2, .iload_n 2, 1, 0, 0, 0),
  (3, .bipush 12, 2, 0, 0, 0),
  (5, .if_icmp .ge 16, 3, 0, 0, 0),
  (8, .aload_n 0, 1, 0, 0, 0),
  (9, .iload_n 1, 1, 0, 0, 0),
  (10, .iload_n 2, 1, 0, 0, 0),
  (11, .iconst 0, 1, 0, 0, 0),
  (12, .invokevirtual 100, 3, 118, 0, 892),
  (15, .iinc 2 1, 3, 0, 0, 0),
  (18, .goto (-16), 3, 0, 0, 0),
  (21, .return_, 1, 0, 0, 0)
  ]
/-- X10_laysMark -/
def zp140 : List (Nat × zRow) := [
  (0, .aload_n 0, 1, 0, 0, 0),
  (1, .getfield 7, 3, 10, 1, 781),
  (4, .bipush 66, 2, 0, 0, 0),
  (6, .iaload, 1, 0, 0, 0),
  (7, .istore 5, 2, 0, 0, 0),
  (9, .aload_n 0, 1, 0, 0, 0),
  (10, .iload 5, 2, 0, 0, 0),
  (12, .invokevirtual 104, 3, 139, 0, 908),
  (15, .aload_n 0, 1, 0, 0, 0),
  (16, .iload 5, 2, 0, 0, 0),
  (18, .iconst 0, 1, 0, 0, 0),
  (19, .iload_n 1, 1, 0, 0, 0),
  (20, .invokevirtual 100, 3, 118, 0, 892),
  (23, .aload_n 0, 1, 0, 0, 0),
  (24, .iload 5, 2, 0, 0, 0),
  (26, .iconst 1, 1, 0, 0, 0),
  (27, .iload_n 2, 1, 0, 0, 0),
  (28, .invokevirtual 100, 3, 118, 0, 892),
  (31, .aload_n 0, 1, 0, 0, 0),
  (32, .iload 5, 2, 0, 0, 0),
  (34, .iconst 2, 1, 0, 0, 0),
  (35, .iload_n 3, 1, 0, 0, 0),
  (36, .invokevirtual 100, 3, 118, 0, 892),
  (39, .aload_n 0, 1, 0, 0, 0),
  (40, .iload 5, 2, 0, 0, 0),
  (42, .iconst 3, 1, 0, 0, 0),
  (43, .iload 4, 2, 0, 0, 0),
  (45, .invokevirtual 100, 3, 118, 0, 892),
  (48, .return_, 1, 0, 0, 0)
  ]
/-- X10_makes -/
def zp141 : List (Nat × zRow) := [
  (0, .aload_n 0, 1, 0, 0, 0),
  (1, .getfield 44, 3, 10, 17, 797),
  (4, .iload_n 1, 1, 0, 0, 0),
  (5, .iconst 2, 1, 0, 0, 0),
  (6, .iadd, 1, 0, 0, 0),
  (7, .iaload, 1, 0, 0, 0),
  (8, .aload_n 0, 1, 0, 0, 0),
  (9, .getfield 7, 3, 10, 1, 781),
  (12, .iconst 0, 1, 0, 0, 0),
  (13, .iaload, 1, 0, 0, 0),
  (14, .if_icmp .gt 24, 3, 0, 0, 0),
  (17, .aload_n 0, 1, 0, 0, 0),
  (18, .getfield 44, 3, 10, 17, 797),
  (21, .iload_n 1, 1, 0, 0, 0),
  (22, .iconst 3, 1, 0, 0, 0),
  (23, .iadd, 1, 0, 0, 0),
  (24, .iaload, 1, 0, 0, 0),
  (25, .aload_n 0, 1, 0, 0, 0),
  (26, .getfield 7, 3, 10, 1, 781),
  (29, .iconst 0, 1, 0, 0, 0),
  (30, .iaload, 1, 0, 0, 0),
  (31, .if_icmp .gt 7, 3, 0, 0, 0),
  (34, .iconst 1, 1, 0, 0, 0),
  (35, .goto 4, 3, 0, 0, 0),
  (38, .iconst 0, 1, 0, 0, 0),
  (39, .istore_n 2, 1, 0, 0, 0),
  (40, .aload_n 0, 1, 0, 0, 0),
  (41, .getfield 44, 3, 10, 17, 797),
  (44, .iload_n 1, 1, 0, 0, 0),
  (45, .iconst 1, 1, 0, 0, 0),
  (46, .iadd, 1, 0, 0, 0),
  (47, .iaload, 1, 0, 0, 0),
  (48, .iconst 1, 1, 0, 0, 0),
  (49, .if_icmp .eq 22, 3, 0, 0, 0),
  (52, .aload_n 0, 1, 0, 0, 0),
  (53, .getfield 44, 3, 10, 17, 797),
  (56, .iload_n 1, 1, 0, 0, 0),
  (57, .iconst 3, 1, 0, 0, 0),
  (58, .iadd, 1, 0, 0, 0),
  (59, .iaload, 1, 0, 0, 0),
  (60, .aload_n 0, 1, 0, 0, 0),
  (61, .getfield 44, 3, 10, 17, 797),
  (64, .iload_n 1, 1, 0, 0, 0),
  (65, .iconst 2, 1, 0, 0, 0),
  (66, .iadd, 1, 0, 0, 0),
  (67, .iaload, 1, 0, 0, 0),
  (68, .if_icmp .le 7, 3, 0, 0, 0),
  (71, .iconst 1, 1, 0, 0, 0),
  (72, .goto 4, 3, 0, 0, 0),
  (75, .iconst 0, 1, 0, 0, 0),
  (76, .istore_n 3, 1, 0, 0, 0),
  (77, .iload_n 2, 1, 0, 0, 0),
  (78, .ifCond .eq 19, 3, 0, 0, 0),
  (81, .iload_n 3, 1, 0, 0, 0),
  (82, .ifCond .eq 15, 3, 0, 0, 0),
  (85, .aload_n 0, 1, 0, 0, 0),
  (86, .getfield 7, 3, 10, 1, 781),
  (89, .bipush 66, 2, 0, 0, 0),
  (91, .iaload, 1, 0, 0, 0),
  (92, .bipush 20, 2, 0, 0, 0),
  (94, .if_icmp .ne 5, 3, 0, 0, 0),
  (97, .iconst 0, 1, 0, 0, 0),
  (98, .ireturn, 1, 0, 0, 0),
  (99, .iconst 0, 1, 0, 0, 0),
  (100, .istore 4, 2, 0, 0, 0),
  (102, .iload 4, 2, 0, 0, 0),
  (104, .bipush 12, 2, 0, 0, 0),
  (106, .if_icmp .ge 31, 3, 0, 0, 0),
  (109, .aload_n 0, 1, 0, 0, 0),
  (110, .aload_n 0, 1, 0, 0, 0),
  (111, .getfield 7, 3, 10, 1, 781),
  (114, .bipush 66, 2, 0, 0, 0),
  (116, .iaload, 1, 0, 0, 0),
  (117, .iload 4, 2, 0, 0, 0),
  (119, .aload_n 0, 1, 0, 0, 0),
  (120, .getfield 44, 3, 10, 17, 797),
  (123, .iload_n 1, 1, 0, 0, 0),
  (124, .iload 4, 2, 0, 0, 0),
  (126, .iadd, 1, 0, 0, 0),
  (127, .iaload, 1, 0, 0, 0),
  (128, .invokevirtual 100, 3, 118, 0, 892),
  (131, .iinc 4 1, 3, 0, 0, 0),
  (134, .goto (-32), 3, 0, 0, 0),
  (137, .aload_n 0, 1, 0, 0, 0),
  (138, .aload_n 0, 1, 0, 0, 0),
  (139, .getfield 7, 3, 10, 1, 781),
  (142, .bipush 66, 2, 0, 0, 0),
  (144, .iaload, 1, 0, 0, 0),
  (145, .invokevirtual 107, 3, 138, 0, 896),
  (148, .ifCond .eq 16, 3, 0, 0, 0),
  (151, .aload_n 0, 1, 0, 0, 0),
  (152, .aload_n 0, 1, 0, 0, 0),
  (153, .getfield 7, 3, 10, 1, 781),
  (156, .bipush 66, 2, 0, 0, 0),
  (158, .iaload, 1, 0, 0, 0),
  (159, .invokevirtual 104, 3, 139, 0, 908),
  (162, .iconst 0, 1, 0, 0, 0),
  (163, .ireturn, 1, 0, 0, 0),
  (164, .aload_n 0, 1, 0, 0, 0),
  (165, .getfield 7, 3, 10, 1, 781),
  (168, .bipush 66, 2, 0, 0, 0),
  (170, .dup2, 1, 0, 0, 0),
  (171, .iaload, 1, 0, 0, 0),
  (172, .iconst 1, 1, 0, 0, 0),
  (173, .iadd, 1, 0, 0, 0),
  (174, .iastore, 1, 0, 0, 0),
  (175, .iconst 1, 1, 0, 0, 0),
  (176, .ireturn, 1, 0, 0, 0)
  ]
/-- X10_mark -/
def zp142 : List (Nat × zRow) := [
  (0, .aload_n 0, 1, 0, 0, 0),
  (1, .iconst 0, 1, 0, 0, 0),
  (2, .putfield 47, 3, 10, 0, 780),
  (5, .aload_n 0, 1, 0, 0, 0),
  (6, .invokevirtual 110, 3, 180, 0, 860),
  (9, .bipush (-6), 2, 0, 0, 0),
  (11, .if_icmp .eq 6, 3, 0, 0, 0),
  (14, .bipush (-3), 2, 0, 0, 0),
  (16, .ireturn, 1, 0, 0, 0),
  (17, .aload_n 0, 1, 0, 0, 0),
  (18, .invokevirtual 94, 3, 121, 0, 845),
  (21, .aload_n 0, 1, 0, 0, 0),
  (22, .iconst 0, 1, 0, 0, 0),
  (23, .putfield 91, 3, 10, 8, 788),
  (26, .iconst 0, 1, 0, 0, 0),
  (27, .istore_n 1, 1, 0, 0, 0),
  (28, .iload_n 1, 1, 0, 0, 0),
  (29, .aload_n 0, 1, 0, 0, 0),
  (30, .getfield 114, 3, 10, 18, 798),
  (33, .if_icmp .ge 20, 3, 0, 0, 0),
  (36, .aload_n 0, 1, 0, 0, 0),
  (37, .bipush 12, 2, 0, 0, 0),
  (39, .iload_n 1, 1, 0, 0, 0),
  (40, .imul, 1, 0, 0, 0),
  (41, .invokevirtual 117, 3, 141, 0, 888),
  (44, .ifCond .eq 9, 3, 0, 0, 0),
  (47, .iinc 1 1, 3, 0, 0, 0),
  (50, .goto (-22), 3, 0, 0, 0),
  (53, .iload_n 1, 1, 0, 0, 0),
  (54, .ireturn, 1, 0, 0, 0)
  ]
/-- X10_strike -/
def zp143 : List (Nat × zRow) := [
  (0, .aload_n 0, 1, 0, 0, 0),
  (1, .iconst 0, 1, 0, 0, 0),
  (2, .putfield 47, 3, 10, 0, 780),
  (5, .iload_n 1, 1, 0, 0, 0),
  (6, .invokestatic 97, 3, 120, 0, 853),
  (9, .ifCond .eq 31, 3, 0, 0, 0),
  (12, .iload_n 2, 1, 0, 0, 0),
  (13, .iconst 0, 1, 0, 0, 0),
  (14, .aload_n 0, 1, 0, 0, 0),
  (15, .getfield 7, 3, 10, 1, 781),
  (18, .iconst 0, 1, 0, 0, 0),
  (19, .iaload, 1, 0, 0, 0),
  (20, .invokestatic 51, 3, 116, 0, 842),
  (23, .ifCond .eq 17, 3, 0, 0, 0),
  (26, .iload_n 3, 1, 0, 0, 0),
  (27, .iconst 0, 1, 0, 0, 0),
  (28, .aload_n 0, 1, 0, 0, 0),
  (29, .getfield 7, 3, 10, 1, 781),
  (32, .iconst 0, 1, 0, 0, 0),
  (33, .iaload, 1, 0, 0, 0),
  (34, .invokestatic 51, 3, 116, 0, 842),
  (37, .ifCond .ne 5, 3, 0, 0, 0),
  (40, .iconst (-1), 1, 0, 0, 0),
  (41, .ireturn, 1, 0, 0, 0),
  (42, .iload_n 3, 1, 0, 0, 0),
  (43, .iload_n 2, 1, 0, 0, 0),
  (44, .if_icmp .gt 6, 3, 0, 0, 0),
  (47, .bipush (-2), 2, 0, 0, 0),
  (49, .ireturn, 1, 0, 0, 0),
  (50, .aload_n 0, 1, 0, 0, 0),
  (51, .getfield 7, 3, 10, 1, 781),
  (54, .bipush 66, 2, 0, 0, 0),
  (56, .iaload, 1, 0, 0, 0),
  (57, .bipush 20, 2, 0, 0, 0),
  (59, .if_icmp .ne 6, 3, 0, 0, 0),
  (62, .bipush (-4), 2, 0, 0, 0),
  (64, .ireturn, 1, 0, 0, 0),
  (65, .aload_n 0, 1, 0, 0, 0),
  (66, .iload_n 1, 1, 0, 0, 0),
  (67, .iconst 0, 1, 0, 0, 0),
  (68, .iload_n 2, 1, 0, 0, 0),
  (69, .iload_n 3, 1, 0, 0, 0),
  (70, .invokevirtual 120, 3, 140, 0, 916),
  (73, .aload_n 0, 1, 0, 0, 0),
  (74, .aload_n 0, 1, 0, 0, 0),
  (75, .getfield 7, 3, 10, 1, 781),
  (78, .bipush 66, 2, 0, 0, 0),
  (80, .iaload, 1, 0, 0, 0),
  (81, .invokevirtual 107, 3, 138, 0, 896),
  (84, .istore 4, 2, 0, 0, 0),
  (86, .aload_n 0, 1, 0, 0, 0),
  (87, .aload_n 0, 1, 0, 0, 0),
  (88, .getfield 7, 3, 10, 1, 781),
  (91, .bipush 66, 2, 0, 0, 0),
  (93, .iaload, 1, 0, 0, 0),
  (94, .invokevirtual 104, 3, 139, 0, 908),
  (97, .iload 4, 2, 0, 0, 0),
  (99, .ifCond .eq 6, 3, 0, 0, 0),
  (102, .bipush (-5), 2, 0, 0, 0),
  (104, .ireturn, 1, 0, 0, 0),
  (105, .aload_n 0, 1, 0, 0, 0),
  (106, .invokevirtual 94, 3, 121, 0, 845),
  (109, .aload_n 0, 1, 0, 0, 0),
  (110, .iload_n 1, 1, 0, 0, 0),
  (111, .iconst 0, 1, 0, 0, 0),
  (112, .iload_n 2, 1, 0, 0, 0),
  (113, .iload_n 3, 1, 0, 0, 0),
  (114, .invokevirtual 120, 3, 140, 0, 916),
  (117, .aload_n 0, 1, 0, 0, 0),
  (118, .getfield 7, 3, 10, 1, 781),
  (121, .bipush 66, 2, 0, 0, 0),
  (123, .dup2, 1, 0, 0, 0),
  (124, .iaload, 1, 0, 0, 0),
  (125, .iconst 1, 1, 0, 0, 0),
  (126, .iadd, 1, 0, 0, 0),
  (127, .iastore, 1, 0, 0, 0),
  (128, .aload_n 0, 1, 0, 0, 0),
  (129, .getfield 7, 3, 10, 1, 781),
  (132, .bipush 66, 2, 0, 0, 0),
  (134, .iaload, 1, 0, 0, 0),
  (135, .iconst 1, 1, 0, 0, 0),
  (136, .isub, 1, 0, 0, 0),
  (137, .ireturn, 1, 0, 0, 0)
  ]
/-- X10_canAccept -/
def zp144 : List (Nat × zRow) := [
  (0, .aload_n 0, 1, 0, 0, 0),
  (1, .iload_n 1, 1, 0, 0, 0),
  (2, .iconst 5, 1, 0, 0, 0),
  (3, .invokevirtual 58, 3, 117, 0, 900),
  (6, .ifCond .ne 31, 3, 0, 0, 0),
  (9, .aload_n 0, 1, 0, 0, 0),
  (10, .iload_n 1, 1, 0, 0, 0),
  (11, .iconst 1, 1, 0, 0, 0),
  (12, .invokevirtual 124, 3, 126, 0, 932),
  (15, .ifCond .ne 22, 3, 0, 0, 0),
  (18, .aload_n 0, 1, 0, 0, 0),
  (19, .invokevirtual 127, 3, 128, 0, 936),
  (22, .aload_n 0, 1, 0, 0, 0),
  (23, .iload_n 1, 1, 0, 0, 0),
  (24, .invokevirtual 66, 3, 127, 0, 940),
  (27, .iadd, 1, 0, 0, 0),
  (28, .bipush 60, 2, 0, 0, 0),
  (30, .if_icmp .gt 7, 3, 0, 0, 0),
  (33, .iconst 1, 1, 0, 0, 0),
  (34, .goto 4, 3, 0, 0, 0),
  (37, .iconst 0, 1, 0, 0, 0),
  (38, .ireturn, 1, 0, 0, 0)
  ]
/-- X10_accepts -/
def zp145 : List (Nat × zRow) := [
  (0, .iconst 0, 1, 0, 0, 0),
  (1, .istore_n 2, 1, 0, 0, 0),
  (2, .iconst 0, 1, 0, 0, 0),
  (3, .istore_n 3, 1, 0, 0, 0),
  (4, .iload_n 3, 1, 0, 0, 0),
  (5, .aload_n 0, 1, 0, 0, 0),
  (6, .getfield 7, 3, 10, 1, 781),
  (9, .bipush 66, 2, 0, 0, 0),
  (11, .iaload, 1, 0, 0, 0),
  (12, .if_icmp .ge 42, 3, 0, 0, 0),
  (15, .iload_n 3, 1, 0, 0, 0),
  (16, .iload_n 1, 1, 0, 0, 0),
  (17, .if_icmp .eq 31, 3, 0, 0, 0),
  (20, .aload_n 0, 1, 0, 0, 0),
  (21, .iload_n 3, 1, 0, 0, 0),
  (22, .iconst 5, 1, 0, 0, 0),
  (23, .invokevirtual 58, 3, 117, 0, 900),
  (26, .ifCond .ne 22, 3, 0, 0, 0),
  (29, .aload_n 0, 1, 0, 0, 0),
  (30, .iload_n 1, 1, 0, 0, 0),
  (31, .iload_n 3, 1, 0, 0, 0),
  (32, .invokevirtual 62, 3, 124, 0, 904),
  (35, .ifCond .eq 13, 3, 0, 0, 0),
  (38, .aload_n 0, 1, 0, 0, 0),
  (39, .iload_n 3, 1, 0, 0, 0),
  (40, .iconst 5, 1, 0, 0, 0),
  (41, .iconst 2, 1, 0, 0, 0),
  (42, .invokevirtual 100, 3, 118, 0, 892),
  (45, .iinc 2 1, 3, 0, 0, 0),
  (48, .iinc 3 1, 3, 0, 0, 0),
  (51, .goto (-47), 3, 0, 0, 0),
  (54, .aload_n 0, 1, 0, 0, 0),
  (55, .iload_n 1, 1, 0, 0, 0),
  (56, .iconst 5, 1, 0, 0, 0),
  (57, .iconst 1, 1, 0, 0, 0),
  (58, .invokevirtual 100, 3, 118, 0, 892),
  (61, .iload_n 2, 1, 0, 0, 0),
  (62, .ireturn, 1, 0, 0, 0)
  ]
/-- X10_accept -/
def zp146 : List (Nat × zRow) := [
  (0, .aload_n 0, 1, 0, 0, 0),
  (1, .iconst 0, 1, 0, 0, 0),
  (2, .putfield 47, 3, 10, 0, 780),
  (5, .aload_n 0, 1, 0, 0, 0),
  (6, .iload_n 1, 1, 0, 0, 0),
  (7, .invokevirtual 130, 3, 119, 0, 924),
  (10, .ifCond .ne 5, 3, 0, 0, 0),
  (13, .iconst (-1), 1, 0, 0, 0),
  (14, .ireturn, 1, 0, 0, 0),
  (15, .aload_n 0, 1, 0, 0, 0),
  (16, .iload_n 1, 1, 0, 0, 0),
  (17, .invokevirtual 133, 3, 144, 0, 928),
  (20, .ifCond .ne 6, 3, 0, 0, 0),
  (23, .bipush (-5), 2, 0, 0, 0),
  (25, .ireturn, 1, 0, 0, 0),
  (26, .aload_n 0, 1, 0, 0, 0),
  (27, .invokevirtual 94, 3, 121, 0, 845),
  (30, .aload_n 0, 1, 0, 0, 0),
  (31, .iload_n 1, 1, 0, 0, 0),
  (32, .invokevirtual 136, 3, 145, 0, 944),
  (35, .ireturn, 1, 0, 0, 0)
  ]
/-- X10_withHow -/
def zp147 : List (Nat × zRow) := [
  (0, .iconst 0, 1, 0, 0, 0),
  (1, .istore_n 2, 1, 0, 0, 0),
  (2, .iconst 0, 1, 0, 0, 0),
  (3, .istore_n 3, 1, 0, 0, 0),
  (4, .iload_n 3, 1, 0, 0, 0),
  (5, .aload_n 0, 1, 0, 0, 0),
  (6, .getfield 7, 3, 10, 1, 781),
  (9, .bipush 66, 2, 0, 0, 0),
  (11, .iaload, 1, 0, 0, 0),
  (12, .if_icmp .ge 27, 3, 0, 0, 0),
  (15, .iload_n 2, 1, 0, 0, 0),
  (16, .aload_n 0, 1, 0, 0, 0),
  (17, .iload_n 3, 1, 0, 0, 0),
  (18, .iconst 5, 1, 0, 0, 0),
  (19, .invokevirtual 58, 3, 117, 0, 900),
  (22, .iload_n 1, 1, 0, 0, 0),
  (23, .if_icmp .ne 7, 3, 0, 0, 0),
  (26, .iconst 1, 1, 0, 0, 0),
  (27, .goto 4, 3, 0, 0, 0),
  (30, .iconst 0, 1, 0, 0, 0),
  (31, .iadd, 1, 0, 0, 0),
  (32, .istore_n 2, 1, 0, 0, 0),
  (33, .iinc 3 1, 3, 0, 0, 0),
  (36, .goto (-32), 3, 0, 0, 0),
  (39, .iload_n 2, 1, 0, 0, 0),
  (40, .ireturn, 1, 0, 0, 0)
  ]
/-- X10_refuse -/
def zp148 : List (Nat × zRow) := [
  (0, .aload_n 0, 1, 0, 0, 0),
  (1, .iconst 0, 1, 0, 0, 0),
  (2, .putfield 47, 3, 10, 0, 780),
  (5, .aload_n 0, 1, 0, 0, 0),
  (6, .iload_n 1, 1, 0, 0, 0),
  (7, .invokevirtual 130, 3, 119, 0, 924),
  (10, .ifCond .ne 5, 3, 0, 0, 0),
  (13, .iconst (-1), 1, 0, 0, 0),
  (14, .ireturn, 1, 0, 0, 0),
  (15, .aload_n 0, 1, 0, 0, 0),
  (16, .iload_n 1, 1, 0, 0, 0),
  (17, .iconst 5, 1, 0, 0, 0),
  (18, .invokevirtual 58, 3, 117, 0, 900),
  (21, .ifCond .eq 6, 3, 0, 0, 0),
  (24, .bipush (-5), 2, 0, 0, 0),
  (26, .ireturn, 1, 0, 0, 0),
  (27, .aload_n 0, 1, 0, 0, 0),
  (28, .invokevirtual 94, 3, 121, 0, 845),
  (31, .aload_n 0, 1, 0, 0, 0),
  (32, .iload_n 1, 1, 0, 0, 0),
  (33, .iconst 5, 1, 0, 0, 0),
  (34, .iconst 2, 1, 0, 0, 0),
  (35, .invokevirtual 100, 3, 118, 0, 892),
  (38, .aload_n 0, 1, 0, 0, 0),
  (39, .iconst 0, 1, 0, 0, 0),
  (40, .invokevirtual 139, 3, 147, 0, 952),
  (43, .ireturn, 1, 0, 0, 0)
  ]
/-- X10_drops -/
def zp149 : List (Nat × zRow) := [
  (0, .aload_n 0, 1, 0, 0, 0),
  (1, .getfield 7, 3, 10, 1, 781),
  (4, .bipush 66, 2, 0, 0, 0),
  (6, .dup2, 1, 0, 0, 0),
  (7, .iaload, 1, 0, 0, 0),
  (8, .iconst 1, 1, 0, 0, 0),
  (9, .isub, 1, 0, 0, 0),
  (10, .iastore, 1, 0, 0, 0),
  (11, .bipush 12, 2, 0, 0, 0),
  (13, .iload_n 1, 1, 0, 0, 0),
  (14, .imul, 1, 0, 0, 0),
  (15, .istore_n 2, 1, 0, 0, 0),
  (16, .iload_n 2, 1, 0, 0, 0),
  (17, .bipush 12, 2, 0, 0, 0),
  (19, .aload_n 0, 1, 0, 0, 0),
  (20, .getfield 7, 3, 10, 1, 781),
  (23, .bipush 66, 2, 0, 0, 0),
  (25, .iaload, 1, 0, 0, 0),
  (26, .imul, 1, 0, 0, 0),
  (27, .if_icmp .ge 30, 3, 0, 0, 0),
  (30, .aload_n 0, 1, 0, 0, 0),
  (31, .getfield 7, 3, 10, 1, 781),
  (34, .bipush 67, 2, 0, 0, 0),
  (36, .iload_n 2, 1, 0, 0, 0),
  (37, .iadd, 1, 0, 0, 0),
  (38, .aload_n 0, 1, 0, 0, 0),
  (39, .getfield 7, 3, 10, 1, 781),
  (42, .bipush 67, 2, 0, 0, 0),
  (44, .iload_n 2, 1, 0, 0, 0),
  (45, .iadd, 1, 0, 0, 0),
  (46, .bipush 12, 2, 0, 0, 0),
  (48, .iadd, 1, 0, 0, 0),
  (49, .iaload, 1, 0, 0, 0),
  (50, .iastore, 1, 0, 0, 0),
  (51, .iinc 2 1, 3, 0, 0, 0),
  (54, .goto (-38), 3, 0, 0, 0),
  (57, .aload_n 0, 1, 0, 0, 0),
  (58, .aload_n 0, 1, 0, 0, 0),
  (59, .getfield 7, 3, 10, 1, 781),
  (62, .bipush 66, 2, 0, 0, 0),
  (64, .iaload, 1, 0, 0, 0),
  (65, .invokevirtual 104, 3, 139, 0, 908),
  (68, .return_, 1, 0, 0, 0)
  ]
/-- X10_wash -/
def zp150 : List (Nat × zRow) := [
  (0, .aload_n 0, 1, 0, 0, 0),
  (1, .iconst 0, 1, 0, 0, 0),
  (2, .putfield 47, 3, 10, 0, 780),
  (5, .aload_n 0, 1, 0, 0, 0),
  (6, .iload_n 1, 1, 0, 0, 0),
  (7, .invokevirtual 130, 3, 119, 0, 924),
  (10, .ifCond .ne 5, 3, 0, 0, 0),
  (13, .iconst (-1), 1, 0, 0, 0),
  (14, .ireturn, 1, 0, 0, 0),
  (15, .aload_n 0, 1, 0, 0, 0),
  (16, .iload_n 1, 1, 0, 0, 0),
  (17, .iconst 5, 1, 0, 0, 0),
  (18, .invokevirtual 58, 3, 117, 0, 900),
  (21, .iconst 1, 1, 0, 0, 0),
  (22, .if_icmp .ne 21, 3, 0, 0, 0),
  (25, .aload_n 0, 1, 0, 0, 0),
  (26, .invokevirtual 127, 3, 128, 0, 936),
  (29, .aload_n 0, 1, 0, 0, 0),
  (30, .iload_n 1, 1, 0, 0, 0),
  (31, .invokevirtual 66, 3, 127, 0, 940),
  (34, .isub, 1, 0, 0, 0),
  (35, .bipush 60, 2, 0, 0, 0),
  (37, .if_icmp .le 6, 3, 0, 0, 0),
  (40, .bipush (-5), 2, 0, 0, 0),
  (42, .ireturn, 1, 0, 0, 0),
  (43, .aload_n 0, 1, 0, 0, 0),
  (44, .invokevirtual 94, 3, 121, 0, 845),
  (47, .aload_n 0, 1, 0, 0, 0),
  (48, .iload_n 1, 1, 0, 0, 0),
  (49, .invokevirtual 142, 3, 149, 0, 960),
  (52, .aload_n 0, 1, 0, 0, 0),
  (53, .getfield 7, 3, 10, 1, 781),
  (56, .bipush 66, 2, 0, 0, 0),
  (58, .iaload, 1, 0, 0, 0),
  (59, .ireturn, 1, 0, 0, 0)
  ]
/-- X10_nextOpen -/
def zp151 : List (Nat × zRow) := [
  (0, .bipush (-6), 2, 0, 0, 0),
  (2, .istore_n 1, 1, 0, 0, 0),
  (3, .iconst 0, 1, 0, 0, 0),
  (4, .istore_n 2, 1, 0, 0, 0),
  (5, .iload_n 2, 1, 0, 0, 0),
  (6, .aload_n 0, 1, 0, 0, 0),
  (7, .getfield 7, 3, 10, 1, 781),
  (10, .bipush 66, 2, 0, 0, 0),
  (12, .iaload, 1, 0, 0, 0),
  (13, .if_icmp .ge 71, 3, 0, 0, 0),
  (16, .aload_n 0, 1, 0, 0, 0),
  (17, .iload_n 2, 1, 0, 0, 0),
  (18, .iconst 5, 1, 0, 0, 0),
  (19, .invokevirtual 58, 3, 117, 0, 900),
  (22, .ifCond .ne 44, 3, 0, 0, 0),
  (25, .iload_n 1, 1, 0, 0, 0),
  (26, .bipush (-6), 2, 0, 0, 0),
  (28, .if_icmp .eq 34, 3, 0, 0, 0),
  (31, .aload_n 0, 1, 0, 0, 0),
  (32, .getfield 7, 3, 10, 1, 781),
  (35, .bipush 61, 2, 0, 0, 0),
  (37, .aload_n 0, 1, 0, 0, 0),
  (38, .iload_n 2, 1, 0, 0, 0),
  (39, .iconst 0, 1, 0, 0, 0),
  (40, .invokevirtual 58, 3, 117, 0, 900),
  (43, .iadd, 1, 0, 0, 0),
  (44, .iaload, 1, 0, 0, 0),
  (45, .aload_n 0, 1, 0, 0, 0),
  (46, .getfield 7, 3, 10, 1, 781),
  (49, .bipush 61, 2, 0, 0, 0),
  (51, .aload_n 0, 1, 0, 0, 0),
  (52, .iload_n 1, 1, 0, 0, 0),
  (53, .iconst 0, 1, 0, 0, 0),
  (54, .invokevirtual 58, 3, 117, 0, 900),
  (57, .iadd, 1, 0, 0, 0),
  (58, .iaload, 1, 0, 0, 0),
  (59, .if_icmp .le 7, 3, 0, 0, 0),
  (62, .iconst 1, 1, 0, 0, 0),
  (63, .goto 4, 3, 0, 0, 0),
  (66, .iconst 0, 1, 0, 0, 0),
  (67, .istore_n 3, 1, 0, 0, 0),
  (68, .iload_n 3, 1, 0, 0, 0),
  (69, .ifCond .eq 7, 3, 0, 0, 0),
  (72, .iload_n 2, 1, 0, 0, 0),
  (73, .goto 4, 3, 0, 0, 0),
  (76, .iload_n 1, 1, 0, 0, 0),
  (77, .istore_n 1, 1, 0, 0, 0),
  (78, .iinc 2 1, 3, 0, 0, 0),
  (81, .goto (-76), 3, 0, 0, 0),
  (84, .iload_n 1, 1, 0, 0, 0),
  (85, .ireturn, 1, 0, 0, 0)
  ]
/-- X10_judges -/
def zp152 : List (Nat × zRow) := [
  (0, .iconst 0, 1, 0, 0, 0),
  (1, .istore_n 1, 1, 0, 0, 0),
  (2, .aload_n 0, 1, 0, 0, 0),
  (3, .invokevirtual 145, 3, 151, 0, 972),
  (6, .istore_n 2, 1, 0, 0, 0),
  (7, .iload_n 2, 1, 0, 0, 0),
  (8, .bipush (-6), 2, 0, 0, 0),
  (10, .if_icmp .eq 38, 3, 0, 0, 0),
  (13, .aload_n 0, 1, 0, 0, 0),
  (14, .iload_n 2, 1, 0, 0, 0),
  (15, .invokevirtual 133, 3, 144, 0, 928),
  (18, .ifCond .eq 15, 3, 0, 0, 0),
  (21, .aload_n 0, 1, 0, 0, 0),
  (22, .iload_n 2, 1, 0, 0, 0),
  (23, .invokevirtual 136, 3, 145, 0, 944),
  (26, .pop, 1, 0, 0, 0),
  (27, .iinc 1 1, 3, 0, 0, 0),
  (30, .goto 10, 3, 0, 0, 0),
  (33, .aload_n 0, 1, 0, 0, 0),
  (34, .iload_n 2, 1, 0, 0, 0),
  (35, .iconst 5, 1, 0, 0, 0),
  (36, .iconst 2, 1, 0, 0, 0),
  (37, .invokevirtual 100, 3, 118, 0, 892),
  (40, .aload_n 0, 1, 0, 0, 0),
  (41, .invokevirtual 145, 3, 151, 0, 972),
  (44, .istore_n 2, 1, 0, 0, 0),
  (45, .goto (-38), 3, 0, 0, 0),
  (48, .iload_n 1, 1, 0, 0, 0),
  (49, .ireturn, 1, 0, 0, 0)
  ]
/-- X10_judge -/
def zp153 : List (Nat × zRow) := [
  (0, .aload_n 0, 1, 0, 0, 0),
  (1, .iconst 0, 1, 0, 0, 0),
  (2, .putfield 47, 3, 10, 0, 780),
  (5, .aload_n 0, 1, 0, 0, 0),
  (6, .invokevirtual 94, 3, 121, 0, 845),
  (9, .aload_n 0, 1, 0, 0, 0),
  (10, .invokevirtual 148, 3, 152, 0, 968),
  (13, .ireturn, 1, 0, 0, 0)
  ]
/-- X10_carried -/
def zp154 : List (Nat × zRow) := [
  (0, .iconst 0, 1, 0, 0, 0),
  (1, .istore_n 3, 1, 0, 0, 0),
  (2, .iconst 0, 1, 0, 0, 0),
  (3, .istore 4, 2, 0, 0, 0),
  (5, .iload 4, 2, 0, 0, 0),
  (7, .iload_n 1, 1, 0, 0, 0),
  (8, .if_icmp .ge 26, 3, 0, 0, 0),
  (11, .iload_n 3, 1, 0, 0, 0),
  (12, .aload_n 0, 1, 0, 0, 0),
  (13, .iload 4, 2, 0, 0, 0),
  (15, .invokevirtual 81, 3, 131, 0, 996),
  (18, .ifCond .eq 7, 3, 0, 0, 0),
  (21, .iconst 0, 1, 0, 0, 0),
  (22, .goto 4, 3, 0, 0, 0),
  (25, .iconst 1, 1, 0, 0, 0),
  (26, .iadd, 1, 0, 0, 0),
  (27, .istore_n 3, 1, 0, 0, 0),
  (28, .iinc 4 1, 3, 0, 0, 0),
  (31, .goto (-26), 3, 0, 0, 0),
  (34, .iconst 0, 1, 0, 0, 0),
  (35, .istore 4, 2, 0, 0, 0),
  (37, .iload 4, 2, 0, 0, 0),
  (39, .aload_n 0, 1, 0, 0, 0),
  (40, .getfield 7, 3, 10, 1, 781),
  (43, .bipush 66, 2, 0, 0, 0),
  (45, .iaload, 1, 0, 0, 0),
  (46, .if_icmp .ge 101, 3, 0, 0, 0),
  (49, .aload_n 0, 1, 0, 0, 0),
  (50, .iload 4, 2, 0, 0, 0),
  (52, .iconst 1, 1, 0, 0, 0),
  (53, .invokevirtual 58, 3, 117, 0, 900),
  (56, .iconst 1, 1, 0, 0, 0),
  (57, .if_icmp .ne 37, 3, 0, 0, 0),
  (60, .aload_n 0, 1, 0, 0, 0),
  (61, .iload 4, 2, 0, 0, 0),
  (63, .iconst 2, 1, 0, 0, 0),
  (64, .invokevirtual 58, 3, 117, 0, 900),
  (67, .iload_n 1, 1, 0, 0, 0),
  (68, .if_icmp .lt 18, 3, 0, 0, 0),
  (71, .iload_n 2, 1, 0, 0, 0),
  (72, .ifCond .eq 18, 3, 0, 0, 0),
  (75, .aload_n 0, 1, 0, 0, 0),
  (76, .iload 4, 2, 0, 0, 0),
  (78, .iconst 2, 1, 0, 0, 0),
  (79, .invokevirtual 58, 3, 117, 0, 900),
  (82, .iload_n 1, 1, 0, 0, 0),
  (83, .if_icmp .ne 7, 3, 0, 0, 0),
  (86, .iconst 1, 1, 0, 0, 0),
  (87, .goto 23, 3, 0, 0, 0),
  (90, .iconst 0, 1, 0, 0, 0),
  (91, .goto 19, 3, 0, 0, 0),
  (94, .aload_n 0, 1, 0, 0, 0),
  (95, .iload 4, 2, 0, 0, 0),
  (97, .iconst 3, 1, 0, 0, 0),
  (98, .invokevirtual 58, 3, 117, 0, 900),
  (101, .iload_n 1, 1, 0, 0, 0),
  (102, .if_icmp .gt 7, 3, 0, 0, 0),
  (105, .iconst 1, 1, 0, 0, 0),
  (106, .goto 4, 3, 0, 0, 0),
  (109, .iconst 0, 1, 0, 0, 0),
  (110, .istore 5, 2, 0, 0, 0),
  (112, .iload_n 3, 1, 0, 0, 0),
  (113, .aload_n 0, 1, 0, 0, 0),
  (114, .getfield 29, 3, 10, 9, 789),
  (117, .iload 4, 2, 0, 0, 0),
  (119, .baload, 1, 0, 0, 0),
  (120, .ifCond .eq 18, 3, 0, 0, 0),
  (123, .iload 5, 2, 0, 0, 0),
  (125, .ifCond .eq 13, 3, 0, 0, 0),
  (128, .aload_n 0, 1, 0, 0, 0),
  (129, .iload 4, 2, 0, 0, 0),
  (131, .iconst 4, 1, 0, 0, 0),
  (132, .invokevirtual 58, 3, 117, 0, 900),
  (135, .goto 4, 3, 0, 0, 0),
  (138, .iconst 0, 1, 0, 0, 0),
  (139, .iadd, 1, 0, 0, 0),
  (140, .istore_n 3, 1, 0, 0, 0),
  (141, .iinc 4 1, 3, 0, 0, 0),
  (144, .goto (-107), 3, 0, 0, 0),
  (147, .iload_n 3, 1, 0, 0, 0),
  (148, .ireturn, 1, 0, 0, 0)
  ]
/-- X10_carriesOver -/
def zp155 : List (Nat × zRow) := [
  (0, .iconst 0, 1, 0, 0, 0),
  (1, .istore_n 1, 1, 0, 0, 0),
  (2, .iload_n 1, 1, 0, 0, 0),
  (3, .aload_n 0, 1, 0, 0, 0),
  (4, .getfield 7, 3, 10, 1, 781),
  (7, .bipush 66, 2, 0, 0, 0),
  (9, .iaload, 1, 0, 0, 0),
  (10, .if_icmp .ge 38, 3, 0, 0, 0),
  (13, .aload_n 0, 1, 0, 0, 0),
  (14, .getfield 35, 3, 10, 12, 792),
  (17, .iload_n 1, 1, 0, 0, 0),
  (18, .aload_n 0, 1, 0, 0, 0),
  (19, .iload_n 1, 1, 0, 0, 0),
  (20, .iconst 5, 1, 0, 0, 0),
  (21, .invokevirtual 58, 3, 117, 0, 900),
  (24, .ifCond .ne 12, 3, 0, 0, 0),
  (27, .aload_n 0, 1, 0, 0, 0),
  (28, .iload_n 1, 1, 0, 0, 0),
  (29, .iconst 1, 1, 0, 0, 0),
  (30, .invokevirtual 124, 3, 126, 0, 932),
  (33, .ifCond .le 7, 3, 0, 0, 0),
  (36, .iconst 1, 1, 0, 0, 0),
  (37, .goto 4, 3, 0, 0, 0),
  (40, .iconst 0, 1, 0, 0, 0),
  (41, .bastore, 1, 0, 0, 0),
  (42, .iinc 1 1, 3, 0, 0, 0),
  (45, .goto (-43), 3, 0, 0, 0),
  (48, .iconst 0, 1, 0, 0, 0),
  (49, .istore_n 1, 1, 0, 0, 0),
  (50, .iload_n 1, 1, 0, 0, 0),
  (51, .aload_n 0, 1, 0, 0, 0),
  (52, .getfield 7, 3, 10, 1, 781),
  (55, .bipush 66, 2, 0, 0, 0),
  (57, .iaload, 1, 0, 0, 0),
  (58, .if_icmp .ge 68, 3, 0, 0, 0),
  (61, .aload_n 0, 1, 0, 0, 0),
  (62, .getfield 35, 3, 10, 12, 792),
  (65, .iload_n 1, 1, 0, 0, 0),
  (66, .baload, 1, 0, 0, 0),
  (67, .ifCond .ne 53, 3, 0, 0, 0),
  (70, .aload_n 0, 1, 0, 0, 0),
  (71, .aload_n 0, 1, 0, 0, 0),
  (72, .iload_n 1, 1, 0, 0, 0),
  (73, .iconst 3, 1, 0, 0, 0),
  (74, .invokevirtual 58, 3, 117, 0, 900),
  (77, .iconst 0, 1, 0, 0, 0),
  (78, .invokevirtual 151, 3, 154, 0, 1004),
  (81, .istore_n 2, 1, 0, 0, 0),
  (82, .aload_n 0, 1, 0, 0, 0),
  (83, .iload_n 1, 1, 0, 0, 0),
  (84, .iconst 2, 1, 0, 0, 0),
  (85, .aload_n 0, 1, 0, 0, 0),
  (86, .iload_n 1, 1, 0, 0, 0),
  (87, .iconst 1, 1, 0, 0, 0),
  (88, .invokevirtual 58, 3, 117, 0, 900),
  (91, .iconst 1, 1, 0, 0, 0),
  (92, .if_icmp .ne 7, 3, 0, 0, 0),
  (95, .iload_n 2, 1, 0, 0, 0),
  (96, .goto 14, 3, 0, 0, 0),
  (99, .aload_n 0, 1, 0, 0, 0),
  (100, .aload_n 0, 1, 0, 0, 0),
  (101, .iload_n 1, 1, 0, 0, 0),
  (102, .iconst 2, 1, 0, 0, 0),
  (103, .invokevirtual 58, 3, 117, 0, 900),
  (106, .iconst 1, 1, 0, 0, 0),
  (107, .invokevirtual 151, 3, 154, 0, 1004),
  (110, .invokevirtual 100, 3, 118, 0, 892),
  (113, .aload_n 0, 1, 0, 0, 0),
  (114, .iload_n 1, 1, 0, 0, 0),
  (115, .iconst 3, 1, 0, 0, 0),
  (116, .iload_n 2, 1, 0, 0, 0),
  (117, .invokevirtual 100, 3, 118, 0, 892),
  (120, .iinc 1 1, 3, 0, 0, 0),
  (123, .goto (-73), 3, 0, 0, 0),
  (126, .iconst 0, 1, 0, 0, 0),
  (127, .istore_n 1, 1, 0, 0, 0),
  (128, .iload_n 1, 1, 0, 0, 0),
  (129, .aload_n 0, 1, 0, 0, 0),
  (130, .getfield 7, 3, 10, 1, 781),
  (133, .bipush 66, 2, 0, 0, 0),
  (135, .iaload, 1, 0, 0, 0),
  (136, .if_icmp .ge 111, 3, 0, 0, 0),
  (139, .iconst 0, 1, 0, 0, 0),
  (140, .istore_n 2, 1, 0, 0, 0),
  (141, .iload_n 2, 1, 0, 0, 0),
  (142, .iload_n 1, 1, 0, 0, 0),
  (143, .if_icmp .ge 98, 3, 0, 0, 0),
  (146, .aload_n 0, 1, 0, 0, 0),
  (147, .getfield 35, 3, 10, 12, 792),
  (150, .iload_n 1, 1, 0, 0, 0),
  (151, .baload, 1, 0, 0, 0),
  (152, .ifCond .ne 89, 3, 0, 0, 0),
  (155, .aload_n 0, 1, 0, 0, 0),
  (156, .getfield 35, 3, 10, 12, 792),
  (159, .iload_n 2, 1, 0, 0, 0),
  (160, .baload, 1, 0, 0, 0),
  (161, .ifCond .ne 42, 3, 0, 0, 0),
  (164, .aload_n 0, 1, 0, 0, 0),
  (165, .iload_n 1, 1, 0, 0, 0),
  (166, .iconst 1, 1, 0, 0, 0),
  (167, .invokevirtual 58, 3, 117, 0, 900),
  (170, .iconst 1, 1, 0, 0, 0),
  (171, .if_icmp .ne 32, 3, 0, 0, 0),
  (174, .aload_n 0, 1, 0, 0, 0),
  (175, .iload_n 2, 1, 0, 0, 0),
  (176, .iconst 1, 1, 0, 0, 0),
  (177, .invokevirtual 58, 3, 117, 0, 900),
  (180, .iconst 1, 1, 0, 0, 0),
  (181, .if_icmp .ne 22, 3, 0, 0, 0),
  (184, .aload_n 0, 1, 0, 0, 0),
  (185, .iload_n 1, 1, 0, 0, 0),
  (186, .iconst 0, 1, 0, 0, 0),
  (187, .invokevirtual 58, 3, 117, 0, 900),
  (190, .aload_n 0, 1, 0, 0, 0),
  (191, .iload_n 2, 1, 0, 0, 0),
  (192, .iconst 0, 1, 0, 0, 0),
  (193, .invokevirtual 58, 3, 117, 0, 900),
  (196, .if_icmp .ne 7, 3, 0, 0, 0),
  (199, .iconst 1, 1, 0, 0, 0),
  (200, .goto 4, 3, 0, 0, 0),
  (203, .iconst 0, 1, 0, 0, 0),
  (204, .istore_n 3, 1, 0, 0, 0),
  (205, .aload_n 0, 1, 0, 0, 0),
  (206, .getfield 35, 3, 10, 12, 792),
  (209, .iload_n 1, 1, 0, 0, 0),
  (210, .iload_n 3, 1, 0, 0, 0),
  (211, .ifCond .eq 22, 3, 0, 0, 0),
  (214, .aload_n 0, 1, 0, 0, 0),
  (215, .iload_n 1, 1, 0, 0, 0),
  (216, .iconst 2, 1, 0, 0, 0),
  (217, .invokevirtual 58, 3, 117, 0, 900),
  (220, .aload_n 0, 1, 0, 0, 0),
  (221, .iload_n 2, 1, 0, 0, 0),
  (222, .iconst 2, 1, 0, 0, 0),
  (223, .invokevirtual 58, 3, 117, 0, 900),
  (226, .if_icmp .ne 7, 3, 0, 0, 0),
  (229, .iconst 1, 1, 0, 0, 0),
  (230, .goto 4, 3, 0, 0, 0),
  (233, .iconst 0, 1, 0, 0, 0),
  (234, .bastore, 1, 0, 0, 0),
  (235, .iinc 2 1, 3, 0, 0, 0),
  (238, .goto (-97), 3, 0, 0, 0),
  (241, .iinc 1 1, 3, 0, 0, 0),
  (244, .goto (-116), 3, 0, 0, 0),
  (247, .return_, 1, 0, 0, 0)
  ]
/-- X10_ship -/
def zp156 : List (Nat × zRow) := [
  (0, .aload_n 0, 1, 0, 0, 0),
  (1, .iconst 0, 1, 0, 0, 0),
  (2, .putfield 47, 3, 10, 0, 780),
  (5, .aload_n 0, 1, 0, 0, 0),
  (6, .invokevirtual 94, 3, 121, 0, 845),
  (9, .aload_n 0, 1, 0, 0, 0),
  (10, .invokevirtual 155, 3, 133, 0, 980),
  (13, .aload_n 0, 1, 0, 0, 0),
  (14, .invokevirtual 158, 3, 155, 0, 1000),
  (17, .aload_n 0, 1, 0, 0, 0),
  (18, .getfield 7, 3, 10, 1, 781),
  (21, .bipush 66, 2, 0, 0, 0),
  (23, .iaload, 1, 0, 0, 0),
  (24, .iconst 1, 1, 0, 0, 0),
  (25, .isub, 1, 0, 0, 0),
  (26, .istore_n 1, 1, 0, 0, 0),
  (27, .iload_n 1, 1, 0, 0, 0),
  (28, .ifCond .lt 23, 3, 0, 0, 0),
  (31, .aload_n 0, 1, 0, 0, 0),
  (32, .getfield 35, 3, 10, 12, 792),
  (35, .iload_n 1, 1, 0, 0, 0),
  (36, .baload, 1, 0, 0, 0),
  (37, .ifCond .eq 8, 3, 0, 0, 0),
  (40, .aload_n 0, 1, 0, 0, 0),
  (41, .iload_n 1, 1, 0, 0, 0),
  (42, .invokevirtual 142, 3, 149, 0, 960),
  (45, .iinc 1 (-1), 3, 0, 0, 0),
  (48, .goto (-21), 3, 0, 0, 0),
  (51, .sipush 365, 3, 0, 0, 0),
  (54, .istore_n 1, 1, 0, 0, 0),
  (55, .iload_n 1, 1, 0, 0, 0),
  (56, .bipush 61, 2, 0, 0, 0),
  (58, .if_icmp .lt 32, 3, 0, 0, 0),
  (61, .aload_n 0, 1, 0, 0, 0),
  (62, .getfield 7, 3, 10, 1, 781),
  (65, .sipush 309, 3, 0, 0, 0),
  (68, .iload_n 1, 1, 0, 0, 0),
  (69, .iadd, 1, 0, 0, 0),
  (70, .aload_n 0, 1, 0, 0, 0),
  (71, .getfield 7, 3, 10, 1, 781),
  (74, .sipush 309, 3, 0, 0, 0),
  (77, .iload_n 1, 1, 0, 0, 0),
  (78, .iadd, 1, 0, 0, 0),
  (79, .bipush 61, 2, 0, 0, 0),
  (81, .isub, 1, 0, 0, 0),
  (82, .iaload, 1, 0, 0, 0),
  (83, .iastore, 1, 0, 0, 0),
  (84, .iinc 1 (-1), 3, 0, 0, 0),
  (87, .goto (-32), 3, 0, 0, 0),
  (90, .aload_n 0, 1, 0, 0, 0),
  (91, .getfield 7, 3, 10, 1, 781),
  (94, .iconst 0, 1, 0, 0, 0),
  (95, .aload_n 0, 1, 0, 0, 0),
  (96, .getfield 70, 3, 10, 11, 791),
  (99, .iastore, 1, 0, 0, 0),
  (100, .aload_n 0, 1, 0, 0, 0),
  (101, .getfield 7, 3, 10, 1, 781),
  (104, .sipush 309, 3, 0, 0, 0),
  (107, .aload_n 0, 1, 0, 0, 0),
  (108, .getfield 70, 3, 10, 11, 791),
  (111, .iastore, 1, 0, 0, 0),
  (112, .iconst 0, 1, 0, 0, 0),
  (113, .istore_n 1, 1, 0, 0, 0),
  (114, .iload_n 1, 1, 0, 0, 0),
  (115, .bipush 60, 2, 0, 0, 0),
  (117, .if_icmp .ge 53, 3, 0, 0, 0),
  (120, .aload_n 0, 1, 0, 0, 0),
  (121, .getfield 7, 3, 10, 1, 781),
  (124, .iconst 1, 1, 0, 0, 0),
  (125, .iload_n 1, 1, 0, 0, 0),
  (126, .iadd, 1, 0, 0, 0),
  (127, .iload_n 1, 1, 0, 0, 0),
  (128, .aload_n 0, 1, 0, 0, 0),
  (129, .getfield 70, 3, 10, 11, 791),
  (132, .if_icmp .ge 12, 3, 0, 0, 0),
  (135, .aload_n 0, 1, 0, 0, 0),
  (136, .getfield 32, 3, 10, 10, 790),
  (139, .iload_n 1, 1, 0, 0, 0),
  (140, .iaload, 1, 0, 0, 0),
  (141, .goto 4, 3, 0, 0, 0),
  (144, .iconst 0, 1, 0, 0, 0),
  (145, .iastore, 1, 0, 0, 0),
  (146, .aload_n 0, 1, 0, 0, 0),
  (147, .getfield 7, 3, 10, 1, 781),
  (150, .sipush 310, 3, 0, 0, 0),
  (153, .iload_n 1, 1, 0, 0, 0),
  (154, .iadd, 1, 0, 0, 0),
  (155, .aload_n 0, 1, 0, 0, 0),
  (156, .getfield 7, 3, 10, 1, 781),
  (159, .iconst 1, 1, 0, 0, 0),
  (160, .iload_n 1, 1, 0, 0, 0),
  (161, .iadd, 1, 0, 0, 0),
  (162, .iaload, 1, 0, 0, 0),
  (163, .iastore, 1, 0, 0, 0),
  (164, .iinc 1 1, 3, 0, 0, 0),
  (167, .goto (-53), 3, 0, 0, 0),
  (170, .aload_n 0, 1, 0, 0, 0),
  (171, .getfield 7, 3, 10, 1, 781),
  (174, .sipush 308, 3, 0, 0, 0),
  (177, .dup2, 1, 0, 0, 0),
  (178, .iaload, 1, 0, 0, 0),
  (179, .aload_n 0, 1, 0, 0, 0),
  (180, .getfield 7, 3, 10, 1, 781),
  (183, .sipush 308, 3, 0, 0, 0),
  (186, .iaload, 1, 0, 0, 0),
  (187, .bipush 6, 2, 0, 0, 0),
  (189, .if_icmp .ge 7, 3, 0, 0, 0),
  (192, .iconst 1, 1, 0, 0, 0),
  (193, .goto 4, 3, 0, 0, 0),
  (196, .iconst 0, 1, 0, 0, 0),
  (197, .iadd, 1, 0, 0, 0),
  (198, .iastore, 1, 0, 0, 0),
  (199, .aload_n 0, 1, 0, 0, 0),
  (200, .getfield 7, 3, 10, 1, 781),
  (203, .sipush 307, 3, 0, 0, 0),
  (206, .dup2, 1, 0, 0, 0),
  (207, .iaload, 1, 0, 0, 0),
  (208, .iconst 1, 1, 0, 0, 0),
  (209, .iadd, 1, 0, 0, 0),
  (210, .iastore, 1, 0, 0, 0),
  (211, .aload_n 0, 1, 0, 0, 0),
  (212, .getfield 7, 3, 10, 1, 781),
  (215, .sipush 307, 3, 0, 0, 0),
  (218, .iaload, 1, 0, 0, 0),
  (219, .iconst 1, 1, 0, 0, 0),
  (220, .isub, 1, 0, 0, 0),
  (221, .ireturn, 1, 0, 0, 0)
  ]
/-- X10_letter -/
def zp157 : List (Nat × zRow) := [
  (0, .aload_n 0, 1, 0, 0, 0),
  (1, .iconst 0, 1, 0, 0, 0),
  (2, .putfield 47, 3, 10, 0, 780),
  (5, .iload_n 1, 1, 0, 0, 0),
  (6, .ifCond .ne 32, 3, 0, 0, 0),
  (9, .iload_n 2, 1, 0, 0, 0),
  (10, .iconst 0, 1, 0, 0, 0),
  (11, .aload_n 0, 1, 0, 0, 0),
  (12, .getfield 7, 3, 10, 1, 781),
  (15, .iconst 0, 1, 0, 0, 0),
  (16, .iaload, 1, 0, 0, 0),
  (17, .iconst 1, 1, 0, 0, 0),
  (18, .isub, 1, 0, 0, 0),
  (19, .invokestatic 51, 3, 116, 0, 842),
  (22, .ifCond .eq 14, 3, 0, 0, 0),
  (25, .aload_n 0, 1, 0, 0, 0),
  (26, .getfield 7, 3, 10, 1, 781),
  (29, .iconst 1, 1, 0, 0, 0),
  (30, .iload_n 2, 1, 0, 0, 0),
  (31, .iadd, 1, 0, 0, 0),
  (32, .iaload, 1, 0, 0, 0),
  (33, .goto 4, 3, 0, 0, 0),
  (36, .iconst (-1), 1, 0, 0, 0),
  (37, .ireturn, 1, 0, 0, 0),
  (38, .iload_n 1, 1, 0, 0, 0),
  (39, .iconst 1, 1, 0, 0, 0),
  (40, .if_icmp .eq 6, 3, 0, 0, 0),
  (43, .bipush (-2), 2, 0, 0, 0),
  (45, .ireturn, 1, 0, 0, 0),
  (46, .aload_n 0, 1, 0, 0, 0),
  (47, .invokevirtual 155, 3, 133, 0, 980),
  (50, .iload_n 2, 1, 0, 0, 0),
  (51, .iconst 0, 1, 0, 0, 0),
  (52, .aload_n 0, 1, 0, 0, 0),
  (53, .getfield 70, 3, 10, 11, 791),
  (56, .iconst 1, 1, 0, 0, 0),
  (57, .isub, 1, 0, 0, 0),
  (58, .invokestatic 51, 3, 116, 0, 842),
  (61, .ifCond .eq 12, 3, 0, 0, 0),
  (64, .aload_n 0, 1, 0, 0, 0),
  (65, .getfield 32, 3, 10, 10, 790),
  (68, .iload_n 2, 1, 0, 0, 0),
  (69, .iaload, 1, 0, 0, 0),
  (70, .goto 4, 3, 0, 0, 0),
  (73, .iconst (-1), 1, 0, 0, 0),
  (74, .ireturn, 1, 0, 0, 0)
  ]
/-- X10_seen -/
def zp158 : List (Nat × zRow) := [
  (0, .aload_n 0, 1, 0, 0, 0),
  (1, .iconst 0, 1, 0, 0, 0),
  (2, .putfield 47, 3, 10, 0, 780),
  (5, .iload_n 1, 1, 0, 0, 0),
  (6, .invokestatic 97, 3, 120, 0, 853),
  (9, .ifCond .ne 5, 3, 0, 0, 0),
  (12, .iconst (-1), 1, 0, 0, 0),
  (13, .ireturn, 1, 0, 0, 0),
  (14, .aload_n 0, 1, 0, 0, 0),
  (15, .iload_n 1, 1, 0, 0, 0),
  (16, .invokevirtual 161, 3, 135, 0, 1016),
  (19, .iload_n 2, 1, 0, 0, 0),
  (20, .iconst 0, 1, 0, 0, 0),
  (21, .aload_n 0, 1, 0, 0, 0),
  (22, .getfield 70, 3, 10, 11, 791),
  (25, .iconst 1, 1, 0, 0, 0),
  (26, .isub, 1, 0, 0, 0),
  (27, .invokestatic 51, 3, 116, 0, 842),
  (30, .ifCond .eq 12, 3, 0, 0, 0),
  (33, .aload_n 0, 1, 0, 0, 0),
  (34, .getfield 32, 3, 10, 10, 790),
  (37, .iload_n 2, 1, 0, 0, 0),
  (38, .iaload, 1, 0, 0, 0),
  (39, .goto 4, 3, 0, 0, 0),
  (42, .iconst (-1), 1, 0, 0, 0),
  (43, .ireturn, 1, 0, 0, 0)
  ]
/-- X10_quarrelsOf -/
def zp159 : List (Nat × zRow) := [
  (0, .iconst 0, 1, 0, 0, 0),
  (1, .istore_n 2, 1, 0, 0, 0),
  (2, .iconst 0, 1, 0, 0, 0),
  (3, .istore_n 3, 1, 0, 0, 0),
  (4, .iload_n 3, 1, 0, 0, 0),
  (5, .aload_n 0, 1, 0, 0, 0),
  (6, .getfield 7, 3, 10, 1, 781),
  (9, .bipush 66, 2, 0, 0, 0),
  (11, .iaload, 1, 0, 0, 0),
  (12, .if_icmp .ge 26, 3, 0, 0, 0),
  (15, .iload_n 2, 1, 0, 0, 0),
  (16, .aload_n 0, 1, 0, 0, 0),
  (17, .iload_n 1, 1, 0, 0, 0),
  (18, .iload_n 3, 1, 0, 0, 0),
  (19, .invokevirtual 164, 3, 125, 0, 1032),
  (22, .ifCond .eq 7, 3, 0, 0, 0),
  (25, .iconst 1, 1, 0, 0, 0),
  (26, .goto 4, 3, 0, 0, 0),
  (29, .iconst 0, 1, 0, 0, 0),
  (30, .iadd, 1, 0, 0, 0),
  (31, .istore_n 2, 1, 0, 0, 0),
  (32, .iinc 3 1, 3, 0, 0, 0),
  (35, .goto (-31), 3, 0, 0, 0),
  (38, .iload_n 2, 1, 0, 0, 0),
  (39, .ireturn, 1, 0, 0, 0)
  ]
/-- X10_of -/
def zp160 : List (Nat × zRow) := [
  (0, .aload_n 0, 1, 0, 0, 0),
  (1, .iconst 0, 1, 0, 0, 0),
  (2, .putfield 47, 3, 10, 0, 780),
  (5, .aload_n 0, 1, 0, 0, 0),
  (6, .iload_n 1, 1, 0, 0, 0),
  (7, .invokevirtual 130, 3, 119, 0, 924),
  (10, .ifCond .ne 5, 3, 0, 0, 0),
  (13, .iconst (-1), 1, 0, 0, 0),
  (14, .ireturn, 1, 0, 0, 0),
  (15, .iload_n 2, 1, 0, 0, 0),
  (16, .lookupswitch 43 #[(6, 28), (7, 34)], 28, 0, 0, 0),
  (44, .aload_n 0, 1, 0, 0, 0),
  (45, .iload_n 1, 1, 0, 0, 0),
  (46, .invokevirtual 167, 3, 159, 0, 1028),
  (49, .ireturn, 1, 0, 0, 0),
  (50, .aload_n 0, 1, 0, 0, 0),
  (51, .iload_n 1, 1, 0, 0, 0),
  (52, .invokevirtual 66, 3, 127, 0, 940),
  (55, .bipush 100, 2, 0, 0, 0),
  (57, .iadd, 1, 0, 0, 0),
  (58, .ireturn, 1, 0, 0, 0),
  (59, .iload_n 2, 1, 0, 0, 0),
  (60, .iconst 0, 1, 0, 0, 0),
  (61, .iconst 5, 1, 0, 0, 0),
  (62, .invokestatic 51, 3, 116, 0, 842),
  (65, .ifCond .eq 12, 3, 0, 0, 0),
  (68, .aload_n 0, 1, 0, 0, 0),
  (69, .iload_n 1, 1, 0, 0, 0),
  (70, .iload_n 2, 1, 0, 0, 0),
  (71, .invokevirtual 58, 3, 117, 0, 900),
  (74, .goto 5, 3, 0, 0, 0),
  (77, .bipush (-2), 2, 0, 0, 0),
  (79, .ireturn, 1, 0, 0, 0)
  ]
/-- X10_clash -/
def zp161 : List (Nat × zRow) := [
  (0, .aload_n 0, 1, 0, 0, 0),
  (1, .iconst 0, 1, 0, 0, 0),
  (2, .putfield 47, 3, 10, 0, 780),
  (5, .aload_n 0, 1, 0, 0, 0),
  (6, .iload_n 1, 1, 0, 0, 0),
  (7, .invokevirtual 130, 3, 119, 0, 924),
  (10, .ifCond .eq 11, 3, 0, 0, 0),
  (13, .aload_n 0, 1, 0, 0, 0),
  (14, .iload_n 2, 1, 0, 0, 0),
  (15, .invokevirtual 130, 3, 119, 0, 924),
  (18, .ifCond .ne 5, 3, 0, 0, 0),
  (21, .iconst (-1), 1, 0, 0, 0),
  (22, .ireturn, 1, 0, 0, 0),
  (23, .iload_n 1, 1, 0, 0, 0),
  (24, .iload_n 2, 1, 0, 0, 0),
  (25, .if_icmp .ne 6, 3, 0, 0, 0),
  (28, .bipush (-2), 2, 0, 0, 0),
  (30, .ireturn, 1, 0, 0, 0),
  (31, .aload_n 0, 1, 0, 0, 0),
  (32, .iload_n 1, 1, 0, 0, 0),
  (33, .iload_n 2, 1, 0, 0, 0),
  (34, .invokevirtual 164, 3, 125, 0, 1032),
  (37, .ifCond .eq 7, 3, 0, 0, 0),
  (40, .iconst 2, 1, 0, 0, 0),
  (41, .goto 17, 3, 0, 0, 0),
  (44, .aload_n 0, 1, 0, 0, 0),
  (45, .iload_n 1, 1, 0, 0, 0),
  (46, .iload_n 2, 1, 0, 0, 0),
  (47, .invokevirtual 62, 3, 124, 0, 904),
  (50, .ifCond .eq 7, 3, 0, 0, 0),
  (53, .iconst 1, 1, 0, 0, 0),
  (54, .goto 4, 3, 0, 0, 0),
  (57, .iconst 0, 1, 0, 0, 0),
  (58, .ireturn, 1, 0, 0, 0)
  ]
/-- X10_overMarks -/
def zp162 : List (Nat × zRow) := [
  (0, .iconst 0, 1, 0, 0, 0),
  (1, .istore_n 3, 1, 0, 0, 0),
  (2, .iconst 0, 1, 0, 0, 0),
  (3, .istore 4, 2, 0, 0, 0),
  (5, .iload 4, 2, 0, 0, 0),
  (7, .aload_n 0, 1, 0, 0, 0),
  (8, .getfield 7, 3, 10, 1, 781),
  (11, .bipush 66, 2, 0, 0, 0),
  (13, .iaload, 1, 0, 0, 0),
  (14, .if_icmp .ge 72, 3, 0, 0, 0),
  (17, .iload_n 2, 1, 0, 0, 0),
  (18, .iconst 1, 1, 0, 0, 0),
  (19, .if_icmp .ne 7, 3, 0, 0, 0),
  (22, .iconst 1, 1, 0, 0, 0),
  (23, .goto 35, 3, 0, 0, 0),
  (26, .iload_n 2, 1, 0, 0, 0),
  (27, .iconst 5, 1, 0, 0, 0),
  (28, .if_icmp .ne 12, 3, 0, 0, 0),
  (31, .aload_n 0, 1, 0, 0, 0),
  (32, .iload 4, 2, 0, 0, 0),
  (34, .invokevirtual 167, 3, 159, 0, 1028),
  (37, .goto 21, 3, 0, 0, 0),
  (40, .aload_n 0, 1, 0, 0, 0),
  (41, .iload 4, 2, 0, 0, 0),
  (43, .iconst 5, 1, 0, 0, 0),
  (44, .invokevirtual 58, 3, 117, 0, 900),
  (47, .iload_n 2, 1, 0, 0, 0),
  (48, .iconst 2, 1, 0, 0, 0),
  (49, .isub, 1, 0, 0, 0),
  (50, .if_icmp .ne 7, 3, 0, 0, 0),
  (53, .iconst 1, 1, 0, 0, 0),
  (54, .goto 4, 3, 0, 0, 0),
  (57, .iconst 0, 1, 0, 0, 0),
  (58, .istore 5, 2, 0, 0, 0),
  (60, .iload_n 3, 1, 0, 0, 0),
  (61, .aload_n 0, 1, 0, 0, 0),
  (62, .iload 4, 2, 0, 0, 0),
  (64, .iconst 0, 1, 0, 0, 0),
  (65, .invokevirtual 58, 3, 117, 0, 900),
  (68, .iload_n 1, 1, 0, 0, 0),
  (69, .if_icmp .ne 8, 3, 0, 0, 0),
  (72, .iload 5, 2, 0, 0, 0),
  (74, .goto 4, 3, 0, 0, 0),
  (77, .iconst 0, 1, 0, 0, 0),
  (78, .iadd, 1, 0, 0, 0),
  (79, .istore_n 3, 1, 0, 0, 0),
  (80, .iinc 4 1, 3, 0, 0, 0),
  (83, .goto (-78), 3, 0, 0, 0),
  (86, .iload_n 3, 1, 0, 0, 0),
  (87, .ireturn, 1, 0, 0, 0)
  ]
/-- X10_editor -/
def zp163 : List (Nat × zRow) := [
  (0, .aload_n 0, 1, 0, 0, 0),
  (1, .iconst 0, 1, 0, 0, 0),
  (2, .putfield 47, 3, 10, 0, 780),
  (5, .iload_n 1, 1, 0, 0, 0),
  (6, .invokestatic 97, 3, 120, 0, 853),
  (9, .ifCond .ne 5, 3, 0, 0, 0),
  (12, .iconst (-1), 1, 0, 0, 0),
  (13, .ireturn, 1, 0, 0, 0),
  (14, .iload_n 2, 1, 0, 0, 0),
  (15, .iconst 0, 1, 0, 0, 0),
  (16, .bipush 6, 2, 0, 0, 0),
  (18, .invokestatic 51, 3, 116, 0, 842),
  (21, .ifCond .ne 6, 3, 0, 0, 0),
  (24, .bipush (-2), 2, 0, 0, 0),
  (26, .ireturn, 1, 0, 0, 0),
  (27, .iload_n 2, 1, 0, 0, 0),
  (28, .bipush 6, 2, 0, 0, 0),
  (30, .if_icmp .ne 13, 3, 0, 0, 0),
  (33, .aload_n 0, 1, 0, 0, 0),
  (34, .iload_n 1, 1, 0, 0, 0),
  (35, .invokevirtual 161, 3, 135, 0, 1016),
  (38, .aload_n 0, 1, 0, 0, 0),
  (39, .getfield 70, 3, 10, 11, 791),
  (42, .ireturn, 1, 0, 0, 0),
  (43, .iload_n 2, 1, 0, 0, 0),
  (44, .ifCond .ne 15, 3, 0, 0, 0),
  (47, .aload_n 0, 1, 0, 0, 0),
  (48, .getfield 7, 3, 10, 1, 781),
  (51, .bipush 61, 2, 0, 0, 0),
  (53, .iload_n 1, 1, 0, 0, 0),
  (54, .iadd, 1, 0, 0, 0),
  (55, .iaload, 1, 0, 0, 0),
  (56, .goto 9, 3, 0, 0, 0),
  (59, .aload_n 0, 1, 0, 0, 0),
  (60, .iload_n 1, 1, 0, 0, 0),
  (61, .iload_n 2, 1, 0, 0, 0),
  (62, .invokevirtual 170, 3, 162, 0, 1044),
  (65, .ireturn, 1, 0, 0, 0)
  ]
/-- X10_allQuarrels -/
def zp164 : List (Nat × zRow) := [
  (0, .iconst 0, 1, 0, 0, 0),
  (1, .istore_n 1, 1, 0, 0, 0),
  (2, .iconst 0, 1, 0, 0, 0),
  (3, .istore_n 2, 1, 0, 0, 0),
  (4, .iload_n 2, 1, 0, 0, 0),
  (5, .aload_n 0, 1, 0, 0, 0),
  (6, .getfield 7, 3, 10, 1, 781),
  (9, .bipush 66, 2, 0, 0, 0),
  (11, .iaload, 1, 0, 0, 0),
  (12, .if_icmp .ge 17, 3, 0, 0, 0),
  (15, .iload_n 1, 1, 0, 0, 0),
  (16, .aload_n 0, 1, 0, 0, 0),
  (17, .iload_n 2, 1, 0, 0, 0),
  (18, .invokevirtual 167, 3, 159, 0, 1028),
  (21, .iadd, 1, 0, 0, 0),
  (22, .istore_n 1, 1, 0, 0, 0),
  (23, .iinc 2 1, 3, 0, 0, 0),
  (26, .goto (-22), 3, 0, 0, 0),
  (29, .iload_n 1, 1, 0, 0, 0),
  (30, .iconst 2, 1, 0, 0, 0),
  (31, .idiv, 1, 0, 0, 0),
  (32, .ireturn, 1, 0, 0, 0)
  ]
/-- X10_count -/
def zp165 : List (Nat × zRow) := [
  (0, .aload_n 0, 1, 0, 0, 0),
  (1, .iconst 0, 1, 0, 0, 0),
  (2, .putfield 47, 3, 10, 0, 780),
  (5, .iload_n 1, 1, 0, 0, 0),
  (6, .tableswitch 111 0 9 #[54, 61, 66, 74, 74, 82, 87, 87, 101, 106], 54, 0, 0, 0),
  (60, .aload_n 0, 1, 0, 0, 0),
  (61, .getfield 7, 3, 10, 1, 781),
  (64, .iconst 0, 1, 0, 0, 0),
  (65, .iaload, 1, 0, 0, 0),
  (66, .ireturn, 1, 0, 0, 0),
  (67, .aload_n 0, 1, 0, 0, 0),
  (68, .invokevirtual 127, 3, 128, 0, 936),
  (71, .ireturn, 1, 0, 0, 0),
  (72, .aload_n 0, 1, 0, 0, 0),
  (73, .getfield 7, 3, 10, 1, 781),
  (76, .bipush 66, 2, 0, 0, 0),
  (78, .iaload, 1, 0, 0, 0),
  (79, .ireturn, 1, 0, 0, 0),
  (80, .aload_n 0, 1, 0, 0, 0),
  (81, .iload_n 1, 1, 0, 0, 0),
  (82, .iconst 3, 1, 0, 0, 0),
  (83, .isub, 1, 0, 0, 0),
  (84, .invokevirtual 139, 3, 147, 0, 952),
  (87, .ireturn, 1, 0, 0, 0),
  (88, .aload_n 0, 1, 0, 0, 0),
  (89, .invokevirtual 173, 3, 164, 0, 1052),
  (92, .ireturn, 1, 0, 0, 0),
  (93, .aload_n 0, 1, 0, 0, 0),
  (94, .getfield 7, 3, 10, 1, 781),
  (97, .sipush 307, 3, 0, 0, 0),
  (100, .iload_n 1, 1, 0, 0, 0),
  (101, .iadd, 1, 0, 0, 0),
  (102, .bipush 6, 2, 0, 0, 0),
  (104, .isub, 1, 0, 0, 0),
  (105, .iaload, 1, 0, 0, 0),
  (106, .ireturn, 1, 0, 0, 0),
  (107, .aload_n 0, 1, 0, 0, 0),
  (108, .getfield 91, 3, 10, 8, 788),
  (111, .ireturn, 1, 0, 0, 0),
  (112, .aload_n 0, 1, 0, 0, 0),
  (113, .getfield 55, 3, 10, 4, 784),
  (116, .ireturn, 1, 0, 0, 0),
  (117, .bipush (-2), 2, 0, 0, 0),
  (119, .ireturn, 1, 0, 0, 0)
  ]
/-- X10_isVersion -/
def zp166 : List (Nat × zRow) := [
  (0, .iload_n 1, 1, 0, 0, 0),
  (1, .iconst 0, 1, 0, 0, 0),
  (2, .aload_n 0, 1, 0, 0, 0),
  (3, .getfield 7, 3, 10, 1, 781),
  (6, .sipush 308, 3, 0, 0, 0),
  (9, .iaload, 1, 0, 0, 0),
  (10, .iconst 1, 1, 0, 0, 0),
  (11, .isub, 1, 0, 0, 0),
  (12, .invokestatic 51, 3, 116, 0, 842),
  (15, .ireturn, 1, 0, 0, 0)
  ]
/-- X10_version -/
def zp167 : List (Nat × zRow) := [
  (0, .aload_n 0, 1, 0, 0, 0),
  (1, .iconst 0, 1, 0, 0, 0),
  (2, .putfield 47, 3, 10, 0, 780),
  (5, .aload_n 0, 1, 0, 0, 0),
  (6, .iload_n 1, 1, 0, 0, 0),
  (7, .invokevirtual 176, 3, 166, 0, 1060),
  (10, .ifCond .ne 5, 3, 0, 0, 0),
  (13, .iconst (-1), 1, 0, 0, 0),
  (14, .ireturn, 1, 0, 0, 0),
  (15, .sipush 309, 3, 0, 0, 0),
  (18, .bipush 61, 2, 0, 0, 0),
  (20, .iload_n 1, 1, 0, 0, 0),
  (21, .imul, 1, 0, 0, 0),
  (22, .iadd, 1, 0, 0, 0),
  (23, .istore_n 3, 1, 0, 0, 0),
  (24, .iload_n 2, 1, 0, 0, 0),
  (25, .bipush (-6), 2, 0, 0, 0),
  (27, .if_icmp .ne 12, 3, 0, 0, 0),
  (30, .aload_n 0, 1, 0, 0, 0),
  (31, .getfield 7, 3, 10, 1, 781),
  (34, .iload_n 3, 1, 0, 0, 0),
  (35, .iaload, 1, 0, 0, 0),
  (36, .goto 33, 3, 0, 0, 0),
  (39, .iload_n 2, 1, 0, 0, 0),
  (40, .iconst 0, 1, 0, 0, 0),
  (41, .aload_n 0, 1, 0, 0, 0),
  (42, .getfield 7, 3, 10, 1, 781),
  (45, .iload_n 3, 1, 0, 0, 0),
  (46, .iaload, 1, 0, 0, 0),
  (47, .iconst 1, 1, 0, 0, 0),
  (48, .isub, 1, 0, 0, 0),
  (49, .invokestatic 51, 3, 116, 0, 842),
  (52, .ifCond .eq 16, 3, 0, 0, 0),
  (55, .aload_n 0, 1, 0, 0, 0),
  (56, .getfield 7, 3, 10, 1, 781),
  (59, .iload_n 3, 1, 0, 0, 0),
  (60, .iconst 1, 1, 0, 0, 0),
  (61, .iadd, 1, 0, 0, 0),
  (62, .iload_n 2, 1, 0, 0, 0),
  (63, .iadd, 1, 0, 0, 0),
  (64, .iaload, 1, 0, 0, 0),
  (65, .goto 4, 3, 0, 0, 0),
  (68, .iconst (-1), 1, 0, 0, 0),
  (69, .ireturn, 1, 0, 0, 0)
  ]
/-- X10_distance -/
def zp168 : List (Nat × zRow) := [
  (0, .iconst 0, 1, 0, 0, 0),
  (1, .istore_n 3, 1, 0, 0, 0),
  (2, .iload_n 3, 1, 0, 0, 0),
  (3, .aload_n 0, 1, 0, 0, 0),
  (4, .getfield 7, 3, 10, 1, 781),
  (7, .iload_n 2, 1, 0, 0, 0),
  (8, .iaload, 1, 0, 0, 0),
  (9, .if_icmp .gt 16, 3, 0, 0, 0),
  (12, .aload_n 0, 1, 0, 0, 0),
  (13, .getfield 38, 3, 10, 13, 793),
  (16, .iload_n 3, 1, 0, 0, 0),
  (17, .iload_n 3, 1, 0, 0, 0),
  (18, .iastore, 1, 0, 0, 0),
  (19, .iinc 3 1, 3, 0, 0, 0),
  (22, .goto (-20), 3, 0, 0, 0),
  (25, .iconst 1, 1, 0, 0, 0),
  (26, .istore_n 3, 1, 0, 0, 0),
  (27, .iload_n 3, 1, 0, 0, 0),
  (28, .aload_n 0, 1, 0, 0, 0),
  (29, .getfield 7, 3, 10, 1, 781),
  (32, .iload_n 1, 1, 0, 0, 0),
  (33, .iaload, 1, 0, 0, 0),
  (34, .if_icmp .gt 172, 3, 0, 0, 0),
  (37, .aload_n 0, 1, 0, 0, 0),
  (38, .getfield 41, 3, 10, 14, 794),
  (41, .iconst 0, 1, 0, 0, 0),
  (42, .iload_n 3, 1, 0, 0, 0),
  (43, .iastore, 1, 0, 0, 0),
  (44, .iconst 1, 1, 0, 0, 0),
  (45, .istore 4, 2, 0, 0, 0),
  (47, .iload 4, 2, 0, 0, 0),
  (49, .aload_n 0, 1, 0, 0, 0),
  (50, .getfield 7, 3, 10, 1, 781),
  (53, .iload_n 2, 1, 0, 0, 0),
  (54, .iaload, 1, 0, 0, 0),
  (55, .if_icmp .gt 111, 3, 0, 0, 0),
  (58, .aload_n 0, 1, 0, 0, 0),
  (59, .getfield 38, 3, 10, 13, 793),
  (62, .iload 4, 2, 0, 0, 0),
  (64, .iconst 1, 1, 0, 0, 0),
  (65, .isub, 1, 0, 0, 0),
  (66, .iaload, 1, 0, 0, 0),
  (67, .aload_n 0, 1, 0, 0, 0),
  (68, .getfield 7, 3, 10, 1, 781),
  (71, .iload_n 1, 1, 0, 0, 0),
  (72, .iload_n 3, 1, 0, 0, 0),
  (73, .iadd, 1, 0, 0, 0),
  (74, .iaload, 1, 0, 0, 0),
  (75, .aload_n 0, 1, 0, 0, 0),
  (76, .getfield 7, 3, 10, 1, 781),
  (79, .iload_n 2, 1, 0, 0, 0),
  (80, .iload 4, 2, 0, 0, 0),
  (82, .iadd, 1, 0, 0, 0),
  (83, .iaload, 1, 0, 0, 0),
  (84, .if_icmp .ne 7, 3, 0, 0, 0),
  (87, .iconst 0, 1, 0, 0, 0),
  (88, .goto 4, 3, 0, 0, 0),
  (91, .iconst 1, 1, 0, 0, 0),
  (92, .iadd, 1, 0, 0, 0),
  (93, .istore 5, 2, 0, 0, 0),
  (95, .aload_n 0, 1, 0, 0, 0),
  (96, .getfield 38, 3, 10, 13, 793),
  (99, .iload 4, 2, 0, 0, 0),
  (101, .iaload, 1, 0, 0, 0),
  (102, .aload_n 0, 1, 0, 0, 0),
  (103, .getfield 41, 3, 10, 14, 794),
  (106, .iload 4, 2, 0, 0, 0),
  (108, .iconst 1, 1, 0, 0, 0),
  (109, .isub, 1, 0, 0, 0),
  (110, .iaload, 1, 0, 0, 0),
  (111, .if_icmp .ge 15, 3, 0, 0, 0),
  (114, .aload_n 0, 1, 0, 0, 0),
  (115, .getfield 38, 3, 10, 13, 793),
  (118, .iload 4, 2, 0, 0, 0),
  (120, .iaload, 1, 0, 0, 0),
  (121, .iconst 1, 1, 0, 0, 0),
  (122, .iadd, 1, 0, 0, 0),
  (123, .goto 14, 3, 0, 0, 0),
  (126, .aload_n 0, 1, 0, 0, 0),
  (127, .getfield 41, 3, 10, 14, 794),
  (130, .iload 4, 2, 0, 0, 0),
  (132, .iconst 1, 1, 0, 0, 0),
  (133, .isub, 1, 0, 0, 0),
  (134, .iaload, 1, 0, 0, 0),
  (135, .iconst 1, 1, 0, 0, 0),
  (136, .iadd, 1, 0, 0, 0),
  (137, .istore 6, 2, 0, 0, 0),
  (139, .aload_n 0, 1, 0, 0, 0),
  (140, .getfield 41, 3, 10, 14, 794),
  (143, .iload 4, 2, 0, 0, 0),
  (145, .iload 5, 2, 0, 0, 0),
  (147, .iload 6, 2, 0, 0, 0),
  (149, .if_icmp .ge 8, 3, 0, 0, 0),
  (152, .iload 5, 2, 0, 0, 0),
  (154, .goto 5, 3, 0, 0, 0),
  (157, .iload 6, 2, 0, 0, 0),
  (159, .iastore, 1, 0, 0, 0),
  (160, .iinc 4 1, 3, 0, 0, 0),
  (163, .goto (-116), 3, 0, 0, 0),
  (166, .iconst 0, 1, 0, 0, 0),
  (167, .istore 4, 2, 0, 0, 0),
  (169, .iload 4, 2, 0, 0, 0),
  (171, .aload_n 0, 1, 0, 0, 0),
  (172, .getfield 7, 3, 10, 1, 781),
  (175, .iload_n 2, 1, 0, 0, 0),
  (176, .iaload, 1, 0, 0, 0),
  (177, .if_icmp .gt 23, 3, 0, 0, 0),
  (180, .aload_n 0, 1, 0, 0, 0),
  (181, .getfield 38, 3, 10, 13, 793),
  (184, .iload 4, 2, 0, 0, 0),
  (186, .aload_n 0, 1, 0, 0, 0),
  (187, .getfield 41, 3, 10, 14, 794),
  (190, .iload 4, 2, 0, 0, 0),
  (192, .iaload, 1, 0, 0, 0),
  (193, .iastore, 1, 0, 0, 0),
  (194, .iinc 4 1, 3, 0, 0, 0),
  (197, .goto (-28), 3, 0, 0, 0),
  (200, .iinc 3 1, 3, 0, 0, 0),
  (203, .goto (-176), 3, 0, 0, 0),
  (206, .aload_n 0, 1, 0, 0, 0),
  (207, .getfield 38, 3, 10, 13, 793),
  (210, .aload_n 0, 1, 0, 0, 0),
  (211, .getfield 7, 3, 10, 1, 781),
  (214, .iload_n 2, 1, 0, 0, 0),
  (215, .iaload, 1, 0, 0, 0),
  (216, .iaload, 1, 0, 0, 0),
  (217, .ireturn, 1, 0, 0, 0)
  ]
/-- X10_apart -/
def zp169 : List (Nat × zRow) := [
  (0, .aload_n 0, 1, 0, 0, 0),
  (1, .iconst 0, 1, 0, 0, 0),
  (2, .putfield 47, 3, 10, 0, 780),
  (5, .aload_n 0, 1, 0, 0, 0),
  (6, .iload_n 1, 1, 0, 0, 0),
  (7, .invokevirtual 176, 3, 166, 0, 1060),
  (10, .ifCond .eq 34, 3, 0, 0, 0),
  (13, .aload_n 0, 1, 0, 0, 0),
  (14, .iload_n 2, 1, 0, 0, 0),
  (15, .invokevirtual 176, 3, 166, 0, 1060),
  (18, .ifCond .eq 26, 3, 0, 0, 0),
  (21, .aload_n 0, 1, 0, 0, 0),
  (22, .sipush 309, 3, 0, 0, 0),
  (25, .bipush 61, 2, 0, 0, 0),
  (27, .iload_n 1, 1, 0, 0, 0),
  (28, .imul, 1, 0, 0, 0),
  (29, .iadd, 1, 0, 0, 0),
  (30, .sipush 309, 3, 0, 0, 0),
  (33, .bipush 61, 2, 0, 0, 0),
  (35, .iload_n 2, 1, 0, 0, 0),
  (36, .imul, 1, 0, 0, 0),
  (37, .iadd, 1, 0, 0, 0),
  (38, .invokevirtual 179, 3, 168, 0, 1068),
  (41, .goto 4, 3, 0, 0, 0),
  (44, .iconst (-1), 1, 0, 0, 0),
  (45, .ireturn, 1, 0, 0, 0)
  ]
/-- X10_ifAccepted -/
def zp170 : List (Nat × zRow) := [
  (0, .aload_n 0, 1, 0, 0, 0),
  (1, .iconst 0, 1, 0, 0, 0),
  (2, .putfield 47, 3, 10, 0, 780),
  (5, .aload_n 0, 1, 0, 0, 0),
  (6, .iload_n 1, 1, 0, 0, 0),
  (7, .invokevirtual 130, 3, 119, 0, 924),
  (10, .ifCond .ne 5, 3, 0, 0, 0),
  (13, .iconst (-1), 1, 0, 0, 0),
  (14, .ireturn, 1, 0, 0, 0),
  (15, .iload_n 2, 1, 0, 0, 0),
  (16, .iconst 0, 1, 0, 0, 0),
  (17, .iconst 1, 1, 0, 0, 0),
  (18, .invokestatic 51, 3, 116, 0, 842),
  (21, .ifCond .ne 6, 3, 0, 0, 0),
  (24, .bipush (-2), 2, 0, 0, 0),
  (26, .ireturn, 1, 0, 0, 0),
  (27, .aload_n 0, 1, 0, 0, 0),
  (28, .iload_n 1, 1, 0, 0, 0),
  (29, .iconst 5, 1, 0, 0, 0),
  (30, .invokevirtual 58, 3, 117, 0, 900),
  (33, .ifCond .ne 12, 3, 0, 0, 0),
  (36, .aload_n 0, 1, 0, 0, 0),
  (37, .iload_n 1, 1, 0, 0, 0),
  (38, .iconst 1, 1, 0, 0, 0),
  (39, .invokevirtual 124, 3, 126, 0, 932),
  (42, .ifCond .le 6, 3, 0, 0, 0),
  (45, .bipush (-5), 2, 0, 0, 0),
  (47, .ireturn, 1, 0, 0, 0),
  (48, .iload_n 2, 1, 0, 0, 0),
  (49, .ifCond .ne 12, 3, 0, 0, 0),
  (52, .aload_n 0, 1, 0, 0, 0),
  (53, .iload_n 1, 1, 0, 0, 0),
  (54, .iconst 0, 1, 0, 0, 0),
  (55, .invokevirtual 124, 3, 126, 0, 932),
  (58, .goto 13, 3, 0, 0, 0),
  (61, .aload_n 0, 1, 0, 0, 0),
  (62, .invokevirtual 127, 3, 128, 0, 936),
  (65, .aload_n 0, 1, 0, 0, 0),
  (66, .iload_n 1, 1, 0, 0, 0),
  (67, .invokevirtual 66, 3, 127, 0, 940),
  (70, .iadd, 1, 0, 0, 0),
  (71, .ireturn, 1, 0, 0, 0)
  ]
/-- X10_ifJudged -/
def zp171 : List (Nat × zRow) := [
  (0, .aload_n 0, 1, 0, 0, 0),
  (1, .iconst 0, 1, 0, 0, 0),
  (2, .putfield 47, 3, 10, 0, 780),
  (5, .iload_n 1, 1, 0, 0, 0),
  (6, .iconst 0, 1, 0, 0, 0),
  (7, .iconst 5, 1, 0, 0, 0),
  (8, .invokestatic 51, 3, 116, 0, 842),
  (11, .ifCond .ne 6, 3, 0, 0, 0),
  (14, .bipush (-2), 2, 0, 0, 0),
  (16, .ireturn, 1, 0, 0, 0),
  (17, .aload_n 0, 1, 0, 0, 0),
  (18, .invokevirtual 182, 3, 122, 0, 1080),
  (21, .iload_n 1, 1, 0, 0, 0),
  (22, .iconst 5, 1, 0, 0, 0),
  (23, .if_icmp .ge 12, 3, 0, 0, 0),
  (26, .aload_n 0, 1, 0, 0, 0),
  (27, .iload_n 1, 1, 0, 0, 0),
  (28, .iconst 4, 1, 0, 0, 0),
  (29, .invokevirtual 170, 3, 162, 0, 1044),
  (32, .goto 4, 3, 0, 0, 0),
  (35, .iconst 0, 1, 0, 0, 0),
  (36, .istore_n 2, 1, 0, 0, 0),
  (37, .aload_n 0, 1, 0, 0, 0),
  (38, .invokevirtual 148, 3, 152, 0, 968),
  (41, .pop, 1, 0, 0, 0),
  (42, .iload_n 1, 1, 0, 0, 0),
  (43, .iconst 5, 1, 0, 0, 0),
  (44, .if_icmp .ge 14, 3, 0, 0, 0),
  (47, .aload_n 0, 1, 0, 0, 0),
  (48, .iload_n 1, 1, 0, 0, 0),
  (49, .iconst 4, 1, 0, 0, 0),
  (50, .invokevirtual 170, 3, 162, 0, 1044),
  (53, .iload_n 2, 1, 0, 0, 0),
  (54, .isub, 1, 0, 0, 0),
  (55, .goto 7, 3, 0, 0, 0),
  (58, .aload_n 0, 1, 0, 0, 0),
  (59, .invokevirtual 127, 3, 128, 0, 936),
  (62, .istore_n 3, 1, 0, 0, 0),
  (63, .aload_n 0, 1, 0, 0, 0),
  (64, .invokevirtual 185, 3, 123, 0, 1084),
  (67, .iload_n 3, 1, 0, 0, 0),
  (68, .ireturn, 1, 0, 0, 0)
  ]
/-- X10_put -/
def zp172 : List (Nat × zRow) := [
  (0, .aload_n 0, 1, 0, 0, 0),
  (1, .iconst 0, 1, 0, 0, 0),
  (2, .putfield 47, 3, 10, 0, 780),
  (5, .iconst 0, 1, 0, 0, 0),
  (6, .istore_n 3, 1, 0, 0, 0),
  (7, .lload_n 1, 1, 0, 0, 0),
  (8, .lstore 4, 2, 0, 0, 0),
  (10, .iconst 1, 1, 0, 0, 0),
  (11, .istore 6, 2, 0, 0, 0),
  (13, .iload_n 3, 1, 0, 0, 0),
  (14, .bipush 8, 2, 0, 0, 0),
  (16, .if_icmp .ge 56, 3, 0, 0, 0),
  (19, .lload 4, 2, 0, 0, 0),
  (21, .ldc2_w 188, 3, 255, 0, 1092),
  (24, .land, 1, 0, 0, 0),
  (25, .lconst 0, 1, 0, 0, 0),
  (26, .lcmp, 1, 0, 0, 0),
  (27, .ifCond .eq 45, 3, 0, 0, 0),
  (30, .iload 6, 2, 0, 0, 0),
  (32, .ifCond .eq 24, 3, 0, 0, 0),
  (35, .lload 4, 2, 0, 0, 0),
  (37, .ldc2_w 188, 3, 255, 0, 1092),
  (40, .land, 1, 0, 0, 0),
  (41, .l2i, 1, 0, 0, 0),
  (42, .bipush 33, 2, 0, 0, 0),
  (44, .bipush 126, 2, 0, 0, 0),
  (46, .invokestatic 51, 3, 116, 0, 842),
  (49, .ifCond .eq 7, 3, 0, 0, 0),
  (52, .iconst 1, 1, 0, 0, 0),
  (53, .goto 4, 3, 0, 0, 0),
  (56, .iconst 0, 1, 0, 0, 0),
  (57, .istore 6, 2, 0, 0, 0),
  (59, .lload 4, 2, 0, 0, 0),
  (61, .bipush 8, 2, 0, 0, 0),
  (63, .lushr, 1, 0, 0, 0),
  (64, .lstore 4, 2, 0, 0, 0),
  (66, .iinc 3 1, 3, 0, 0, 0),
  (69, .goto (-56), 3, 0, 0, 0),
  (72, .iload_n 3, 1, 0, 0, 0),
  (73, .ifCond .eq 15, 3, 0, 0, 0),
  (76, .iload 6, 2, 0, 0, 0),
  (78, .ifCond .eq 10, 3, 0, 0, 0),
  (81, .lload 4, 2, 0, 0, 0),
  (83, .lconst 0, 1, 0, 0, 0),
  (84, .lcmp, 1, 0, 0, 0),
  (85, .ifCond .eq 6, 3, 0, 0, 0),
  (88, .bipush (-2), 2, 0, 0, 0),
  (90, .ireturn, 1, 0, 0, 0),
  (91, .aload_n 0, 1, 0, 0, 0),
  (92, .getfield 91, 3, 10, 8, 788),
  (95, .iload_n 3, 1, 0, 0, 0),
  (96, .iadd, 1, 0, 0, 0),
  (97, .bipush 60, 2, 0, 0, 0),
  (99, .if_icmp .le 6, 3, 0, 0, 0),
  (102, .bipush (-4), 2, 0, 0, 0),
  (104, .ireturn, 1, 0, 0, 0),
  (105, .iconst 0, 1, 0, 0, 0),
  (106, .istore 7, 2, 0, 0, 0),
  (108, .iload 7, 2, 0, 0, 0),
  (110, .iload_n 3, 1, 0, 0, 0),
  (111, .if_icmp .ge 37, 3, 0, 0, 0),
  (114, .aload_n 0, 1, 0, 0, 0),
  (115, .getfield 26, 3, 10, 7, 787),
  (118, .aload_n 0, 1, 0, 0, 0),
  (119, .getfield 91, 3, 10, 8, 788),
  (122, .iload 7, 2, 0, 0, 0),
  (124, .iadd, 1, 0, 0, 0),
  (125, .lload_n 1, 1, 0, 0, 0),
  (126, .bipush 8, 2, 0, 0, 0),
  (128, .iload_n 3, 1, 0, 0, 0),
  (129, .iconst 1, 1, 0, 0, 0),
  (130, .isub, 1, 0, 0, 0),
  (131, .iload 7, 2, 0, 0, 0),
  (133, .isub, 1, 0, 0, 0),
  (134, .imul, 1, 0, 0, 0),
  (135, .lushr, 1, 0, 0, 0),
  (136, .ldc2_w 188, 3, 255, 0, 1092),
  (139, .land, 1, 0, 0, 0),
  (140, .l2i, 1, 0, 0, 0),
  (141, .iastore, 1, 0, 0, 0),
  (142, .iinc 7 1, 3, 0, 0, 0),
  (145, .goto (-37), 3, 0, 0, 0),
  (148, .aload_n 0, 1, 0, 0, 0),
  (149, .dup, 1, 0, 0, 0),
  (150, .getfield 91, 3, 10, 8, 788),
  (153, .iload_n 3, 1, 0, 0, 0),
  (154, .iadd, 1, 0, 0, 0),
  (155, .putfield 91, 3, 10, 8, 788),
  (158, .aload_n 0, 1, 0, 0, 0),
  (159, .getfield 91, 3, 10, 8, 788),
  (162, .ireturn, 1, 0, 0, 0)
  ]
/-- X10_wipe -/
def zp173 : List (Nat × zRow) := [
  (0, .aload_n 0, 1, 0, 0, 0),
  (1, .iconst 0, 1, 0, 0, 0),
  (2, .putfield 47, 3, 10, 0, 780),
  (5, .aload_n 0, 1, 0, 0, 0),
  (6, .getfield 91, 3, 10, 8, 788),
  (9, .istore_n 1, 1, 0, 0, 0),
  (10, .aload_n 0, 1, 0, 0, 0),
  (11, .iconst 0, 1, 0, 0, 0),
  (12, .putfield 91, 3, 10, 8, 788),
  (15, .iload_n 1, 1, 0, 0, 0),
  (16, .ireturn, 1, 0, 0, 0)
  ]
/-- X10_sign -/
def zp174 : List (Nat × zRow) := [
  (0, .aload_n 0, 1, 0, 0, 0),
  (1, .getfield 190, 3, 10, 15, 795),
  (4, .aload_n 0, 1, 0, 0, 0),
  (5, .getfield 91, 3, 10, 8, 788),
  (8, .if_icmp .ge 15, 3, 0, 0, 0),
  (11, .aload_n 0, 1, 0, 0, 0),
  (12, .getfield 26, 3, 10, 7, 787),
  (15, .aload_n 0, 1, 0, 0, 0),
  (16, .getfield 190, 3, 10, 15, 795),
  (19, .iaload, 1, 0, 0, 0),
  (20, .goto 4, 3, 0, 0, 0),
  (23, .iconst 0, 1, 0, 0, 0),
  (24, .ireturn, 1, 0, 0, 0)
  ]
/-- X10_wants -/
def zp175 : List (Nat × zRow) := [
  (0, .aload_n 0, 1, 0, 0, 0),
  (1, .aload_n 0, 1, 0, 0, 0),
  (2, .getfield 193, 3, 10, 16, 796),
  (5, .ifCond .eq 15, 3, 0, 0, 0),
  (8, .aload_n 0, 1, 0, 0, 0),
  (9, .invokevirtual 197, 3, 174, 0, 872),
  (12, .iload_n 1, 1, 0, 0, 0),
  (13, .if_icmp .ne 7, 3, 0, 0, 0),
  (16, .iconst 1, 1, 0, 0, 0),
  (17, .goto 4, 3, 0, 0, 0),
  (20, .iconst 0, 1, 0, 0, 0),
  (21, .putfield 193, 3, 10, 16, 796),
  (24, .aload_n 0, 1, 0, 0, 0),
  (25, .dup, 1, 0, 0, 0),
  (26, .getfield 190, 3, 10, 15, 795),
  (29, .aload_n 0, 1, 0, 0, 0),
  (30, .getfield 193, 3, 10, 16, 796),
  (33, .ifCond .eq 7, 3, 0, 0, 0),
  (36, .iconst 1, 1, 0, 0, 0),
  (37, .goto 4, 3, 0, 0, 0),
  (40, .iconst 0, 1, 0, 0, 0),
  (41, .iadd, 1, 0, 0, 0),
  (42, .putfield 190, 3, 10, 15, 795),
  (45, .return_, 1, 0, 0, 0)
  ]
/-- X10_digit -/
def zp176 : List (Nat × zRow) := [
  (0, .aload_n 0, 1, 0, 0, 0),
  (1, .aload_n 0, 1, 0, 0, 0),
  (2, .getfield 193, 3, 10, 16, 796),
  (5, .ifCond .eq 23, 3, 0, 0, 0),
  (8, .aload_n 0, 1, 0, 0, 0),
  (9, .invokevirtual 197, 3, 174, 0, 872),
  (12, .bipush 48, 2, 0, 0, 0),
  (14, .bipush 48, 2, 0, 0, 0),
  (16, .iload_n 1, 1, 0, 0, 0),
  (17, .iadd, 1, 0, 0, 0),
  (18, .invokestatic 51, 3, 116, 0, 842),
  (21, .ifCond .eq 7, 3, 0, 0, 0),
  (24, .iconst 1, 1, 0, 0, 0),
  (25, .goto 4, 3, 0, 0, 0),
  (28, .iconst 0, 1, 0, 0, 0),
  (29, .putfield 193, 3, 10, 16, 796),
  (32, .aload_n 0, 1, 0, 0, 0),
  (33, .invokevirtual 197, 3, 174, 0, 872),
  (36, .bipush 48, 2, 0, 0, 0),
  (38, .isub, 1, 0, 0, 0),
  (39, .istore_n 2, 1, 0, 0, 0),
  (40, .aload_n 0, 1, 0, 0, 0),
  (41, .dup, 1, 0, 0, 0),
  (42, .getfield 190, 3, 10, 15, 795),
  (45, .aload_n 0, 1, 0, 0, 0),
  (46, .getfield 193, 3, 10, 16, 796),
  (49, .ifCond .eq 7, 3, 0, 0, 0),
  (52, .iconst 1, 1, 0, 0, 0),
  (53, .goto 4, 3, 0, 0, 0),
  (56, .iconst 0, 1, 0, 0, 0),
  (57, .iadd, 1, 0, 0, 0),
  (58, .putfield 190, 3, 10, 15, 795),
  (61, .iload_n 2, 1, 0, 0, 0),
  (62, .ireturn, 1, 0, 0, 0)
  ]
/-- X10_gap -/
def zp177 : List (Nat × zRow) := [
  (0, .aload_n 0, 1, 0, 0, 0),
  (1, .bipush 9, 2, 0, 0, 0),
  (3, .invokevirtual 200, 3, 176, 0, 868),
  (6, .istore_n 1, 1, 0, 0, 0),
  (7, .aload_n 0, 1, 0, 0, 0),
  (8, .getfield 193, 3, 10, 16, 796),
  (11, .ifCond .eq 61, 3, 0, 0, 0),
  (14, .iload_n 1, 1, 0, 0, 0),
  (15, .ifCond .le 57, 3, 0, 0, 0),
  (18, .aload_n 0, 1, 0, 0, 0),
  (19, .invokevirtual 197, 3, 174, 0, 872),
  (22, .bipush 48, 2, 0, 0, 0),
  (24, .bipush 57, 2, 0, 0, 0),
  (26, .invokestatic 51, 3, 116, 0, 842),
  (29, .ifCond .eq 43, 3, 0, 0, 0),
  (32, .bipush 10, 2, 0, 0, 0),
  (34, .iload_n 1, 1, 0, 0, 0),
  (35, .imul, 1, 0, 0, 0),
  (36, .aload_n 0, 1, 0, 0, 0),
  (37, .invokevirtual 197, 3, 174, 0, 872),
  (40, .iadd, 1, 0, 0, 0),
  (41, .bipush 48, 2, 0, 0, 0),
  (43, .isub, 1, 0, 0, 0),
  (44, .bipush 60, 2, 0, 0, 0),
  (46, .if_icmp .gt 26, 3, 0, 0, 0),
  (49, .bipush 10, 2, 0, 0, 0),
  (51, .iload_n 1, 1, 0, 0, 0),
  (52, .imul, 1, 0, 0, 0),
  (53, .aload_n 0, 1, 0, 0, 0),
  (54, .invokevirtual 197, 3, 174, 0, 872),
  (57, .iadd, 1, 0, 0, 0),
  (58, .bipush 48, 2, 0, 0, 0),
  (60, .isub, 1, 0, 0, 0),
  (61, .istore_n 1, 1, 0, 0, 0),
  (62, .aload_n 0, 1, 0, 0, 0),
  (63, .dup, 1, 0, 0, 0),
  (64, .getfield 190, 3, 10, 15, 795),
  (67, .iconst 1, 1, 0, 0, 0),
  (68, .iadd, 1, 0, 0, 0),
  (69, .putfield 190, 3, 10, 15, 795),
  (72, .iload_n 1, 1, 0, 0, 0),
  (73, .ireturn, 1, 0, 0, 0)
  ]
/-- X10_letters -/
def zp178 : List (Nat × zRow) := [
  (0, .iconst 0, 1, 0, 0, 0),
  (1, .istore_n 2, 1, 0, 0, 0),
  (2, .aload_n 0, 1, 0, 0, 0),
  (3, .getfield 193, 3, 10, 16, 796),
  (6, .ifCond .eq 57, 3, 0, 0, 0),
  (9, .iload_n 2, 1, 0, 0, 0),
  (10, .bipush 6, 2, 0, 0, 0),
  (12, .if_icmp .ge 51, 3, 0, 0, 0),
  (15, .aload_n 0, 1, 0, 0, 0),
  (16, .invokevirtual 197, 3, 174, 0, 872),
  (19, .bipush 97, 2, 0, 0, 0),
  (21, .bipush 122, 2, 0, 0, 0),
  (23, .invokestatic 51, 3, 116, 0, 842),
  (26, .ifCond .eq 37, 3, 0, 0, 0),
  (29, .aload_n 0, 1, 0, 0, 0),
  (30, .getfield 44, 3, 10, 17, 797),
  (33, .iload_n 1, 1, 0, 0, 0),
  (34, .bipush 6, 2, 0, 0, 0),
  (36, .iadd, 1, 0, 0, 0),
  (37, .iload_n 2, 1, 0, 0, 0),
  (38, .iadd, 1, 0, 0, 0),
  (39, .aload_n 0, 1, 0, 0, 0),
  (40, .invokevirtual 197, 3, 174, 0, 872),
  (43, .bipush 97, 2, 0, 0, 0),
  (45, .isub, 1, 0, 0, 0),
  (46, .iastore, 1, 0, 0, 0),
  (47, .iinc 2 1, 3, 0, 0, 0),
  (50, .aload_n 0, 1, 0, 0, 0),
  (51, .dup, 1, 0, 0, 0),
  (52, .getfield 190, 3, 10, 15, 795),
  (55, .iconst 1, 1, 0, 0, 0),
  (56, .iadd, 1, 0, 0, 0),
  (57, .putfield 190, 3, 10, 15, 795),
  (60, .goto (-58), 3, 0, 0, 0),
  (63, .aload_n 0, 1, 0, 0, 0),
  (64, .aload_n 0, 1, 0, 0, 0),
  (65, .getfield 193, 3, 10, 16, 796),
  (68, .ifCond .eq 11, 3, 0, 0, 0),
  (71, .iload_n 2, 1, 0, 0, 0),
  (72, .ifCond .le 7, 3, 0, 0, 0),
  (75, .iconst 1, 1, 0, 0, 0),
  (76, .goto 4, 3, 0, 0, 0),
  (79, .iconst 0, 1, 0, 0, 0),
  (80, .putfield 193, 3, 10, 16, 796),
  (83, .iload_n 2, 1, 0, 0, 0),
  (84, .ireturn, 1, 0, 0, 0)
  ]
/-- X10_readsMark -/
def zp179 : List (Nat × zRow) := [
  (0, .bipush 12, 2, 0, 0, 0),
  (2, .aload_n 0, 1, 0, 0, 0),
  (3, .getfield 114, 3, 10, 18, 798),
  (6, .imul, 1, 0, 0, 0),
  (7, .istore_n 1, 1, 0, 0, 0),
  (8, .iconst 0, 1, 0, 0, 0),
  (9, .istore_n 2, 1, 0, 0, 0),
  (10, .iload_n 2, 1, 0, 0, 0),
  (11, .bipush 12, 2, 0, 0, 0),
  (13, .if_icmp .ge 18, 3, 0, 0, 0),
  (16, .aload_n 0, 1, 0, 0, 0),
  (17, .getfield 44, 3, 10, 17, 797),
  (20, .iload_n 1, 1, 0, 0, 0),
  (21, .iload_n 2, 1, 0, 0, 0),
  (22, .iadd, 1, 0, 0, 0),
  (23, .iconst 0, 1, 0, 0, 0),
  (24, .iastore, 1, 0, 0, 0),
  (25, .iinc 2 1, 3, 0, 0, 0),
  (28, .goto (-18), 3, 0, 0, 0),
  (31, .aload_n 0, 1, 0, 0, 0),
  (32, .getfield 44, 3, 10, 17, 797),
  (35, .iload_n 1, 1, 0, 0, 0),
  (36, .iconst 0, 1, 0, 0, 0),
  (37, .iadd, 1, 0, 0, 0),
  (38, .aload_n 0, 1, 0, 0, 0),
  (39, .iconst 4, 1, 0, 0, 0),
  (40, .invokevirtual 200, 3, 176, 0, 868),
  (43, .iastore, 1, 0, 0, 0),
  (44, .aload_n 0, 1, 0, 0, 0),
  (45, .invokevirtual 197, 3, 174, 0, 872),
  (48, .istore_n 2, 1, 0, 0, 0),
  (49, .aload_n 0, 1, 0, 0, 0),
  (50, .aload_n 0, 1, 0, 0, 0),
  (51, .getfield 193, 3, 10, 16, 796),
  (54, .ifCond .eq 25, 3, 0, 0, 0),
  (57, .iload_n 2, 1, 0, 0, 0),
  (58, .bipush 45, 2, 0, 0, 0),
  (60, .if_icmp .eq 15, 3, 0, 0, 0),
  (63, .iload_n 2, 1, 0, 0, 0),
  (64, .bipush 43, 2, 0, 0, 0),
  (66, .if_icmp .eq 9, 3, 0, 0, 0),
  (69, .iload_n 2, 1, 0, 0, 0),
  (70, .bipush 61, 2, 0, 0, 0),
  (72, .if_icmp .ne 7, 3, 0, 0, 0),
  (75, .iconst 1, 1, 0, 0, 0),
  (76, .goto 4, 3, 0, 0, 0),
  (79, .iconst 0, 1, 0, 0, 0),
  (80, .putfield 193, 3, 10, 16, 796),
  (83, .aload_n 0, 1, 0, 0, 0),
  (84, .dup, 1, 0, 0, 0),
  (85, .getfield 190, 3, 10, 15, 795),
  (88, .aload_n 0, 1, 0, 0, 0),
  (89, .getfield 193, 3, 10, 16, 796),
  (92, .ifCond .eq 7, 3, 0, 0, 0),
  (95, .iconst 1, 1, 0, 0, 0),
  (96, .goto 4, 3, 0, 0, 0),
  (99, .iconst 0, 1, 0, 0, 0),
  (100, .iadd, 1, 0, 0, 0),
  (101, .putfield 190, 3, 10, 15, 795),
  (104, .aload_n 0, 1, 0, 0, 0),
  (105, .getfield 44, 3, 10, 17, 797),
  (108, .iload_n 1, 1, 0, 0, 0),
  (109, .iconst 1, 1, 0, 0, 0),
  (110, .iadd, 1, 0, 0, 0),
  (111, .iload_n 2, 1, 0, 0, 0),
  (112, .bipush 45, 2, 0, 0, 0),
  (114, .if_icmp .ne 7, 3, 0, 0, 0),
  (117, .iconst 0, 1, 0, 0, 0),
  (118, .goto 14, 3, 0, 0, 0),
  (121, .iload_n 2, 1, 0, 0, 0),
  (122, .bipush 43, 2, 0, 0, 0),
  (124, .if_icmp .ne 7, 3, 0, 0, 0),
  (127, .iconst 1, 1, 0, 0, 0),
  (128, .goto 4, 3, 0, 0, 0),
  (131, .iconst 2, 1, 0, 0, 0),
  (132, .iastore, 1, 0, 0, 0),
  (133, .aload_n 0, 1, 0, 0, 0),
  (134, .getfield 44, 3, 10, 17, 797),
  (137, .iload_n 1, 1, 0, 0, 0),
  (138, .iconst 2, 1, 0, 0, 0),
  (139, .iadd, 1, 0, 0, 0),
  (140, .aload_n 0, 1, 0, 0, 0),
  (141, .invokevirtual 203, 3, 177, 0, 876),
  (144, .iastore, 1, 0, 0, 0),
  (145, .iload_n 2, 1, 0, 0, 0),
  (146, .bipush 43, 2, 0, 0, 0),
  (148, .if_icmp .ne 22, 3, 0, 0, 0),
  (151, .aload_n 0, 1, 0, 0, 0),
  (152, .getfield 44, 3, 10, 17, 797),
  (155, .iload_n 1, 1, 0, 0, 0),
  (156, .iconst 3, 1, 0, 0, 0),
  (157, .iadd, 1, 0, 0, 0),
  (158, .aload_n 0, 1, 0, 0, 0),
  (159, .getfield 44, 3, 10, 17, 797),
  (162, .iload_n 1, 1, 0, 0, 0),
  (163, .iconst 2, 1, 0, 0, 0),
  (164, .iadd, 1, 0, 0, 0),
  (165, .iaload, 1, 0, 0, 0),
  (166, .iastore, 1, 0, 0, 0),
  (167, .goto 21, 3, 0, 0, 0),
  (170, .aload_n 0, 1, 0, 0, 0),
  (171, .bipush 58, 2, 0, 0, 0),
  (173, .invokevirtual 206, 3, 175, 0, 880),
  (176, .aload_n 0, 1, 0, 0, 0),
  (177, .getfield 44, 3, 10, 17, 797),
  (180, .iload_n 1, 1, 0, 0, 0),
  (181, .iconst 3, 1, 0, 0, 0),
  (182, .iadd, 1, 0, 0, 0),
  (183, .aload_n 0, 1, 0, 0, 0),
  (184, .invokevirtual 203, 3, 177, 0, 876),
  (187, .iastore, 1, 0, 0, 0),
  (188, .aload_n 0, 1, 0, 0, 0),
  (189, .getfield 44, 3, 10, 17, 797),
  (192, .iload_n 1, 1, 0, 0, 0),
  (193, .iconst 4, 1, 0, 0, 0),
  (194, .iadd, 1, 0, 0, 0),
  (195, .iload_n 2, 1, 0, 0, 0),
  (196, .bipush 45, 2, 0, 0, 0),
  (198, .if_icmp .ne 7, 3, 0, 0, 0),
  (201, .iconst 0, 1, 0, 0, 0),
  (202, .goto 8, 3, 0, 0, 0),
  (205, .aload_n 0, 1, 0, 0, 0),
  (206, .iload_n 1, 1, 0, 0, 0),
  (207, .invokevirtual 209, 3, 178, 0, 884),
  (210, .iastore, 1, 0, 0, 0),
  (211, .aload_n 0, 1, 0, 0, 0),
  (212, .dup, 1, 0, 0, 0),
  (213, .getfield 114, 3, 10, 18, 798),
  (216, .aload_n 0, 1, 0, 0, 0),
  (217, .getfield 193, 3, 10, 16, 796),
  (220, .ifCond .eq 7, 3, 0, 0, 0),
  (223, .iconst 1, 1, 0, 0, 0),
  (224, .goto 4, 3, 0, 0, 0),
  (227, .iconst 0, 1, 0, 0, 0),
  (228, .iadd, 1, 0, 0, 0),
  (229, .putfield 114, 3, 10, 18, 798),
  (232, .return_, 1, 0, 0, 0)
  ]
/-- X10_reads -/
def zp180 : List (Nat × zRow) := [
  (0, .aload_n 0, 1, 0, 0, 0),
  (1, .iconst 0, 1, 0, 0, 0),
  (2, .putfield 190, 3, 10, 15, 795),
  (5, .aload_n 0, 1, 0, 0, 0),
  (6, .iconst 1, 1, 0, 0, 0),
  (7, .putfield 193, 3, 10, 16, 796),
  (10, .aload_n 0, 1, 0, 0, 0),
  (11, .iconst 0, 1, 0, 0, 0),
  (12, .putfield 114, 3, 10, 18, 798),
  (15, .aload_n 0, 1, 0, 0, 0),
  (16, .invokevirtual 212, 3, 179, 0, 864),
  (19, .aload_n 0, 1, 0, 0, 0),
  (20, .getfield 193, 3, 10, 16, 796),
  (23, .ifCond .eq 34, 3, 0, 0, 0),
  (26, .aload_n 0, 1, 0, 0, 0),
  (27, .getfield 190, 3, 10, 15, 795),
  (30, .aload_n 0, 1, 0, 0, 0),
  (31, .getfield 91, 3, 10, 8, 788),
  (34, .if_icmp .ge 23, 3, 0, 0, 0),
  (37, .aload_n 0, 1, 0, 0, 0),
  (38, .bipush 44, 2, 0, 0, 0),
  (40, .invokevirtual 206, 3, 175, 0, 880),
  (43, .aload_n 0, 1, 0, 0, 0),
  (44, .getfield 193, 3, 10, 16, 796),
  (47, .ifCond .eq (-28), 3, 0, 0, 0),
  (50, .aload_n 0, 1, 0, 0, 0),
  (51, .invokevirtual 212, 3, 179, 0, 864),
  (54, .goto (-35), 3, 0, 0, 0),
  (57, .aload_n 0, 1, 0, 0, 0),
  (58, .getfield 193, 3, 10, 16, 796),
  (61, .ifCond .eq 8, 3, 0, 0, 0),
  (64, .bipush (-6), 2, 0, 0, 0),
  (66, .goto 7, 3, 0, 0, 0),
  (69, .aload_n 0, 1, 0, 0, 0),
  (70, .getfield 190, 3, 10, 15, 795),
  (73, .ireturn, 1, 0, 0, 0)
  ]
/-- X10_fault -/
def zp181 : List (Nat × zRow) := [
  (0, .aload_n 0, 1, 0, 0, 0),
  (1, .iconst 0, 1, 0, 0, 0),
  (2, .putfield 47, 3, 10, 0, 780),
  (5, .aload_n 0, 1, 0, 0, 0),
  (6, .invokevirtual 110, 3, 180, 0, 860),
  (9, .ireturn, 1, 0, 0, 0)
  ]
/-- X10_undo -/
def zp182 : List (Nat × zRow) := [
  (0, .aload_n 0, 1, 0, 0, 0),
  (1, .iconst 0, 1, 0, 0, 0),
  (2, .putfield 47, 3, 10, 0, 780),
  (5, .aload_n 0, 1, 0, 0, 0),
  (6, .getfield 55, 3, 10, 4, 784),
  (9, .ifCond .ne 6, 3, 0, 0, 0),
  (12, .bipush (-5), 2, 0, 0, 0),
  (14, .ireturn, 1, 0, 0, 0),
  (15, .aload_n 0, 1, 0, 0, 0),
  (16, .dup, 1, 0, 0, 0),
  (17, .getfield 55, 3, 10, 4, 784),
  (20, .iconst 1, 1, 0, 0, 0),
  (21, .isub, 1, 0, 0, 0),
  (22, .putfield 55, 3, 10, 4, 784),
  (25, .iconst 0, 1, 0, 0, 0),
  (26, .istore_n 1, 1, 0, 0, 0),
  (27, .iload_n 1, 1, 0, 0, 0),
  (28, .sipush 675, 3, 0, 0, 0),
  (31, .if_icmp .ge 30, 3, 0, 0, 0),
  (34, .aload_n 0, 1, 0, 0, 0),
  (35, .getfield 7, 3, 10, 1, 781),
  (38, .iload_n 1, 1, 0, 0, 0),
  (39, .aload_n 0, 1, 0, 0, 0),
  (40, .getfield 16, 3, 10, 3, 783),
  (43, .sipush 675, 3, 0, 0, 0),
  (46, .aload_n 0, 1, 0, 0, 0),
  (47, .getfield 55, 3, 10, 4, 784),
  (50, .imul, 1, 0, 0, 0),
  (51, .iload_n 1, 1, 0, 0, 0),
  (52, .iadd, 1, 0, 0, 0),
  (53, .iaload, 1, 0, 0, 0),
  (54, .iastore, 1, 0, 0, 0),
  (55, .iinc 1 1, 3, 0, 0, 0),
  (58, .goto (-31), 3, 0, 0, 0),
  (61, .aload_n 0, 1, 0, 0, 0),
  (62, .getfield 55, 3, 10, 4, 784),
  (65, .ireturn, 1, 0, 0, 0)
  ]
/-- X10_save -/
def zp183 : List (Nat × zRow) := [
  (0, .aload_n 0, 1, 0, 0, 0),
  (1, .iconst 0, 1, 0, 0, 0),
  (2, .putfield 47, 3, 10, 0, 780),
  (5, .iload_n 1, 1, 0, 0, 0),
  (6, .iconst 0, 1, 0, 0, 0),
  (7, .iconst 1, 1, 0, 0, 0),
  (8, .invokestatic 51, 3, 116, 0, 842),
  (11, .ifCond .ne 6, 3, 0, 0, 0),
  (14, .bipush (-2), 2, 0, 0, 0),
  (16, .ireturn, 1, 0, 0, 0),
  (17, .iconst 0, 1, 0, 0, 0),
  (18, .istore_n 2, 1, 0, 0, 0),
  (19, .iload_n 2, 1, 0, 0, 0),
  (20, .sipush 675, 3, 0, 0, 0),
  (23, .if_icmp .ge 27, 3, 0, 0, 0),
  (26, .aload_n 0, 1, 0, 0, 0),
  (27, .getfield 19, 3, 10, 5, 785),
  (30, .sipush 675, 3, 0, 0, 0),
  (33, .iload_n 1, 1, 0, 0, 0),
  (34, .imul, 1, 0, 0, 0),
  (35, .iload_n 2, 1, 0, 0, 0),
  (36, .iadd, 1, 0, 0, 0),
  (37, .aload_n 0, 1, 0, 0, 0),
  (38, .getfield 7, 3, 10, 1, 781),
  (41, .iload_n 2, 1, 0, 0, 0),
  (42, .iaload, 1, 0, 0, 0),
  (43, .iastore, 1, 0, 0, 0),
  (44, .iinc 2 1, 3, 0, 0, 0),
  (47, .goto (-28), 3, 0, 0, 0),
  (50, .aload_n 0, 1, 0, 0, 0),
  (51, .getfield 22, 3, 10, 6, 786),
  (54, .iload_n 1, 1, 0, 0, 0),
  (55, .iconst 1, 1, 0, 0, 0),
  (56, .bastore, 1, 0, 0, 0),
  (57, .aload_n 0, 1, 0, 0, 0),
  (58, .getfield 7, 3, 10, 1, 781),
  (61, .bipush 66, 2, 0, 0, 0),
  (63, .iaload, 1, 0, 0, 0),
  (64, .ireturn, 1, 0, 0, 0)
  ]
/-- X10_restore -/
def zp184 : List (Nat × zRow) := [
  (0, .aload_n 0, 1, 0, 0, 0),
  (1, .iconst 0, 1, 0, 0, 0),
  (2, .putfield 47, 3, 10, 0, 780),
  (5, .iload_n 1, 1, 0, 0, 0),
  (6, .iconst 0, 1, 0, 0, 0),
  (7, .iconst 1, 1, 0, 0, 0),
  (8, .invokestatic 51, 3, 116, 0, 842),
  (11, .ifCond .ne 6, 3, 0, 0, 0),
  (14, .bipush (-2), 2, 0, 0, 0),
  (16, .ireturn, 1, 0, 0, 0),
  (17, .aload_n 0, 1, 0, 0, 0),
  (18, .getfield 22, 3, 10, 6, 786),
  (21, .iload_n 1, 1, 0, 0, 0),
  (22, .baload, 1, 0, 0, 0),
  (23, .ifCond .ne 6, 3, 0, 0, 0),
  (26, .bipush (-5), 2, 0, 0, 0),
  (28, .ireturn, 1, 0, 0, 0),
  (29, .aload_n 0, 1, 0, 0, 0),
  (30, .invokevirtual 94, 3, 121, 0, 845),
  (33, .iconst 0, 1, 0, 0, 0),
  (34, .istore_n 2, 1, 0, 0, 0),
  (35, .iload_n 2, 1, 0, 0, 0),
  (36, .sipush 675, 3, 0, 0, 0),
  (39, .if_icmp .ge 27, 3, 0, 0, 0),
  (42, .aload_n 0, 1, 0, 0, 0),
  (43, .getfield 7, 3, 10, 1, 781),
  (46, .iload_n 2, 1, 0, 0, 0),
  (47, .aload_n 0, 1, 0, 0, 0),
  (48, .getfield 19, 3, 10, 5, 785),
  (51, .sipush 675, 3, 0, 0, 0),
  (54, .iload_n 1, 1, 0, 0, 0),
  (55, .imul, 1, 0, 0, 0),
  (56, .iload_n 2, 1, 0, 0, 0),
  (57, .iadd, 1, 0, 0, 0),
  (58, .iaload, 1, 0, 0, 0),
  (59, .iastore, 1, 0, 0, 0),
  (60, .iinc 2 1, 3, 0, 0, 0),
  (63, .goto (-28), 3, 0, 0, 0),
  (66, .aload_n 0, 1, 0, 0, 0),
  (67, .getfield 7, 3, 10, 1, 781),
  (70, .bipush 66, 2, 0, 0, 0),
  (72, .iaload, 1, 0, 0, 0),
  (73, .ireturn, 1, 0, 0, 0)
  ]
/-- J9_floorMod_7cf53 -/
def zp185 : List (Nat × zRow) := [
  (0, .iload_n 0, 1, 0, 0, 0),
  (1, .iload_n 1, 1, 0, 0, 0),
  (2, .irem, 1, 0, 0, 0),
  (3, .istore_n 2, 1, 0, 0, 0),
  (4, .iload_n 0, 1, 0, 0, 0),
  (5, .iload_n 1, 1, 0, 0, 0),
  (6, .ixor, 1, 0, 0, 0),
  (7, .ifCond .ge 11, 3, 0, 0, 0),
  (10, .iload_n 2, 1, 0, 0, 0),
  (11, .ifCond .eq 7, 3, 0, 0, 0),
  (14, .iload_n 2, 1, 0, 0, 0),
  (15, .iload_n 1, 1, 0, 0, 0),
  (16, .iadd, 1, 0, 0, 0),
  (17, .ireturn, 1, 0, 0, 0),
  (18, .iload_n 2, 1, 0, 0, 0),
  (19, .ireturn, 1, 0, 0, 0)
  ]
/-- J9_min_7cf53 -/
def zp186 : List (Nat × zRow) := [
  (0, .iload_n 0, 1, 0, 0, 0),
  (1, .iload_n 1, 1, 0, 0, 0),
  (2, .if_icmp .gt 7, 3, 0, 0, 0),
  (5, .iload_n 0, 1, 0, 0, 0),
  (6, .goto 4, 3, 0, 0, 0),
  (9, .iload_n 1, 1, 0, 0, 0),
  (10, .ireturn, 1, 0, 0, 0)
  ]
/-- L_law -/
def zp187 : List (Nat × zRow) := [
  (0, .new 7, 3, 9, 0, 76),
  (3, .dup, 1, 0, 0, 0),
  (4, .invokespecial 9, 3, 87, 0, 78),
  (7, .astore_n 1, 1, 0, 0, 0),
  (8, .new 10, 3, 10, 0, 774),
  (11, .dup, 1, 0, 0, 0),
  (12, .invokespecial 12, 3, 115, 0, 776),
  (15, .astore_n 2, 1, 0, 0, 0),
  (16, .iconst 0, 1, 0, 0, 0),
  (17, .istore_n 3, 1, 0, 0, 0),
  (18, .iload_n 3, 1, 0, 0, 0),
  (19, .aload_n 0, 1, 0, 0, 0),
  (20, .arraylength, 1, 0, 0, 0),
  (21, .iconst 4, 1, 0, 0, 0),
  (22, .isub, 1, 0, 0, 0),
  (23, .if_icmp .gt 776, 3, 0, 0, 0),
  (26, .aload_n 0, 1, 0, 0, 0),
  (27, .iload_n 3, 1, 0, 0, 0),
  (28, .iaload, 1, 0, 0, 0),
  (29, .bipush 31, 2, 0, 0, 0),
  (31, .iand, 1, 0, 0, 0),
  (32, .tableswitch 761 0 24 #[116, 129, 162, 175, 218, 241, 264, 287, 300, 313, 346, 379, 412, 445, 478, 501, 534, 567, 600, 623, 676, 689, 702, 715, 738], 116, 0, 0, 0),
  (148, .aload_n 1, 1, 0, 0, 0),
  (149, .invokevirtual 13, 3, 88, 0, 317),
  (152, .aload_n 2, 1, 0, 0, 0),
  (153, .invokevirtual 17, 3, 136, 0, 838),
  (156, .if_icmp .eq 637, 3, 0, 0, 0),
  (159, .iconst 0, 1, 0, 0, 0),
  (160, .ireturn, 1, 0, 0, 0),
  (161, .aload_n 1, 1, 0, 0, 0),
  (162, .aload_n 0, 1, 0, 0, 0),
  (163, .iload_n 3, 1, 0, 0, 0),
  (164, .iconst 1, 1, 0, 0, 0),
  (165, .iadd, 1, 0, 0, 0),
  (166, .iaload, 1, 0, 0, 0),
  (167, .aload_n 0, 1, 0, 0, 0),
  (168, .iload_n 3, 1, 0, 0, 0),
  (169, .iconst 2, 1, 0, 0, 0),
  (170, .iadd, 1, 0, 0, 0),
  (171, .iaload, 1, 0, 0, 0),
  (172, .invokevirtual 18, 3, 89, 0, 387),
  (175, .aload_n 2, 1, 0, 0, 0),
  (176, .aload_n 0, 1, 0, 0, 0),
  (177, .iload_n 3, 1, 0, 0, 0),
  (178, .iconst 1, 1, 0, 0, 0),
  (179, .iadd, 1, 0, 0, 0),
  (180, .iaload, 1, 0, 0, 0),
  (181, .aload_n 0, 1, 0, 0, 0),
  (182, .iload_n 3, 1, 0, 0, 0),
  (183, .iconst 2, 1, 0, 0, 0),
  (184, .iadd, 1, 0, 0, 0),
  (185, .iaload, 1, 0, 0, 0),
  (186, .invokevirtual 22, 3, 137, 0, 849),
  (189, .if_icmp .eq 604, 3, 0, 0, 0),
  (192, .iconst 0, 1, 0, 0, 0),
  (193, .ireturn, 1, 0, 0, 0),
  (194, .aload_n 1, 1, 0, 0, 0),
  (195, .invokevirtual 23, 3, 90, 0, 394),
  (198, .aload_n 2, 1, 0, 0, 0),
  (199, .invokevirtual 26, 3, 142, 0, 856),
  (202, .if_icmp .eq 591, 3, 0, 0, 0),
  (205, .iconst 0, 1, 0, 0, 0),
  (206, .ireturn, 1, 0, 0, 0),
  (207, .aload_n 1, 1, 0, 0, 0),
  (208, .aload_n 0, 1, 0, 0, 0),
  (209, .iload_n 3, 1, 0, 0, 0),
  (210, .iconst 1, 1, 0, 0, 0),
  (211, .iadd, 1, 0, 0, 0),
  (212, .iaload, 1, 0, 0, 0),
  (213, .aload_n 0, 1, 0, 0, 0),
  (214, .iload_n 3, 1, 0, 0, 0),
  (215, .iconst 2, 1, 0, 0, 0),
  (216, .iadd, 1, 0, 0, 0),
  (217, .iaload, 1, 0, 0, 0),
  (218, .aload_n 0, 1, 0, 0, 0),
  (219, .iload_n 3, 1, 0, 0, 0),
  (220, .iconst 3, 1, 0, 0, 0),
  (221, .iadd, 1, 0, 0, 0),
  (222, .iaload, 1, 0, 0, 0),
  (223, .invokevirtual 27, 3, 91, 0, 466),
  (226, .aload_n 2, 1, 0, 0, 0),
  (227, .aload_n 0, 1, 0, 0, 0),
  (228, .iload_n 3, 1, 0, 0, 0),
  (229, .iconst 1, 1, 0, 0, 0),
  (230, .iadd, 1, 0, 0, 0),
  (231, .iaload, 1, 0, 0, 0),
  (232, .aload_n 0, 1, 0, 0, 0),
  (233, .iload_n 3, 1, 0, 0, 0),
  (234, .iconst 2, 1, 0, 0, 0),
  (235, .iadd, 1, 0, 0, 0),
  (236, .iaload, 1, 0, 0, 0),
  (237, .aload_n 0, 1, 0, 0, 0),
  (238, .iload_n 3, 1, 0, 0, 0),
  (239, .iconst 3, 1, 0, 0, 0),
  (240, .iadd, 1, 0, 0, 0),
  (241, .iaload, 1, 0, 0, 0),
  (242, .invokevirtual 31, 3, 143, 0, 912),
  (245, .if_icmp .eq 548, 3, 0, 0, 0),
  (248, .iconst 0, 1, 0, 0, 0),
  (249, .ireturn, 1, 0, 0, 0),
  (250, .aload_n 1, 1, 0, 0, 0),
  (251, .aload_n 0, 1, 0, 0, 0),
  (252, .iload_n 3, 1, 0, 0, 0),
  (253, .iconst 1, 1, 0, 0, 0),
  (254, .iadd, 1, 0, 0, 0),
  (255, .iaload, 1, 0, 0, 0),
  (256, .invokevirtual 32, 3, 92, 0, 474),
  (259, .aload_n 2, 1, 0, 0, 0),
  (260, .aload_n 0, 1, 0, 0, 0),
  (261, .iload_n 3, 1, 0, 0, 0),
  (262, .iconst 1, 1, 0, 0, 0),
  (263, .iadd, 1, 0, 0, 0),
  (264, .iaload, 1, 0, 0, 0),
  (265, .invokevirtual 36, 3, 146, 0, 920),
  (268, .if_icmp .eq 525, 3, 0, 0, 0),
  (271, .iconst 0, 1, 0, 0, 0),
  (272, .ireturn, 1, 0, 0, 0),
  (273, .aload_n 1, 1, 0, 0, 0),
  (274, .aload_n 0, 1, 0, 0, 0),
  (275, .iload_n 3, 1, 0, 0, 0),
  (276, .iconst 1, 1, 0, 0, 0),
  (277, .iadd, 1, 0, 0, 0),
  (278, .iaload, 1, 0, 0, 0),
  (279, .invokevirtual 37, 3, 93, 0, 511),
  (282, .aload_n 2, 1, 0, 0, 0),
  (283, .aload_n 0, 1, 0, 0, 0),
  (284, .iload_n 3, 1, 0, 0, 0),
  (285, .iconst 1, 1, 0, 0, 0),
  (286, .iadd, 1, 0, 0, 0),
  (287, .iaload, 1, 0, 0, 0),
  (288, .invokevirtual 40, 3, 148, 0, 948),
  (291, .if_icmp .eq 502, 3, 0, 0, 0),
  (294, .iconst 0, 1, 0, 0, 0),
  (295, .ireturn, 1, 0, 0, 0),
  (296, .aload_n 1, 1, 0, 0, 0),
  (297, .aload_n 0, 1, 0, 0, 0),
  (298, .iload_n 3, 1, 0, 0, 0),
  (299, .iconst 1, 1, 0, 0, 0),
  (300, .iadd, 1, 0, 0, 0),
  (301, .iaload, 1, 0, 0, 0),
  (302, .invokevirtual 41, 3, 94, 0, 519),
  (305, .aload_n 2, 1, 0, 0, 0),
  (306, .aload_n 0, 1, 0, 0, 0),
  (307, .iload_n 3, 1, 0, 0, 0),
  (308, .iconst 1, 1, 0, 0, 0),
  (309, .iadd, 1, 0, 0, 0),
  (310, .iaload, 1, 0, 0, 0),
  (311, .invokevirtual 44, 3, 150, 0, 956),
  (314, .if_icmp .eq 479, 3, 0, 0, 0),
  (317, .iconst 0, 1, 0, 0, 0),
  (318, .ireturn, 1, 0, 0, 0),
  (319, .aload_n 1, 1, 0, 0, 0),
  (320, .invokevirtual 45, 3, 95, 0, 531),
  (323, .aload_n 2, 1, 0, 0, 0),
  (324, .invokevirtual 48, 3, 153, 0, 964),
  (327, .if_icmp .eq 466, 3, 0, 0, 0),
  (330, .iconst 0, 1, 0, 0, 0),
  (331, .ireturn, 1, 0, 0, 0),
  (332, .aload_n 1, 1, 0, 0, 0),
  (333, .invokevirtual 49, 3, 96, 0, 545),
  (336, .aload_n 2, 1, 0, 0, 0),
  (337, .invokevirtual 52, 3, 156, 0, 976),
  (340, .if_icmp .eq 453, 3, 0, 0, 0),
  (343, .iconst 0, 1, 0, 0, 0),
  (344, .ireturn, 1, 0, 0, 0),
  (345, .aload_n 1, 1, 0, 0, 0),
  (346, .aload_n 0, 1, 0, 0, 0),
  (347, .iload_n 3, 1, 0, 0, 0),
  (348, .iconst 1, 1, 0, 0, 0),
  (349, .iadd, 1, 0, 0, 0),
  (350, .iaload, 1, 0, 0, 0),
  (351, .aload_n 0, 1, 0, 0, 0),
  (352, .iload_n 3, 1, 0, 0, 0),
  (353, .iconst 2, 1, 0, 0, 0),
  (354, .iadd, 1, 0, 0, 0),
  (355, .iaload, 1, 0, 0, 0),
  (356, .invokevirtual 53, 3, 97, 0, 602),
  (359, .aload_n 2, 1, 0, 0, 0),
  (360, .aload_n 0, 1, 0, 0, 0),
  (361, .iload_n 3, 1, 0, 0, 0),
  (362, .iconst 1, 1, 0, 0, 0),
  (363, .iadd, 1, 0, 0, 0),
  (364, .iaload, 1, 0, 0, 0),
  (365, .aload_n 0, 1, 0, 0, 0),
  (366, .iload_n 3, 1, 0, 0, 0),
  (367, .iconst 2, 1, 0, 0, 0),
  (368, .iadd, 1, 0, 0, 0),
  (369, .iaload, 1, 0, 0, 0),
  (370, .invokevirtual 56, 3, 157, 0, 1008),
  (373, .if_icmp .eq 420, 3, 0, 0, 0),
  (376, .iconst 0, 1, 0, 0, 0),
  (377, .ireturn, 1, 0, 0, 0),
  (378, .aload_n 1, 1, 0, 0, 0),
  (379, .aload_n 0, 1, 0, 0, 0),
  (380, .iload_n 3, 1, 0, 0, 0),
  (381, .iconst 1, 1, 0, 0, 0),
  (382, .iadd, 1, 0, 0, 0),
  (383, .iaload, 1, 0, 0, 0),
  (384, .aload_n 0, 1, 0, 0, 0),
  (385, .iload_n 3, 1, 0, 0, 0),
  (386, .iconst 2, 1, 0, 0, 0),
  (387, .iadd, 1, 0, 0, 0),
  (388, .iaload, 1, 0, 0, 0),
  (389, .invokevirtual 57, 3, 98, 0, 611),
  (392, .aload_n 2, 1, 0, 0, 0),
  (393, .aload_n 0, 1, 0, 0, 0),
  (394, .iload_n 3, 1, 0, 0, 0),
  (395, .iconst 1, 1, 0, 0, 0),
  (396, .iadd, 1, 0, 0, 0),
  (397, .iaload, 1, 0, 0, 0),
  (398, .aload_n 0, 1, 0, 0, 0),
  (399, .iload_n 3, 1, 0, 0, 0),
  (400, .iconst 2, 1, 0, 0, 0),
  (401, .iadd, 1, 0, 0, 0),
  (402, .iaload, 1, 0, 0, 0),
  (403, .invokevirtual 60, 3, 158, 0, 1012),
  (406, .if_icmp .eq 387, 3, 0, 0, 0),
  (409, .iconst 0, 1, 0, 0, 0),
  (410, .ireturn, 1, 0, 0, 0),
  (411, .aload_n 1, 1, 0, 0, 0),
  (412, .aload_n 0, 1, 0, 0, 0),
  (413, .iload_n 3, 1, 0, 0, 0),
  (414, .iconst 1, 1, 0, 0, 0),
  (415, .iadd, 1, 0, 0, 0),
  (416, .iaload, 1, 0, 0, 0),
  (417, .aload_n 0, 1, 0, 0, 0),
  (418, .iload_n 3, 1, 0, 0, 0),
  (419, .iconst 2, 1, 0, 0, 0),
  (420, .iadd, 1, 0, 0, 0),
  (421, .iaload, 1, 0, 0, 0),
  (422, .invokevirtual 61, 3, 99, 0, 623),
  (425, .aload_n 2, 1, 0, 0, 0),
  (426, .aload_n 0, 1, 0, 0, 0),
  (427, .iload_n 3, 1, 0, 0, 0),
  (428, .iconst 1, 1, 0, 0, 0),
  (429, .iadd, 1, 0, 0, 0),
  (430, .iaload, 1, 0, 0, 0),
  (431, .aload_n 0, 1, 0, 0, 0),
  (432, .iload_n 3, 1, 0, 0, 0),
  (433, .iconst 2, 1, 0, 0, 0),
  (434, .iadd, 1, 0, 0, 0),
  (435, .iaload, 1, 0, 0, 0),
  (436, .invokevirtual 64, 3, 160, 0, 1024),
  (439, .if_icmp .eq 354, 3, 0, 0, 0),
  (442, .iconst 0, 1, 0, 0, 0),
  (443, .ireturn, 1, 0, 0, 0),
  (444, .aload_n 1, 1, 0, 0, 0),
  (445, .aload_n 0, 1, 0, 0, 0),
  (446, .iload_n 3, 1, 0, 0, 0),
  (447, .iconst 1, 1, 0, 0, 0),
  (448, .iadd, 1, 0, 0, 0),
  (449, .iaload, 1, 0, 0, 0),
  (450, .aload_n 0, 1, 0, 0, 0),
  (451, .iload_n 3, 1, 0, 0, 0),
  (452, .iconst 2, 1, 0, 0, 0),
  (453, .iadd, 1, 0, 0, 0),
  (454, .iaload, 1, 0, 0, 0),
  (455, .invokevirtual 65, 3, 100, 0, 636),
  (458, .aload_n 2, 1, 0, 0, 0),
  (459, .aload_n 0, 1, 0, 0, 0),
  (460, .iload_n 3, 1, 0, 0, 0),
  (461, .iconst 1, 1, 0, 0, 0),
  (462, .iadd, 1, 0, 0, 0),
  (463, .iaload, 1, 0, 0, 0),
  (464, .aload_n 0, 1, 0, 0, 0),
  (465, .iload_n 3, 1, 0, 0, 0),
  (466, .iconst 2, 1, 0, 0, 0),
  (467, .iadd, 1, 0, 0, 0),
  (468, .iaload, 1, 0, 0, 0),
  (469, .invokevirtual 68, 3, 161, 0, 1036),
  (472, .if_icmp .eq 321, 3, 0, 0, 0),
  (475, .iconst 0, 1, 0, 0, 0),
  (476, .ireturn, 1, 0, 0, 0),
  (477, .aload_n 1, 1, 0, 0, 0),
  (478, .aload_n 0, 1, 0, 0, 0),
  (479, .iload_n 3, 1, 0, 0, 0),
  (480, .iconst 1, 1, 0, 0, 0),
  (481, .iadd, 1, 0, 0, 0),
  (482, .iaload, 1, 0, 0, 0),
  (483, .aload_n 0, 1, 0, 0, 0),
  (484, .iload_n 3, 1, 0, 0, 0),
  (485, .iconst 2, 1, 0, 0, 0),
  (486, .iadd, 1, 0, 0, 0),
  (487, .iaload, 1, 0, 0, 0),
  (488, .invokevirtual 69, 3, 101, 0, 642),
  (491, .aload_n 2, 1, 0, 0, 0),
  (492, .aload_n 0, 1, 0, 0, 0),
  (493, .iload_n 3, 1, 0, 0, 0),
  (494, .iconst 1, 1, 0, 0, 0),
  (495, .iadd, 1, 0, 0, 0),
  (496, .iaload, 1, 0, 0, 0),
  (497, .aload_n 0, 1, 0, 0, 0),
  (498, .iload_n 3, 1, 0, 0, 0),
  (499, .iconst 2, 1, 0, 0, 0),
  (500, .iadd, 1, 0, 0, 0),
  (501, .iaload, 1, 0, 0, 0),
  (502, .invokevirtual 72, 3, 163, 0, 1040),
  (505, .if_icmp .eq 288, 3, 0, 0, 0),
  (508, .iconst 0, 1, 0, 0, 0),
  (509, .ireturn, 1, 0, 0, 0),
  (510, .aload_n 1, 1, 0, 0, 0),
  (511, .aload_n 0, 1, 0, 0, 0),
  (512, .iload_n 3, 1, 0, 0, 0),
  (513, .iconst 1, 1, 0, 0, 0),
  (514, .iadd, 1, 0, 0, 0),
  (515, .iaload, 1, 0, 0, 0),
  (516, .invokevirtual 73, 3, 102, 0, 663),
  (519, .aload_n 2, 1, 0, 0, 0),
  (520, .aload_n 0, 1, 0, 0, 0),
  (521, .iload_n 3, 1, 0, 0, 0),
  (522, .iconst 1, 1, 0, 0, 0),
  (523, .iadd, 1, 0, 0, 0),
  (524, .iaload, 1, 0, 0, 0),
  (525, .invokevirtual 76, 3, 165, 0, 1048),
  (528, .if_icmp .eq 265, 3, 0, 0, 0),
  (531, .iconst 0, 1, 0, 0, 0),
  (532, .ireturn, 1, 0, 0, 0),
  (533, .aload_n 1, 1, 0, 0, 0),
  (534, .aload_n 0, 1, 0, 0, 0),
  (535, .iload_n 3, 1, 0, 0, 0),
  (536, .iconst 1, 1, 0, 0, 0),
  (537, .iadd, 1, 0, 0, 0),
  (538, .iaload, 1, 0, 0, 0),
  (539, .aload_n 0, 1, 0, 0, 0),
  (540, .iload_n 3, 1, 0, 0, 0),
  (541, .iconst 2, 1, 0, 0, 0),
  (542, .iadd, 1, 0, 0, 0),
  (543, .iaload, 1, 0, 0, 0),
  (544, .invokevirtual 77, 3, 103, 0, 677),
  (547, .aload_n 2, 1, 0, 0, 0),
  (548, .aload_n 0, 1, 0, 0, 0),
  (549, .iload_n 3, 1, 0, 0, 0),
  (550, .iconst 1, 1, 0, 0, 0),
  (551, .iadd, 1, 0, 0, 0),
  (552, .iaload, 1, 0, 0, 0),
  (553, .aload_n 0, 1, 0, 0, 0),
  (554, .iload_n 3, 1, 0, 0, 0),
  (555, .iconst 2, 1, 0, 0, 0),
  (556, .iadd, 1, 0, 0, 0),
  (557, .iaload, 1, 0, 0, 0),
  (558, .invokevirtual 80, 3, 167, 0, 1056),
  (561, .if_icmp .eq 232, 3, 0, 0, 0),
  (564, .iconst 0, 1, 0, 0, 0),
  (565, .ireturn, 1, 0, 0, 0),
  (566, .aload_n 1, 1, 0, 0, 0),
  (567, .aload_n 0, 1, 0, 0, 0),
  (568, .iload_n 3, 1, 0, 0, 0),
  (569, .iconst 1, 1, 0, 0, 0),
  (570, .iadd, 1, 0, 0, 0),
  (571, .iaload, 1, 0, 0, 0),
  (572, .aload_n 0, 1, 0, 0, 0),
  (573, .iload_n 3, 1, 0, 0, 0),
  (574, .iconst 2, 1, 0, 0, 0),
  (575, .iadd, 1, 0, 0, 0),
  (576, .iaload, 1, 0, 0, 0),
  (577, .invokevirtual 81, 3, 104, 0, 703),
  (580, .aload_n 2, 1, 0, 0, 0),
  (581, .aload_n 0, 1, 0, 0, 0),
  (582, .iload_n 3, 1, 0, 0, 0),
  (583, .iconst 1, 1, 0, 0, 0),
  (584, .iadd, 1, 0, 0, 0),
  (585, .iaload, 1, 0, 0, 0),
  (586, .aload_n 0, 1, 0, 0, 0),
  (587, .iload_n 3, 1, 0, 0, 0),
  (588, .iconst 2, 1, 0, 0, 0),
  (589, .iadd, 1, 0, 0, 0),
  (590, .iaload, 1, 0, 0, 0),
  (591, .invokevirtual 84, 3, 169, 0, 1064),
  (594, .if_icmp .eq 199, 3, 0, 0, 0),
  (597, .iconst 0, 1, 0, 0, 0),
  (598, .ireturn, 1, 0, 0, 0),
  (599, .aload_n 1, 1, 0, 0, 0),
  (600, .aload_n 0, 1, 0, 0, 0),
  (601, .iload_n 3, 1, 0, 0, 0),
  (602, .iconst 1, 1, 0, 0, 0),
  (603, .iadd, 1, 0, 0, 0),
  (604, .iaload, 1, 0, 0, 0),
  (605, .aload_n 0, 1, 0, 0, 0),
  (606, .iload_n 3, 1, 0, 0, 0),
  (607, .iconst 2, 1, 0, 0, 0),
  (608, .iadd, 1, 0, 0, 0),
  (609, .iaload, 1, 0, 0, 0),
  (610, .invokevirtual 85, 3, 105, 0, 711),
  (613, .aload_n 2, 1, 0, 0, 0),
  (614, .aload_n 0, 1, 0, 0, 0),
  (615, .iload_n 3, 1, 0, 0, 0),
  (616, .iconst 1, 1, 0, 0, 0),
  (617, .iadd, 1, 0, 0, 0),
  (618, .iaload, 1, 0, 0, 0),
  (619, .aload_n 0, 1, 0, 0, 0),
  (620, .iload_n 3, 1, 0, 0, 0),
  (621, .iconst 2, 1, 0, 0, 0),
  (622, .iadd, 1, 0, 0, 0),
  (623, .iaload, 1, 0, 0, 0),
  (624, .invokevirtual 88, 3, 170, 0, 1072),
  (627, .if_icmp .eq 166, 3, 0, 0, 0),
  (630, .iconst 0, 1, 0, 0, 0),
  (631, .ireturn, 1, 0, 0, 0),
  (632, .aload_n 1, 1, 0, 0, 0),
  (633, .aload_n 0, 1, 0, 0, 0),
  (634, .iload_n 3, 1, 0, 0, 0),
  (635, .iconst 1, 1, 0, 0, 0),
  (636, .iadd, 1, 0, 0, 0),
  (637, .iaload, 1, 0, 0, 0),
  (638, .invokevirtual 89, 3, 106, 0, 720),
  (641, .aload_n 2, 1, 0, 0, 0),
  (642, .aload_n 0, 1, 0, 0, 0),
  (643, .iload_n 3, 1, 0, 0, 0),
  (644, .iconst 1, 1, 0, 0, 0),
  (645, .iadd, 1, 0, 0, 0),
  (646, .iaload, 1, 0, 0, 0),
  (647, .invokevirtual 92, 3, 171, 0, 1076),
  (650, .if_icmp .eq 143, 3, 0, 0, 0),
  (653, .iconst 0, 1, 0, 0, 0),
  (654, .ireturn, 1, 0, 0, 0),
  (655, .aload_n 1, 1, 0, 0, 0),
  (656, .aload_n 0, 1, 0, 0, 0),
  (657, .iload_n 3, 1, 0, 0, 0),
  (658, .iconst 1, 1, 0, 0, 0),
  (659, .iadd, 1, 0, 0, 0),
  (660, .iaload, 1, 0, 0, 0),
  (661, .i2l, 1, 0, 0, 0),
  (662, .bipush 32, 2, 0, 0, 0),
  (664, .lshl, 1, 0, 0, 0),
  (665, .aload_n 0, 1, 0, 0, 0),
  (666, .iload_n 3, 1, 0, 0, 0),
  (667, .iconst 2, 1, 0, 0, 0),
  (668, .iadd, 1, 0, 0, 0),
  (669, .iaload, 1, 0, 0, 0),
  (670, .i2l, 1, 0, 0, 0),
  (671, .ldc2_w 93, 3, 4294967295, 0, 1113),
  (674, .land, 1, 0, 0, 0),
  (675, .lor, 1, 0, 0, 0),
  (676, .invokevirtual 95, 3, 107, 0, 729),
  (679, .aload_n 2, 1, 0, 0, 0),
  (680, .aload_n 0, 1, 0, 0, 0),
  (681, .iload_n 3, 1, 0, 0, 0),
  (682, .iconst 1, 1, 0, 0, 0),
  (683, .iadd, 1, 0, 0, 0),
  (684, .iaload, 1, 0, 0, 0),
  (685, .i2l, 1, 0, 0, 0),
  (686, .bipush 32, 2, 0, 0, 0),
  (688, .lshl, 1, 0, 0, 0),
  (689, .aload_n 0, 1, 0, 0, 0),
  (690, .iload_n 3, 1, 0, 0, 0),
  (691, .iconst 2, 1, 0, 0, 0),
  (692, .iadd, 1, 0, 0, 0),
  (693, .iaload, 1, 0, 0, 0),
  (694, .i2l, 1, 0, 0, 0),
  (695, .ldc2_w 93, 3, 4294967295, 0, 1113),
  (698, .land, 1, 0, 0, 0),
  (699, .lor, 1, 0, 0, 0),
  (700, .invokevirtual 99, 3, 172, 0, 1088),
  (703, .if_icmp .eq 90, 3, 0, 0, 0),
  (706, .iconst 0, 1, 0, 0, 0),
  (707, .ireturn, 1, 0, 0, 0),
  (708, .aload_n 1, 1, 0, 0, 0),
  (709, .invokevirtual 100, 3, 108, 0, 741),
  (712, .aload_n 2, 1, 0, 0, 0),
  (713, .invokevirtual 103, 3, 173, 0, 1093),
  (716, .if_icmp .eq 77, 3, 0, 0, 0),
  (719, .iconst 0, 1, 0, 0, 0),
  (720, .ireturn, 1, 0, 0, 0),
  (721, .aload_n 1, 1, 0, 0, 0),
  (722, .invokevirtual 104, 3, 109, 0, 745),
  (725, .aload_n 2, 1, 0, 0, 0),
  (726, .invokevirtual 107, 3, 181, 0, 1097),
  (729, .if_icmp .eq 64, 3, 0, 0, 0),
  (732, .iconst 0, 1, 0, 0, 0),
  (733, .ireturn, 1, 0, 0, 0),
  (734, .aload_n 1, 1, 0, 0, 0),
  (735, .invokevirtual 108, 3, 110, 0, 749),
  (738, .aload_n 2, 1, 0, 0, 0),
  (739, .invokevirtual 111, 3, 182, 0, 1101),
  (742, .if_icmp .eq 51, 3, 0, 0, 0),
  (745, .iconst 0, 1, 0, 0, 0),
  (746, .ireturn, 1, 0, 0, 0),
  (747, .aload_n 1, 1, 0, 0, 0),
  (748, .aload_n 0, 1, 0, 0, 0),
  (749, .iload_n 3, 1, 0, 0, 0),
  (750, .iconst 1, 1, 0, 0, 0),
  (751, .iadd, 1, 0, 0, 0),
  (752, .iaload, 1, 0, 0, 0),
  (753, .invokevirtual 112, 3, 111, 0, 757),
  (756, .aload_n 2, 1, 0, 0, 0),
  (757, .aload_n 0, 1, 0, 0, 0),
  (758, .iload_n 3, 1, 0, 0, 0),
  (759, .iconst 1, 1, 0, 0, 0),
  (760, .iadd, 1, 0, 0, 0),
  (761, .iaload, 1, 0, 0, 0),
  (762, .invokevirtual 115, 3, 183, 0, 1105),
  (765, .if_icmp .eq 28, 3, 0, 0, 0),
  (768, .iconst 0, 1, 0, 0, 0),
  (769, .ireturn, 1, 0, 0, 0),
  (770, .aload_n 1, 1, 0, 0, 0),
  (771, .aload_n 0, 1, 0, 0, 0),
  (772, .iload_n 3, 1, 0, 0, 0),
  (773, .iconst 1, 1, 0, 0, 0),
  (774, .iadd, 1, 0, 0, 0),
  (775, .iaload, 1, 0, 0, 0),
  (776, .invokevirtual 116, 3, 112, 0, 769),
  (779, .aload_n 2, 1, 0, 0, 0),
  (780, .aload_n 0, 1, 0, 0, 0),
  (781, .iload_n 3, 1, 0, 0, 0),
  (782, .iconst 1, 1, 0, 0, 0),
  (783, .iadd, 1, 0, 0, 0),
  (784, .iaload, 1, 0, 0, 0),
  (785, .invokevirtual 119, 3, 184, 0, 1109),
  (788, .if_icmp .eq 5, 3, 0, 0, 0),
  (791, .iconst 0, 1, 0, 0, 0),
  (792, .ireturn, 1, 0, 0, 0),
  (793, .iinc 3 4, 3, 0, 0, 0),
  (796, .goto (-778), 3, 0, 0, 0),
  (799, .iconst 1, 1, 0, 0, 0),
  (800, .ireturn, 1, 0, 0, 0)
  ]
def zPr : List (List (Nat × zRow)) := [zp0, zp1, zp2, zp3, zp4, zp5, zp6, zp7, zp8, zp9, zp10, zp11, zp12, zp13, zp14, zp15, zp16, zp17, zp18, zp19, zp20, zp21, zp22, zp23, zp24, zp25, zp26, zp27, zp28, zp29, zp30, zp31, zp32, zp33, zp34, zp35, zp36, zp37, zp38, zp39, zp40, zp41, zp42, zp43, zp44, zp45, zp46, zp47, zp48, zp49, zp50, zp51, zp52, zp53, zp54, zp55, zp56, zp57, zp58, zp59, zp60, zp61, zp62, zp63, zp64, zp65, zp66, zp67, zp68, zp69, zp70, zp71, zp72, zp73, zp74, zp75, zp76, zp77, zp78, zp79, zp80, zp81, zp82, zp83, zp84, zp85, zp86, zp87, zp88, zp89, zp90, zp91, zp92, zp93, zp94, zp95, zp96, zp97, zp98, zp99, zp100, zp101, zp102, zp103, zp104, zp105, zp106, zp107, zp108, zp109, zp110, zp111, zp112, zp113, zp114, zp115, zp116, zp117, zp118, zp119, zp120, zp121, zp122, zp123, zp124, zp125, zp126, zp127, zp128, zp129, zp130, zp131, zp132, zp133, zp134, zp135, zp136, zp137, zp138, zp139, zp140, zp141, zp142, zp143, zp144, zp145, zp146, zp147, zp148, zp149, zp150, zp151, zp152, zp153, zp154, zp155, zp156, zp157, zp158, zp159, zp160, zp161, zp162, zp163, zp164, zp165, zp166, zp167, zp168, zp169, zp170, zp171, zp172, zp173, zp174, zp175, zp176, zp177, zp178, zp179, zp180, zp181, zp182, zp183, zp184, zp185, zp186, zp187]
def zT (y pc : Nat) : Option zRow := zlk (zPr.getD y []) pc
end
section
def zup (I : Nat → Nat → Int32) (t : Nat) (f : Nat → Int32) : Nat → Nat → Int32 := fun j => if j = t then f else I j
def zin (i : Int32) (n : Nat) : Bool := decide (¬ i < 0) && decide (i.toNatClampNeg < n)
def zgo (pc : Nat) (ls st : List Value) (m : zM) : zRes := some (.inl (pc, ls, st, m))
def zi2 (pc : Nat) (ls : List Value) (m : zM) (f : Int32 → Int32 → Int32) (st : List Value) : zRes := match st with
  | .int y :: .int x :: st => zgo (pc + 1) ls (.int (f x y) :: st) m
  | _ => none
def zl2 (pc : Nat) (ls : List Value) (m : zM) (f : Int64 → Int64 → Value) (st : List Value) : zRes := match st with
  | .long y :: .long x :: st => zgo (pc + 1) ls (f x y :: st) m
  | _ => none
def zl1 (pc : Nat) (ls : List Value) (m : zM) (f : Int64 → Int32 → Int64) (st : List Value) : zRes := match st with
  | .int y :: .long x :: st => zgo (pc + 1) ls (.long (f x y) :: st) m
  | _ => none
def zbr (pc : Nat) (ls : List Value) (m : zM) (off : Int) (c : Bool) (st : List Value) : zRes :=
  if 0 ≤ (pc : Int) + off then zgo (cond c ((pc : Int) + off).toNat (pc + 3)) ls st m else none
def zcmp (c : ClassFile.Cond) (x y : Int32) : Bool := match c with
  | .eq => decide (x = y)
  | .ne => decide (¬ x = y)
  | .lt => decide (x < y)
  | .ge => decide (y ≤ x)
  | .gt => decide (y < x)
  | .le => decide (x ≤ y)
def zld (k pc n : Nat) (ls st : List Value) (m : zM) : zRes := match ls[k]? with
  | some (.int x) => zgo (pc + n) ls (.int x :: st) m
  | _ => none
def zldl (k pc n : Nat) (ls st : List Value) (m : zM) : zRes := match ls[k]? with
  | some (.long x) => zgo (pc + n) ls (.long x :: st) m
  | _ => none
def zlda (k pc n : Nat) (ls st : List Value) (m : zM) : zRes := match ls[k]? with
  | some (.ref x) => zgo (pc + n) ls (.ref x :: st) m
  | _ => none
/-- no long begins one place ahead -/
def zfree (ls : List Value) (k : Nat) : Bool := match k with
  | 0 => true
  | k + 1 => match ls[k]? with
    | some v => decide (v.category = 1)
    | none => true
def zst (k pc n : Nat) (ls st : List Value) (m : zM) : zRes := match st with
  | .int x :: st => if k < ls.length ∧ zfree ls k = true then zgo (pc + n) (ls.set k (.int x)) st m else none
  | _ => none
def zsta (k pc n : Nat) (ls st : List Value) (m : zM) : zRes := match st with
  | .ref x :: st => if k < ls.length ∧ zfree ls k = true then zgo (pc + n) (ls.set k (.ref x)) st m else none
  | _ => none
def zstl (k pc n : Nat) (ls st : List Value) (m : zM) : zRes := match st with
  | .long x :: st => if k + 1 < ls.length ∧ zfree ls k = true then zgo (pc + n) ((ls.set k (.long x)).set (k + 1) .null) st m else none
  | _ => none
def zinc (k : Nat) (d : Int) (pc : Nat) (ls st : List Value) (m : zM) : zRes := match ls[k]? with
  | some (.int x) => if zfree ls k = true then zgo (pc + 3) (ls.set k (.int (x + Int32.ofInt d))) st m else none
  | _ => none
def zKi (m : zM) (t : Nat) : Nat := m.2.1.getD t 50
def zLe (m : zM) (t : Nat) : Nat := m.2.2.1.getD t 0
def zRf (m : zM) (t k : Nat) : Nat := (m.2.2.2.1.getD t []).getD k 0
def zI (m : zM) : Nat → Nat → Int32 := m.2.2.2.2
def zsI (m : zM) (t : Nat) (f : Nat → Int32) : zM := (m.1, m.2.1, m.2.2.1, m.2.2.2.1, zup m.2.2.2.2 t f)
def zsR (m : zM) (t k u : Nat) : zM := (m.1, m.2.1, m.2.2.1, m.2.2.2.1.set t ((m.2.2.2.1.getD t []).set k u), m.2.2.2.2)
def zalloc (m : zM) (kd n : Nat) : zM := (m.1 + n, m.2.1 ++ [kd], m.2.2.1 ++ [n], m.2.2.2.1 ++ [List.replicate n 0], zup m.2.2.2.2 m.2.1.length (fun _ => 0))
/-- the three lists speak of the same cells -/
def zwf (m : zM) : Bool := decide (m.2.2.1.length = m.2.1.length) && decide (m.2.2.2.1.length = m.2.1.length) && decide (0 < m.2.1.length)
/-- a field: ci its kind of object, k its place -/
def zget (ci k pc : Nat) (ls st : List Value) (m : zM) : zRes := match st with
  | .ref t :: st => if t ≠ 0 ∧ zKi m t = ci + 3 ∧ k < zLe m t then
      (match zFk ci k with
        | 2 => if zRf m t k = 0 then none else zgo (pc + 3) ls (.ref (zRf m t k) :: st) m
        | _ => zgo (pc + 3) ls (.int (zI m t k) :: st) m)
      else none
  | _ => none
def zput (ci k pc : Nat) (ls st : List Value) (m : zM) : zRes := match st with
  | .int x :: .ref t :: st => if t ≠ 0 ∧ zKi m t = ci + 3 ∧ k < zLe m t ∧ (zFk ci k = 0 ∨ zFk ci k = 1 ∧ (x = 0 ∨ x = 1)) then
      zgo (pc + 3) ls st (zsI m t (upd (zI m t) k x)) else none
  | .ref u :: .ref t :: st => if t ≠ 0 ∧ zKi m t = ci + 3 ∧ k < zLe m t ∧ zFk ci k = 2 ∧ u ≠ 0 ∧ k < (m.2.2.2.1.getD t []).length ∧ t < m.2.2.2.1.length then
      zgo (pc + 3) ls st (zsR m t k u) else none
  | _ => none
def ziald (X : Nat × (Nat → Int32)) (pc : Nat) (ls st : List Value) (m : zM) : zRes := match st with
  | .int i :: .ref t :: st => if t = 0 then (if zKi m 0 = 99 ∧ zin i X.1 = true then zgo (pc + 1) ls (.int (X.2 i.toNatClampNeg) :: st) m else none)
      else if zKi m t = 0 ∧ zin i (zLe m t) = true then zgo (pc + 1) ls (.int (zI m t i.toNatClampNeg) :: st) m else none
  | _ => none
def zbald (pc : Nat) (ls st : List Value) (m : zM) : zRes := match st with
  | .int i :: .ref t :: st => if t ≠ 0 ∧ zKi m t = 1 ∧ zin i (zLe m t) = true then zgo (pc + 1) ls (.int (zI m t i.toNatClampNeg) :: st) m else none
  | _ => none
def zaald (pc : Nat) (ls st : List Value) (m : zM) : zRes := match st with
  | .int i :: .ref t :: st => if t ≠ 0 ∧ zKi m t = 2 ∧ zin i (zLe m t) = true ∧ zRf m t i.toNatClampNeg ≠ 0 then zgo (pc + 1) ls (.ref (zRf m t i.toNatClampNeg) :: st) m else none
  | _ => none
def ziast (pc : Nat) (ls st : List Value) (m : zM) : zRes := match st with
  | .int x :: .int i :: .ref t :: st => if t ≠ 0 ∧ zKi m t = 0 ∧ zin i (zLe m t) = true then zgo (pc + 1) ls st (zsI m t (upd (zI m t) i.toNatClampNeg x)) else none
  | _ => none
def zbast (pc : Nat) (ls st : List Value) (m : zM) : zRes := match st with
  | .int x :: .int i :: .ref t :: st => if t ≠ 0 ∧ zKi m t = 1 ∧ zin i (zLe m t) = true ∧ (x = 0 ∨ x = 1) then zgo (pc + 1) ls st (zsI m t (upd (zI m t) i.toNatClampNeg x)) else none
  | _ => none
def zaast (pc : Nat) (ls st : List Value) (m : zM) : zRes := match st with
  | .ref u :: .int i :: .ref t :: st => if t ≠ 0 ∧ zKi m t = 2 ∧ zin i (zLe m t) = true ∧ u ≠ 0 ∧ zKi m u = 4 + 3 ∧ i.toNatClampNeg < (m.2.2.2.1.getD t []).length ∧ t < m.2.2.2.1.length then zgo (pc + 1) ls st (zsR m t i.toNatClampNeg u) else none
  | _ => none
def zalen (X : Nat × (Nat → Int32)) (pc : Nat) (ls st : List Value) (m : zM) : zRes := match st with
  | .ref t :: st => if t = 0 then (if zKi m 0 = 99 then zgo (pc + 1) ls (.int (Int32.ofNat X.1) :: st) m else none)
      else if zKi m t < 3 then zgo (pc + 1) ls (.int (Int32.ofNat (zLe m t)) :: st) m else none
  | _ => none
def znewa (kd pc n : Nat) (ls st : List Value) (m : zM) : zRes := match st with
  | .int x :: st => if ¬ x < 0 ∧ x.toNatClampNeg ≤ 100000 ∧ zwf m = true then zgo (pc + n) ls (.ref m.2.1.length :: st) (zalloc m kd x.toNatClampNeg) else none
  | _ => none
def znew (ci pc : Nat) (ls st : List Value) (m : zM) : zRes := if zwf m = true then zgo (pc + 3) ls (.ref m.2.1.length :: st) (zalloc m (ci + 3) (zNf ci)) else none
def zacopy (pc : Nat) (ls st : List Value) (m : zM) : zRes := match st with
  | .int n :: .int dp :: .ref d :: .int sp :: .ref t :: st => if t ≠ 0 ∧ d ≠ 0 ∧ zKi m t = 0 ∧ zKi m d = 0 ∧ ¬ sp < 0 ∧ ¬ dp < 0 ∧ ¬ n < 0 ∧ sp.toNatClampNeg + n.toNatClampNeg ≤ zLe m t ∧ dp.toNatClampNeg + n.toNatClampNeg ≤ zLe m d ∧ st = [] then
      zgo (pc + 3) ls st (zsI m d (va_cpy (zI m t) (zI m d) sp.toNatClampNeg dp.toNatClampNeg n.toNatClampNeg)) else none
  | _ => none
def zmin (pc : Nat) (ls st : List Value) (m : zM) : zRes := match st with
  | .int y :: .int x :: st => if (st.map fun v => v.category).sum ≤ 8 then zgo (pc + 3) ls (.int (if y < x then y else x) :: st) m else none
  | _ => none
def zoinit (pc : Nat) (ls st : List Value) (m : zM) : zRes := match st with
  | .ref _ :: st => if (st.map fun v => v.category).sum ≤ 8 then zgo (pc + 3) ls st m else none
  | _ => none
def zEn (k : Nat) (args : List Value) : List Value := (args.flatMap fun v => if v.category = 2 then [v, .null] else [v]) ++ List.replicate (zL k - (args.flatMap fun v => if v.category = 2 then [v, Value.null] else [v]).length) .null
def zrcv (k : Nat) (st : List Value) (m : zM) : Bool := match (st.take (zA k)).getLast? with
  | some (.ref t) => decide (t ≠ 0) && decide (zKi m t = zCn k + 3)
  | _ => false
/-- a call of the method k: its arguments (the receiver first), what is left of the stack -/
def zcall (k : Nat) (st : List Value) (m : zM) : zRes :=
  if zA k ≤ st.length ∧ ((st.drop (zA k)).map fun v => v.category).sum ≤ 8 ∧ k < 186 ∧ 0 < m.2.1.length ∧ (zEn k (st.take (zA k)).reverse).length = zL k ∧
    (zSt k = true ∨ zrcv k st m = true) then some (.inr (.inr (k, (st.take (zA k)).reverse, st.drop (zA k)))) else none
def zret (y : Nat) (st : List Value) (m : zM) : zRes := match st with
  | [.int v] => (match zRt y with
    | some .int => some (.inr (.inl (some (.int v), m)))
    | some .boolean => if v = 0 ∨ v = 1 then some (.inr (.inl (some (.int v), m))) else none
    | _ => none)
  | _ => none
def zins (X : Nat × (Nat → Int32)) (y : Nat) (r : zRow) (pc : Nat) (ls st : List Value) (m : zM) : zRes := match r.1 with
  | .aload_n k => zlda k pc 1 ls st m
  | .aload k => zlda k pc 2 ls st m
  | .iload_n k => zld k pc 1 ls st m
  | .iload k => zld k pc 2 ls st m
  | .lload_n k => zldl k pc 1 ls st m
  | .lload k => zldl k pc 2 ls st m
  | .istore_n k => zst k pc 1 ls st m
  | .istore k => zst k pc 2 ls st m
  | .astore_n k => zsta k pc 1 ls st m
  | .astore k => zsta k pc 2 ls st m
  | .lstore_n k => zstl k pc 1 ls st m
  | .lstore k => zstl k pc 2 ls st m
  | .iconst n => zgo (pc + 1) ls (.int (Int32.ofInt n) :: st) m
  | .bipush n => zgo (pc + 2) ls (.int (Int8.ofInt n).toInt32 :: st) m
  | .sipush n => zgo (pc + 3) ls (.int (Int16.ofInt n).toInt32 :: st) m
  | .lconst n => zgo (pc + 1) ls (.long (Int64.ofNat (n : Nat)) :: st) m
  | .ldc2_w _ => zgo (pc + 3) ls (.long (Int64.ofNat r.2.2.1) :: st) m
  | .getfield _ => zget r.2.2.1 r.2.2.2.1 pc ls st m
  | .putfield _ => zput r.2.2.1 r.2.2.2.1 pc ls st m
  | .iaload => ziald X pc ls st m
  | .baload => zbald pc ls st m
  | .aaload => zaald pc ls st m
  | .iastore => ziast pc ls st m
  | .bastore => zbast pc ls st m
  | .aastore => zaast pc ls st m
  | .arraylength => zalen X pc ls st m
  | .newarray .int => znewa 0 pc 2 ls st m
  | .newarray .boolean => znewa 1 pc 2 ls st m
  | .anewarray _ => znewa 2 pc 3 ls st m
  | .new _ => znew r.2.2.1 pc ls st m
  | .iadd => zi2 pc ls m (fun x y => x + y) st
  | .isub => zi2 pc ls m (fun x y => x - y) st
  | .imul => zi2 pc ls m (fun x y => x * y) st
  | .iand => zi2 pc ls m (fun x y => x &&& y) st
  | .ixor => zi2 pc ls m (fun x y => x ^^^ y) st
  | .idiv => (match st with
    | .int y :: .int x :: st => if y = 0 then none else zgo (pc + 1) ls (.int (x / y) :: st) m
    | _ => none)
  | .irem => (match st with
    | .int y :: .int x :: st => if y = 0 then none else zgo (pc + 1) ls (.int (x - x / y * y) :: st) m
    | _ => none)
  | .iinc k d => zinc k d pc ls st m
  | .i2l => (match st with
    | .int x :: st => zgo (pc + 1) ls (.long x.toInt64 :: st) m
    | _ => none)
  | .l2i => (match st with
    | .long x :: st => zgo (pc + 1) ls (.int x.toInt32 :: st) m
    | _ => none)
  | .land => zl2 pc ls m (fun x y => .long (x &&& y)) st
  | .lor => zl2 pc ls m (fun x y => .long (x ||| y)) st
  | .lcmp => zl2 pc ls m (fun x y => .int (lg_cmp x y)) st
  | .lshl => zl1 pc ls m (fun x y => x <<< (y.toInt64 &&& 63)) st
  | .lushr => zl1 pc ls m (fun x y => (x.toUInt64 >>> (y.toInt64.toUInt64 &&& Int64.toUInt64 63)).toInt64) st
  | .dup => (match st with
    | v :: st => if v.category = 1 then zgo (pc + 1) ls (v :: v :: st) m else none
    | _ => none)
  | .dup2 => (match st with
    | v :: w :: st => if v.category = 1 ∧ w.category = 1 then zgo (pc + 1) ls (v :: w :: v :: w :: st) m else none
    | _ => none)
  | .pop => (match st with
    | v :: st => if v.category = 1 then zgo (pc + 1) ls st m else none
    | _ => none)
  | .goto off => if 0 ≤ (pc : Int) + off then zgo ((pc : Int) + off).toNat ls st m else none
  | .ifCond c off => (match st with
    | .int x :: st => zbr pc ls m off (zcmp c x 0) st
    | _ => none)
  | .if_icmp c off => (match st with
    | .int y :: .int x :: st => zbr pc ls m off (zcmp c x y) st
    | _ => none)
  | .tableswitch d lo hi offs => (match st with
    | .int x :: st => (match (if x.toInt < lo ∨ hi < x.toInt then some d else offs[(x.toInt - lo).toNat]?) with
      | some off => if 0 ≤ (pc : Int) + off then zgo ((pc : Int) + off).toNat ls st m else none
      | none => none)
    | _ => none)
  | .lookupswitch d ps => (match st with
    | .int x :: st => if 0 ≤ (pc : Int) + Op.lookupswitch.offset ps.toList d x.toInt ∧ (ps.toList.zip (ps.toList.drop 1)).all (fun (a, next) => a.1 < next.1) = true then zgo ((pc : Int) + Op.lookupswitch.offset ps.toList d x.toInt).toNat ls st m else none
    | _ => none)
  | .ireturn => zret y st m
  | .return_ => if st = [] ∧ zRt y = none then some (.inr (.inl (none, m))) else none
  | .invokevirtual _ => zcall r.2.2.1 st m
  | .invokespecial _ => if r.2.2.1 = 1000 then zoinit pc ls st m else zcall r.2.2.1 st m
  | .invokestatic _ => if r.2.2.1 = 1001 then zacopy pc ls st m else if r.2.2.1 = 1002 then zmin pc ls st m else zcall r.2.2.1 st m
  | _ => none
def zact (X : Nat × (Nat → Int32)) (y pc : Nat) (ls st : List Value) (m : zM) : zRes := match zT y pc with
  | some r => zins X y r pc ls st m
  | none => none
def zrun (X : Nat × (Nat → Int32)) : Nat → Nat → Nat → List Value → List Value → zM → Option (Option Value × zM)
  | 0, _, _, _, _, _ => none
  | n + 1, y, pc, ls, st, m => match zact X y pc ls st m with
    | some (.inl q) => zrun X n y q.1 q.2.1 q.2.2.1 q.2.2.2
    | some (.inr (.inl q)) => some q
    | some (.inr (.inr q)) => match zrun X n q.1 0 (zEn q.1 q.2.1) [] m with
      | some v => zrun X n y (pc + 3) ls (v.1.toList ++ q.2.2) v.2
      | none => none
    | none => none
end
section
/-! what the tables' words say of each row of code -/
def zlen (i : Instr) (n : Nat) : Bool := match i with
  | .tableswitch .. => true
  | .lookupswitch .. => true
  | .aload _ | .iload _ | .lload _ | .istore _ | .astore _ | .lstore _ | .bipush _ | .newarray _ => n == 2
  | .sipush _ | .ldc2_w _ | .getfield _ | .putfield _ | .anewarray _ | .new _ | .iinc .. | .goto _ | .ifCond .. | .if_icmp .. | .invokevirtual _ | .invokespecial _ | .invokestatic _ => n == 3
  | _ => n == 1
def zw (w : Nat) (c : Cond) : Bool := decide (lw_tbl[w]? = some c)
def zOw (y : Nat) : String := (zN y).cls
def zFl (a b : Nat) : String × String × String × Bool := match zcl[a]? with
  | some q => q.2.1 b
  | none => ("", "", "", true)
def zCl (a : Nat) : String := match zcl[a]? with
  | some q => q.1
  | none => ""
def zfl (y i a b w : Nat) : Bool := decide (a < 11) && decide (b < zNf a) && ((zw w (.fieldLink (zOw y) i (zFl a b).1 (zFl a b).2.1 (zFl a b).2.2.1) && goodWord (.fieldLink (zOw y) i (zFl a b).1 (zFl a b).2.1 (zFl a b).2.2.1)) || zw w (.fieldLinkNest (zOw y) i (zFl a b).1 (zFl a b).2.1 (zFl a b).2.2.1 "FiveInks"))
def zml (y i a w : Nat) : Bool := decide (a < 186) && decide (zF a + 1 ≤ zF y) && decide (8 + (zL a + 11) + zO a ≤ zO y) &&
  ((zw w (.methodLink (zOw y) i (zN a)) && goodWord (.methodLink (zOw y) i (zN a))) || zw w (.methodLinkNest (zOw y) i (zN a) "FiveInks"))
def zini (y : Nat) : Bool := decide ((zN y).name = "<init>")
def zRw (y : Nat) (r : zRow) : Bool := match r.1 with
  | .getfield i => zfl y i r.2.2.1 r.2.2.2.1 r.2.2.2.2
  | .putfield i => zfl y i r.2.2.1 r.2.2.2.1 r.2.2.2.2 && (!(zFl r.2.2.1 r.2.2.2.1).2.2.2 || (zini y && decide (zOw y = (zFl r.2.2.1 r.2.2.2.1).1)))
  | .ldc2_w i => zw r.2.2.2.2 (.constantLong (zOw y) i (Int64.ofNat r.2.2.1)) && goodWord (.constantLong (zOw y) i (Int64.ofNat r.2.2.1))
  | .new i => zw r.2.2.2.2 (.classLink (zOw y) i (zCl r.2.2.1)) && goodWord (.classLink (zOw y) i (zCl r.2.2.1)) && decide (r.2.2.1 < 11)
  | .anewarray i => zw r.2.2.2.2 (.classLink (zOw y) i "FiveInks$Sheet") && goodWord (.classLink (zOw y) i "FiveInks$Sheet")
  | .invokevirtual i => zml y i r.2.2.1 r.2.2.2.2 && !zSt r.2.2.1 && !zini r.2.2.1
  | .invokespecial i => if r.2.2.1 = 1000 then zw r.2.2.2.2 (.methodLink (zOw y) i objectInit) && goodWord (.methodLink (zOw y) i objectInit) && decide (1 ≤ zF y) && decide (20 ≤ zO y)
      else zml y i r.2.2.1 r.2.2.2.2 && !zSt r.2.2.1 && zini r.2.2.1 && decide (zRt r.2.2.1 = none)
  | .invokestatic i => if r.2.2.1 = 1001 then zw r.2.2.2.2 (.methodLink (zOw y) i arraycopyName) && goodWord (.methodLink (zOw y) i arraycopyName) && decide (1 ≤ zF y) && decide (26 ≤ zO y)
      else if r.2.2.1 = 1002 then zw r.2.2.2.2 (.methodLink (zOw y) i Lib.Math.min.name) && goodWord (.methodLink (zOw y) i Lib.Math.min.name) && decide (1 ≤ zF y) && decide (21 ≤ zO y)
      else zml y i r.2.2.1 r.2.2.2.2 && zSt r.2.2.1
  | _ => true
def zOK (y pc : Nat) (r : zRow) : Bool := decide (decode (zB y) pc = .ok (r.1, r.2.1)) && zlen r.1 r.2.1 && zRw y r
def zOKs (y : Nat) (l : List (Nat × zRow)) : Bool := l.all fun q => zOK y q.1 q.2
theorem zlk_mem : ∀ (l : List (Nat × zRow)) (pc : Nat) (r : zRow), zlk l pc = some r → (pc, r) ∈ l
  | [], _, _, h => by simp [zlk] at h
  | q :: l, pc, r, h => by
    unfold zlk at h
    cases e : Nat.beq q.1 pc with
    | true =>
      rw [e] at h
      have h1 := Nat.eq_of_beq_eq_true e
      have h2 : q.2 = r := Option.some.inj h
      rw [← h1, ← h2]
      exact List.mem_cons_self
    | false =>
      rw [e] at h
      exact List.mem_cons_of_mem _ (zlk_mem l pc r h)

theorem zok0 : zOKs 0 zp0 = true := by decide +kernel
theorem zok1 : zOKs 1 zp1 = true := by decide +kernel
theorem zok2 : zOKs 2 zp2 = true := by decide +kernel
theorem zok3 : zOKs 3 zp3 = true := by decide +kernel
theorem zok4 : zOKs 4 zp4 = true := by decide +kernel
theorem zok5 : zOKs 5 zp5 = true := by decide +kernel
theorem zok6 : zOKs 6 zp6 = true := by decide +kernel
theorem zok7 : zOKs 7 zp7 = true := by decide +kernel
theorem zok8 : zOKs 8 zp8 = true := by decide +kernel
theorem zok9 : zOKs 9 zp9 = true := by decide +kernel
theorem zok10 : zOKs 10 zp10 = true := by decide +kernel
theorem zok11 : zOKs 11 zp11 = true := by decide +kernel
theorem zok12 : zOKs 12 zp12 = true := by decide +kernel
theorem zok13 : zOKs 13 zp13 = true := by decide +kernel
theorem zok14 : zOKs 14 zp14 = true := by decide +kernel
theorem zok15 : zOKs 15 zp15 = true := by decide +kernel
theorem zok16 : zOKs 16 zp16 = true := by decide +kernel
theorem zok17 : zOKs 17 zp17 = true := by decide +kernel
theorem zok18 : zOKs 18 zp18 = true := by decide +kernel
theorem zok19 : zOKs 19 zp19 = true := by decide +kernel
theorem zok20 : zOKs 20 zp20 = true := by decide +kernel
theorem zok21 : zOKs 21 zp21 = true := by decide +kernel
theorem zok22 : zOKs 22 zp22 = true := by decide +kernel
theorem zok23 : zOKs 23 zp23 = true := by decide +kernel
theorem zok24 : zOKs 24 zp24 = true := by decide +kernel
theorem zok25 : zOKs 25 zp25 = true := by decide +kernel
theorem zok26 : zOKs 26 zp26 = true := by decide +kernel
theorem zok27 : zOKs 27 zp27 = true := by decide +kernel
theorem zok28 : zOKs 28 zp28 = true := by decide +kernel
theorem zok29 : zOKs 29 zp29 = true := by decide +kernel
theorem zok30 : zOKs 30 zp30 = true := by decide +kernel
theorem zok31 : zOKs 31 zp31 = true := by decide +kernel
theorem zok32 : zOKs 32 zp32 = true := by decide +kernel
theorem zok33 : zOKs 33 zp33 = true := by decide +kernel
theorem zok34 : zOKs 34 zp34 = true := by decide +kernel
theorem zok35 : zOKs 35 zp35 = true := by decide +kernel
theorem zok36 : zOKs 36 zp36 = true := by decide +kernel
theorem zok37 : zOKs 37 zp37 = true := by decide +kernel
theorem zok38 : zOKs 38 zp38 = true := by decide +kernel
theorem zok39 : zOKs 39 zp39 = true := by decide +kernel
theorem zok40 : zOKs 40 zp40 = true := by decide +kernel
theorem zok41 : zOKs 41 zp41 = true := by decide +kernel
theorem zok42 : zOKs 42 zp42 = true := by decide +kernel
theorem zok43 : zOKs 43 zp43 = true := by decide +kernel
theorem zok44 : zOKs 44 zp44 = true := by decide +kernel
theorem zok45 : zOKs 45 zp45 = true := by decide +kernel
theorem zok46 : zOKs 46 zp46 = true := by decide +kernel
theorem zok47 : zOKs 47 zp47 = true := by decide +kernel
theorem zok48 : zOKs 48 zp48 = true := by decide +kernel
theorem zok49 : zOKs 49 zp49 = true := by decide +kernel
theorem zok50 : zOKs 50 zp50 = true := by decide +kernel
theorem zok51 : zOKs 51 zp51 = true := by decide +kernel
theorem zok52 : zOKs 52 zp52 = true := by decide +kernel
theorem zok53 : zOKs 53 zp53 = true := by decide +kernel
theorem zok54 : zOKs 54 zp54 = true := by decide +kernel
theorem zok55 : zOKs 55 zp55 = true := by decide +kernel
theorem zok56 : zOKs 56 zp56 = true := by decide +kernel
theorem zok57 : zOKs 57 zp57 = true := by decide +kernel
theorem zok58 : zOKs 58 zp58 = true := by decide +kernel
theorem zok59 : zOKs 59 zp59 = true := by decide +kernel
theorem zok60 : zOKs 60 zp60 = true := by decide +kernel
theorem zok61 : zOKs 61 zp61 = true := by decide +kernel
theorem zok62 : zOKs 62 zp62 = true := by decide +kernel
theorem zok63 : zOKs 63 zp63 = true := by decide +kernel
theorem zok64 : zOKs 64 zp64 = true := by decide +kernel
theorem zok65 : zOKs 65 zp65 = true := by decide +kernel
theorem zok66 : zOKs 66 zp66 = true := by decide +kernel
theorem zok67 : zOKs 67 zp67 = true := by decide +kernel
theorem zok68 : zOKs 68 zp68 = true := by decide +kernel
theorem zok69 : zOKs 69 zp69 = true := by decide +kernel
theorem zok70 : zOKs 70 zp70 = true := by decide +kernel
theorem zok71 : zOKs 71 zp71 = true := by decide +kernel
theorem zok72 : zOKs 72 zp72 = true := by decide +kernel
theorem zok73 : zOKs 73 zp73 = true := by decide +kernel
theorem zok74 : zOKs 74 zp74 = true := by decide +kernel
theorem zok75 : zOKs 75 zp75 = true := by decide +kernel
theorem zok76 : zOKs 76 zp76 = true := by decide +kernel
theorem zok77 : zOKs 77 zp77 = true := by decide +kernel
theorem zok78 : zOKs 78 zp78 = true := by decide +kernel
theorem zok79 : zOKs 79 zp79 = true := by decide +kernel
theorem zok80 : zOKs 80 zp80 = true := by decide +kernel
theorem zok81 : zOKs 81 zp81 = true := by decide +kernel
theorem zok82 : zOKs 82 zp82 = true := by decide +kernel
theorem zok83 : zOKs 83 zp83 = true := by decide +kernel
theorem zok84 : zOKs 84 zp84 = true := by decide +kernel
theorem zok85 : zOKs 85 zp85 = true := by decide +kernel
theorem zok86 : zOKs 86 zp86 = true := by decide +kernel
theorem zok87 : zOKs 87 zp87 = true := by decide +kernel
theorem zok88 : zOKs 88 zp88 = true := by decide +kernel
theorem zok89 : zOKs 89 zp89 = true := by decide +kernel
theorem zok90 : zOKs 90 zp90 = true := by decide +kernel
theorem zok91 : zOKs 91 zp91 = true := by decide +kernel
theorem zok92 : zOKs 92 zp92 = true := by decide +kernel
theorem zok93 : zOKs 93 zp93 = true := by decide +kernel
theorem zok94 : zOKs 94 zp94 = true := by decide +kernel
theorem zok95 : zOKs 95 zp95 = true := by decide +kernel
theorem zok96 : zOKs 96 zp96 = true := by decide +kernel
theorem zok97 : zOKs 97 zp97 = true := by decide +kernel
theorem zok98 : zOKs 98 zp98 = true := by decide +kernel
theorem zok99 : zOKs 99 zp99 = true := by decide +kernel
theorem zok100 : zOKs 100 zp100 = true := by decide +kernel
theorem zok101 : zOKs 101 zp101 = true := by decide +kernel
theorem zok102 : zOKs 102 zp102 = true := by decide +kernel
theorem zok103 : zOKs 103 zp103 = true := by decide +kernel
theorem zok104 : zOKs 104 zp104 = true := by decide +kernel
theorem zok105 : zOKs 105 zp105 = true := by decide +kernel
theorem zok106 : zOKs 106 zp106 = true := by decide +kernel
theorem zok107 : zOKs 107 zp107 = true := by decide +kernel
theorem zok108 : zOKs 108 zp108 = true := by decide +kernel
theorem zok109 : zOKs 109 zp109 = true := by decide +kernel
theorem zok110 : zOKs 110 zp110 = true := by decide +kernel
theorem zok111 : zOKs 111 zp111 = true := by decide +kernel
theorem zok112 : zOKs 112 zp112 = true := by decide +kernel
theorem zok113 : zOKs 113 zp113 = true := by decide +kernel
theorem zok114 : zOKs 114 zp114 = true := by decide +kernel
theorem zok115 : zOKs 115 zp115 = true := by decide +kernel
theorem zok116 : zOKs 116 zp116 = true := by decide +kernel
theorem zok117 : zOKs 117 zp117 = true := by decide +kernel
theorem zok118 : zOKs 118 zp118 = true := by decide +kernel
theorem zok119 : zOKs 119 zp119 = true := by decide +kernel
theorem zok120 : zOKs 120 zp120 = true := by decide +kernel
theorem zok121 : zOKs 121 zp121 = true := by decide +kernel
theorem zok122 : zOKs 122 zp122 = true := by decide +kernel
theorem zok123 : zOKs 123 zp123 = true := by decide +kernel
theorem zok124 : zOKs 124 zp124 = true := by decide +kernel
theorem zok125 : zOKs 125 zp125 = true := by decide +kernel
theorem zok126 : zOKs 126 zp126 = true := by decide +kernel
theorem zok127 : zOKs 127 zp127 = true := by decide +kernel
theorem zok128 : zOKs 128 zp128 = true := by decide +kernel
theorem zok129 : zOKs 129 zp129 = true := by decide +kernel
theorem zok130 : zOKs 130 zp130 = true := by decide +kernel
theorem zok131 : zOKs 131 zp131 = true := by decide +kernel
theorem zok132 : zOKs 132 zp132 = true := by decide +kernel
theorem zok133 : zOKs 133 zp133 = true := by decide +kernel
theorem zok134 : zOKs 134 zp134 = true := by decide +kernel
theorem zok135 : zOKs 135 zp135 = true := by decide +kernel
theorem zok136 : zOKs 136 zp136 = true := by decide +kernel
theorem zok137 : zOKs 137 zp137 = true := by decide +kernel
theorem zok138 : zOKs 138 zp138 = true := by decide +kernel
theorem zok139 : zOKs 139 zp139 = true := by decide +kernel
theorem zok140 : zOKs 140 zp140 = true := by decide +kernel
theorem zok141 : zOKs 141 zp141 = true := by decide +kernel
theorem zok142 : zOKs 142 zp142 = true := by decide +kernel
theorem zok143 : zOKs 143 zp143 = true := by decide +kernel
theorem zok144 : zOKs 144 zp144 = true := by decide +kernel
theorem zok145 : zOKs 145 zp145 = true := by decide +kernel
theorem zok146 : zOKs 146 zp146 = true := by decide +kernel
theorem zok147 : zOKs 147 zp147 = true := by decide +kernel
theorem zok148 : zOKs 148 zp148 = true := by decide +kernel
theorem zok149 : zOKs 149 zp149 = true := by decide +kernel
theorem zok150 : zOKs 150 zp150 = true := by decide +kernel
theorem zok151 : zOKs 151 zp151 = true := by decide +kernel
theorem zok152 : zOKs 152 zp152 = true := by decide +kernel
theorem zok153 : zOKs 153 zp153 = true := by decide +kernel
theorem zok154 : zOKs 154 zp154 = true := by decide +kernel
theorem zok155 : zOKs 155 zp155 = true := by decide +kernel
theorem zok156 : zOKs 156 zp156 = true := by decide +kernel
theorem zok157 : zOKs 157 zp157 = true := by decide +kernel
theorem zok158 : zOKs 158 zp158 = true := by decide +kernel
theorem zok159 : zOKs 159 zp159 = true := by decide +kernel
theorem zok160 : zOKs 160 zp160 = true := by decide +kernel
theorem zok161 : zOKs 161 zp161 = true := by decide +kernel
theorem zok162 : zOKs 162 zp162 = true := by decide +kernel
theorem zok163 : zOKs 163 zp163 = true := by decide +kernel
theorem zok164 : zOKs 164 zp164 = true := by decide +kernel
theorem zok165 : zOKs 165 zp165 = true := by decide +kernel
theorem zok166 : zOKs 166 zp166 = true := by decide +kernel
theorem zok167 : zOKs 167 zp167 = true := by decide +kernel
theorem zok168 : zOKs 168 zp168 = true := by decide +kernel
theorem zok169 : zOKs 169 zp169 = true := by decide +kernel
theorem zok170 : zOKs 170 zp170 = true := by decide +kernel
theorem zok171 : zOKs 171 zp171 = true := by decide +kernel
theorem zok172 : zOKs 172 zp172 = true := by decide +kernel
theorem zok173 : zOKs 173 zp173 = true := by decide +kernel
theorem zok174 : zOKs 174 zp174 = true := by decide +kernel
theorem zok175 : zOKs 175 zp175 = true := by decide +kernel
theorem zok176 : zOKs 176 zp176 = true := by decide +kernel
theorem zok177 : zOKs 177 zp177 = true := by decide +kernel
theorem zok178 : zOKs 178 zp178 = true := by decide +kernel
theorem zok179 : zOKs 179 zp179 = true := by decide +kernel
theorem zok180 : zOKs 180 zp180 = true := by decide +kernel
theorem zok181 : zOKs 181 zp181 = true := by decide +kernel
theorem zok182 : zOKs 182 zp182 = true := by decide +kernel
theorem zok183 : zOKs 183 zp183 = true := by decide +kernel
theorem zok184 : zOKs 184 zp184 = true := by decide +kernel
theorem zok185 : zOKs 185 zp185 = true := by decide +kernel
theorem zok186 : zOKs 186 zp186 = true := by decide +kernel
end
section
theorem zok187_0 : zOKs 187 ((zp187.drop 0).take 40) = true := by decide +kernel
theorem zok187_1 : zOKs 187 ((zp187.drop 40).take 40) = true := by decide +kernel
theorem zok187_2 : zOKs 187 ((zp187.drop 80).take 40) = true := by decide +kernel
theorem zok187_3 : zOKs 187 ((zp187.drop 120).take 40) = true := by decide +kernel
theorem zok187_4 : zOKs 187 ((zp187.drop 160).take 40) = true := by decide +kernel
end
section
theorem zok187_5 : zOKs 187 ((zp187.drop 200).take 40) = true := by decide +kernel
theorem zok187_6 : zOKs 187 ((zp187.drop 240).take 40) = true := by decide +kernel
theorem zok187_7 : zOKs 187 ((zp187.drop 280).take 40) = true := by decide +kernel
theorem zok187_8 : zOKs 187 ((zp187.drop 320).take 40) = true := by decide +kernel
theorem zok187_9 : zOKs 187 ((zp187.drop 360).take 40) = true := by decide +kernel
end
section
theorem zok187_10 : zOKs 187 ((zp187.drop 400).take 40) = true := by decide +kernel
theorem zok187_11 : zOKs 187 ((zp187.drop 440).take 40) = true := by decide +kernel
theorem zok187_12 : zOKs 187 ((zp187.drop 480).take 40) = true := by decide +kernel
end
section
theorem zOKs_cut {y k : Nat} {l : List (Nat × zRow)} (h1 : zOKs y ((l.drop k).take 40) = true) (h2 : zOKs y (l.drop (k + 40)) = true) : zOKs y (l.drop k) = true := by
  unfold zOKs at *
  rw [← List.take_append_drop 40 (l.drop k), List.all_append, h1, List.drop_drop, h2]
  rfl
theorem zok187 : zOKs 187 zp187 = true := (by
  have h : zOKs 187 (zp187.drop 0) = true := (zOKs_cut zok187_0 (zOKs_cut zok187_1 (zOKs_cut zok187_2 (zOKs_cut zok187_3 (zOKs_cut zok187_4 (zOKs_cut zok187_5 (zOKs_cut zok187_6 (zOKs_cut zok187_7 (zOKs_cut zok187_8 (zOKs_cut zok187_9 (zOKs_cut zok187_10 (zOKs_cut zok187_11 (zOKs_cut zok187_12 (by decide +kernel : zOKs 187 (zp187.drop 520) = true))))))))))))))
  rw [List.drop_zero] at h
  exact h)
/-- places of a method's words: its code, what it is, whom it selects, its class; then of each kind of object: its fields, that it can be made, its class -/
def zMw : List (Nat × Nat × Nat × Nat) := [
  (202, 201, 0, 68),
  (336, 334, 335, 68),
  (756, 754, 755, 68),
  (114, 113, 0, 66),
  (378, 376, 377, 66),
  (481, 479, 480, 66),
  (428, 426, 427, 66),
  (437, 435, 436, 66),
  (461, 459, 460, 66),
  (530, 528, 529, 66),
  (465, 464, 8, 66),
  (351, 349, 350, 66),
  (493, 491, 492, 66),
  (457, 456, 7, 66),
  (634, 632, 633, 66),
  (453, 451, 452, 66),
  (489, 487, 488, 66),
  (622, 620, 621, 66),
  (719, 717, 718, 66),
  (510, 508, 509, 66),
  (505, 503, 504, 66),
  (501, 499, 500, 66),
  (630, 628, 629, 66),
  (657, 655, 656, 66),
  (671, 669, 670, 66),
  (518, 516, 517, 66),
  (649, 647, 648, 66),
  (653, 651, 652, 66),
  (728, 726, 727, 66),
  (584, 582, 583, 66),
  (588, 587, 14, 66),
  (601, 600, 17, 66),
  (593, 592, 15, 66),
  (597, 596, 16, 66),
  (240, 239, 0, 70),
  (386, 384, 385, 70),
  (332, 330, 331, 70),
  (328, 326, 327, 70),
  (324, 322, 323, 70),
  (735, 734, 0, 70),
  (740, 738, 739, 70),
  (256, 255, 0, 71),
  (401, 399, 400, 71),
  (406, 405, 0, 71),
  (416, 415, 2, 71),
  (420, 419, 3, 71),
  (441, 440, 6, 71),
  (424, 423, 4, 71),
  (432, 431, 5, 71),
  (410, 409, 1, 71),
  (88, 87, 0, 64),
  (340, 338, 339, 64),
  (365, 363, 364, 64),
  (449, 447, 448, 64),
  (445, 443, 444, 64),
  (497, 495, 496, 64),
  (526, 524, 525, 64),
  (485, 483, 484, 64),
  (538, 536, 537, 64),
  (542, 541, 9, 64),
  (572, 570, 571, 64),
  (222, 221, 0, 69),
  (763, 762, 0, 69),
  (767, 765, 766, 69),
  (94, 93, 0, 65),
  (369, 367, 368, 65),
  (374, 372, 373, 65),
  (609, 607, 608, 65),
  (344, 342, 343, 65),
  (166, 165, 0, 67),
  (382, 380, 381, 67),
  (675, 673, 674, 67),
  (684, 682, 683, 67),
  (580, 578, 579, 67),
  (689, 687, 688, 67),
  (701, 699, 700, 67),
  (694, 693, 19, 67),
  (710, 708, 709, 67),
  (356, 354, 355, 67),
  (272, 271, 0, 72),
  (576, 574, 575, 72),
  (552, 550, 551, 72),
  (618, 616, 617, 72),
  (556, 555, 10, 72),
  (560, 559, 11, 72),
  (564, 563, 12, 72),
  (568, 567, 13, 72),
  (80, 79, 0, 63),
  (320, 318, 319, 63),
  (390, 388, 389, 63),
  (397, 395, 396, 63),
  (469, 467, 468, 63),
  (477, 475, 476, 63),
  (514, 512, 513, 63),
  (522, 520, 521, 63),
  (534, 532, 533, 63),
  (548, 546, 547, 63),
  (605, 603, 604, 63),
  (614, 612, 613, 63),
  (626, 624, 625, 63),
  (639, 637, 638, 63),
  (645, 643, 644, 63),
  (666, 664, 665, 63),
  (680, 678, 679, 63),
  (706, 704, 705, 63),
  (714, 712, 713, 63),
  (723, 721, 722, 63),
  (732, 730, 731, 63),
  (744, 742, 743, 63),
  (748, 746, 747, 63),
  (752, 750, 751, 63),
  (760, 758, 759, 63),
  (772, 770, 771, 63),
  (393, 392, 0, 63),
  (662, 661, 18, 63),
  (778, 777, 0, 73),
  (844, 843, 0, 73),
  (903, 902, 31, 73),
  (895, 894, 29, 73),
  (927, 926, 35, 73),
  (855, 854, 0, 73),
  (848, 847, 20, 73),
  (1083, 1082, 60, 73),
  (1087, 1086, 61, 73),
  (907, 906, 32, 73),
  (1035, 1034, 55, 73),
  (935, 934, 37, 73),
  (943, 942, 39, 73),
  (939, 938, 38, 73),
  (995, 994, 48, 73),
  (991, 990, 47, 73),
  (999, 998, 49, 73),
  (987, 986, 46, 73),
  (983, 982, 45, 73),
  (1023, 1022, 53, 73),
  (1019, 1018, 52, 73),
  (841, 839, 840, 73),
  (852, 850, 851, 73),
  (899, 898, 30, 73),
  (911, 910, 33, 73),
  (919, 918, 34, 73),
  (891, 890, 28, 73),
  (859, 857, 858, 73),
  (915, 913, 914, 73),
  (931, 930, 36, 73),
  (947, 946, 40, 73),
  (923, 921, 922, 73),
  (955, 954, 41, 73),
  (951, 949, 950, 73),
  (963, 962, 42, 73),
  (959, 957, 958, 73),
  (975, 974, 44, 73),
  (971, 970, 43, 73),
  (967, 965, 966, 73),
  (1007, 1006, 51, 73),
  (1003, 1002, 50, 73),
  (979, 977, 978, 73),
  (1011, 1009, 1010, 73),
  (1015, 1013, 1014, 73),
  (1031, 1030, 54, 73),
  (1027, 1025, 1026, 73),
  (1039, 1037, 1038, 73),
  (1047, 1046, 56, 73),
  (1043, 1041, 1042, 73),
  (1055, 1054, 57, 73),
  (1051, 1049, 1050, 73),
  (1063, 1062, 58, 73),
  (1059, 1057, 1058, 73),
  (1071, 1070, 59, 73),
  (1067, 1065, 1066, 73),
  (1075, 1073, 1074, 73),
  (1079, 1077, 1078, 73),
  (1091, 1089, 1090, 73),
  (1096, 1094, 1095, 73),
  (875, 874, 24, 73),
  (883, 882, 26, 73),
  (871, 870, 23, 73),
  (879, 878, 25, 73),
  (887, 886, 27, 73),
  (867, 866, 22, 73),
  (863, 862, 21, 73),
  (1100, 1098, 1099, 73),
  (1104, 1102, 1103, 73),
  (1108, 1106, 1107, 73),
  (1112, 1110, 1111, 73),
  (697, 696, 0, 75),
  (361, 360, 0, 75)
  ]
def zCw : List (List Nat × Nat × Nat) := [([211, 213, 215], 199, 68), ([145, 147, 149, 151, 153, 155, 157, 159], 111, 66), ([247, 249], 237, 70), ([263, 265], 253, 71), ([189, 191, 193, 195], 85, 64), ([230, 232], 219, 69), ([104, 106], 91, 65), ([172, 174, 176], 163, 67), ([281, 283, 285, 287, 289], 269, 72), ([300, 302, 304, 306, 308, 310, 312, 314], 77, 63), ([799, 801, 803, 805, 807, 809, 811, 813, 815, 817, 819, 821, 823, 825, 827, 829, 831, 833, 835], 775, 73)]
def zMk (y : Nat) : Bool :=
  (if zSt y then zw (zMw.getD y (0, 0, 0, 0)).2.1 (.static (zN y)) && goodWord (.static (zN y))
    else zw (zMw.getD y (0, 0, 0, 0)).2.1 (.instanceMethod (zN y)) && goodWord (.instanceMethod (zN y)) && (zini y || (zw (zMw.getD y (0, 0, 0, 0)).2.2.1 (.selects (zOw y) (zN y) (zN y)) && goodWord (.selects (zOw y) (zN y) (zN y))))) &&
  zw (zMw.getD y (0, 0, 0, 0)).2.2.2 (.initialized (zOw y)) && goodWord (.initialized (zOw y)) && decide ((zN y).cls ≠ "java/lang/invoke/MethodHandle") && decide ((zN y).cls ≠ "java/lang/invoke/VarHandle") &&
  decide ((parseMethodDescriptor (zN y).desc).map (fun d => d.parameters.length) = some (zA y - (if zSt y then 0 else 1))) && plainFor (zN y) && (zSt y || (decide (zCn y < 11) && decide (zCl (zCn y) = zOw y) && decide (1 ≤ zA y)))
theorem zMk_all : (List.range 186).all zMk = true := by decide +kernel
/-- the words of a kind of object -/
def zCk (c : Nat) : Bool := match zcl[c]? with
  | some q => ((List.range q.2.2).all fun k => zw ((zCw.getD c ([], 0, 0)).1.getD k 0) (u_lay q.1 q.2.1 k) && goodWord (u_lay q.1 q.2.1 k)) && decide (q.2.2 = zNf c) && zw (zCw.getD c ([], 0, 0)).2.1 (.instantiable q.1 q.2.2) && goodWord (.instantiable q.1 q.2.2) && zw (zCw.getD c ([], 0, 0)).2.2 (.initialized q.1) && goodWord (.initialized q.1)
  | none => false
theorem zCk_all : ∀ c, c < 11 → zCk c = true := by decide +kernel
/-- what the fields hold, as numbers and as types -/
def zTk (c : Nat) : Bool := match zcl[c]? with
  | some q => (List.range q.2.2).all fun k => match zFk c k with
    | 0 => decide (parseFieldDescriptor (q.2.1 k).2.2.1 = some .int)
    | 1 => decide (parseFieldDescriptor (q.2.1 k).2.2.1 = some .boolean)
    | _ => match parseFieldDescriptor (q.2.1 k).2.2.1 with
      | some (.object _) => true
      | some (.array _) => true
      | _ => false
  | none => false
theorem zTk_all : ∀ c, c < 11 → zTk c = true := by decide +kernel
theorem zw_int : zw 109 (.arrayClass .int) = true := by decide +kernel
theorem zw_bool : zw 235 (.arrayClass .boolean) = true := by decide +kernel
theorem zw_over : zw 205 (.arrayOver (.object "FiveInks$Sheet")) = true := by decide +kernel
theorem zw_oi : zw 82 (.instanceMethod objectInit) = true := by decide +kernel
theorem zw_oc : zw 83 (.code objectInit ⟨#[0xb1]⟩ 1 none) = true := by decide +kernel
theorem zw_si : zw 74 (.initialized "java/lang/System") = true := by decide +kernel
theorem zw_ss : zw 346 (.static arraycopyName) = true := by decide +kernel
theorem zw_sn : zw 347 (.native arraycopyName) = true := by decide +kernel
theorem zw_mi : zw 75 (.initialized "java/lang/Math") = true := by decide +kernel
theorem zw_ms : zw 360 (.static Lib.Math.min.name) = true := by decide +kernel
theorem zw_mc : zw 361 (.code Lib.Math.min.name Lib.Math.min.code 2 (some .int)) = true := by decide +kernel
def zAOK : Nat → List (List (Nat × zRow)) → Prop
  | _, [] => True
  | k, l :: ls => zOKs k l = true ∧ zAOK (k + 1) ls
theorem zAOK_all : zAOK 0 zPr := ⟨zok0, zok1, zok2, zok3, zok4, zok5, zok6, zok7, zok8, zok9, zok10, zok11, zok12, zok13, zok14, zok15, zok16, zok17, zok18, zok19, zok20, zok21, zok22, zok23, zok24, zok25, zok26, zok27, zok28, zok29, zok30, zok31, zok32, zok33, zok34, zok35, zok36, zok37, zok38, zok39, zok40, zok41, zok42, zok43, zok44, zok45, zok46, zok47, zok48, zok49, zok50, zok51, zok52, zok53, zok54, zok55, zok56, zok57, zok58, zok59, zok60, zok61, zok62, zok63, zok64, zok65, zok66, zok67, zok68, zok69, zok70, zok71, zok72, zok73, zok74, zok75, zok76, zok77, zok78, zok79, zok80, zok81, zok82, zok83, zok84, zok85, zok86, zok87, zok88, zok89, zok90, zok91, zok92, zok93, zok94, zok95, zok96, zok97, zok98, zok99, zok100, zok101, zok102, zok103, zok104, zok105, zok106, zok107, zok108, zok109, zok110, zok111, zok112, zok113, zok114, zok115, zok116, zok117, zok118, zok119, zok120, zok121, zok122, zok123, zok124, zok125, zok126, zok127, zok128, zok129, zok130, zok131, zok132, zok133, zok134, zok135, zok136, zok137, zok138, zok139, zok140, zok141, zok142, zok143, zok144, zok145, zok146, zok147, zok148, zok149, zok150, zok151, zok152, zok153, zok154, zok155, zok156, zok157, zok158, zok159, zok160, zok161, zok162, zok163, zok164, zok165, zok166, zok167, zok168, zok169, zok170, zok171, zok172, zok173, zok174, zok175, zok176, zok177, zok178, zok179, zok180, zok181, zok182, zok183, zok184, zok185, zok186, zok187, trivial⟩
theorem zAOK_get : ∀ (ls : List (List (Nat × zRow))) (k i : Nat) (l : List (Nat × zRow)), zAOK k ls → ls[i]? = some l → zOKs (k + i) l = true
  | [], _, i, _, _, h => by simp at h
  | a :: ls, k, 0, l, hk, h => by
    have h1 : a = l := by simpa using h
    rw [← h1]
    exact hk.1
  | a :: ls, k, i + 1, l, hk, h => by
    have h1 := zAOK_get ls (k + 1) i l hk.2 (by simpa using h)
    rw [show k + (i + 1) = k + 1 + i by omega]
    exact h1
theorem zT_ok {y pc : Nat} {r : zRow} (h : zT y pc = some r) : zOK y pc r = true := by
  unfold zT at h
  have hm := zlk_mem _ _ _ h
  rw [List.getD_eq_getElem?_getD] at hm
  cases e : zPr[y]? with
  | none => rw [e] at hm; simp at hm
  | some l =>
    rw [e] at hm
    have h1 := zAOK_get zPr 0 y l zAOK_all e
    rw [Nat.zero_add] at h1
    unfold zOKs at h1
    have h2 := List.all_eq_true.mp h1 (pc, r) hm
    exact h2
end
section
/-- the code of each method is among the words -/
def zCd (y : Nat) : Prop := Cond.code (zN y) (zB y) (zL y) (zRt y) ∈ lw_tbl
set_option maxRecDepth 20000 in
theorem zCd0 : zCd 0 := List.mem_of_getElem? (i := 202) rfl
set_option maxRecDepth 20000 in
theorem zCd1 : zCd 1 := List.mem_of_getElem? (i := 336) rfl
set_option maxRecDepth 20000 in
theorem zCd2 : zCd 2 := List.mem_of_getElem? (i := 756) rfl
set_option maxRecDepth 20000 in
theorem zCd3 : zCd 3 := List.mem_of_getElem? (i := 114) rfl
set_option maxRecDepth 20000 in
theorem zCd4 : zCd 4 := List.mem_of_getElem? (i := 378) rfl
set_option maxRecDepth 20000 in
theorem zCd5 : zCd 5 := List.mem_of_getElem? (i := 481) rfl
set_option maxRecDepth 20000 in
theorem zCd6 : zCd 6 := List.mem_of_getElem? (i := 428) rfl
set_option maxRecDepth 20000 in
theorem zCd7 : zCd 7 := List.mem_of_getElem? (i := 437) rfl
set_option maxRecDepth 20000 in
theorem zCd8 : zCd 8 := List.mem_of_getElem? (i := 461) rfl
set_option maxRecDepth 20000 in
theorem zCd9 : zCd 9 := List.mem_of_getElem? (i := 530) rfl
set_option maxRecDepth 20000 in
theorem zCd10 : zCd 10 := List.mem_of_getElem? (i := 465) rfl
set_option maxRecDepth 20000 in
theorem zCd11 : zCd 11 := List.mem_of_getElem? (i := 351) rfl
set_option maxRecDepth 20000 in
theorem zCd12 : zCd 12 := List.mem_of_getElem? (i := 493) rfl
set_option maxRecDepth 20000 in
theorem zCd13 : zCd 13 := List.mem_of_getElem? (i := 457) rfl
set_option maxRecDepth 20000 in
theorem zCd14 : zCd 14 := List.mem_of_getElem? (i := 634) rfl
set_option maxRecDepth 20000 in
theorem zCd15 : zCd 15 := List.mem_of_getElem? (i := 453) rfl
set_option maxRecDepth 20000 in
theorem zCd16 : zCd 16 := List.mem_of_getElem? (i := 489) rfl
set_option maxRecDepth 20000 in
theorem zCd17 : zCd 17 := List.mem_of_getElem? (i := 622) rfl
set_option maxRecDepth 20000 in
theorem zCd18 : zCd 18 := List.mem_of_getElem? (i := 719) rfl
set_option maxRecDepth 20000 in
theorem zCd19 : zCd 19 := List.mem_of_getElem? (i := 510) rfl
set_option maxRecDepth 20000 in
theorem zCd20 : zCd 20 := List.mem_of_getElem? (i := 505) rfl
set_option maxRecDepth 20000 in
theorem zCd21 : zCd 21 := List.mem_of_getElem? (i := 501) rfl
set_option maxRecDepth 20000 in
theorem zCd22 : zCd 22 := List.mem_of_getElem? (i := 630) rfl
set_option maxRecDepth 20000 in
theorem zCd23 : zCd 23 := List.mem_of_getElem? (i := 657) rfl
set_option maxRecDepth 20000 in
theorem zCd24 : zCd 24 := List.mem_of_getElem? (i := 671) rfl
set_option maxRecDepth 20000 in
theorem zCd25 : zCd 25 := List.mem_of_getElem? (i := 518) rfl
set_option maxRecDepth 20000 in
theorem zCd26 : zCd 26 := List.mem_of_getElem? (i := 649) rfl
set_option maxRecDepth 20000 in
theorem zCd27 : zCd 27 := List.mem_of_getElem? (i := 653) rfl
set_option maxRecDepth 20000 in
theorem zCd28 : zCd 28 := List.mem_of_getElem? (i := 728) rfl
set_option maxRecDepth 20000 in
theorem zCd29 : zCd 29 := List.mem_of_getElem? (i := 584) rfl
set_option maxRecDepth 20000 in
theorem zCd30 : zCd 30 := List.mem_of_getElem? (i := 588) rfl
set_option maxRecDepth 20000 in
theorem zCd31 : zCd 31 := List.mem_of_getElem? (i := 601) rfl
set_option maxRecDepth 20000 in
theorem zCd32 : zCd 32 := List.mem_of_getElem? (i := 593) rfl
set_option maxRecDepth 20000 in
theorem zCd33 : zCd 33 := List.mem_of_getElem? (i := 597) rfl
set_option maxRecDepth 20000 in
theorem zCd34 : zCd 34 := List.mem_of_getElem? (i := 240) rfl
set_option maxRecDepth 20000 in
theorem zCd35 : zCd 35 := List.mem_of_getElem? (i := 386) rfl
set_option maxRecDepth 20000 in
theorem zCd36 : zCd 36 := List.mem_of_getElem? (i := 332) rfl
set_option maxRecDepth 20000 in
theorem zCd37 : zCd 37 := List.mem_of_getElem? (i := 328) rfl
set_option maxRecDepth 20000 in
theorem zCd38 : zCd 38 := List.mem_of_getElem? (i := 324) rfl
set_option maxRecDepth 20000 in
theorem zCd39 : zCd 39 := List.mem_of_getElem? (i := 735) rfl
set_option maxRecDepth 20000 in
theorem zCd40 : zCd 40 := List.mem_of_getElem? (i := 740) rfl
set_option maxRecDepth 20000 in
theorem zCd41 : zCd 41 := List.mem_of_getElem? (i := 256) rfl
set_option maxRecDepth 20000 in
theorem zCd42 : zCd 42 := List.mem_of_getElem? (i := 401) rfl
set_option maxRecDepth 20000 in
theorem zCd43 : zCd 43 := List.mem_of_getElem? (i := 406) rfl
set_option maxRecDepth 20000 in
theorem zCd44 : zCd 44 := List.mem_of_getElem? (i := 416) rfl
set_option maxRecDepth 20000 in
theorem zCd45 : zCd 45 := List.mem_of_getElem? (i := 420) rfl
set_option maxRecDepth 20000 in
theorem zCd46 : zCd 46 := List.mem_of_getElem? (i := 441) rfl
set_option maxRecDepth 20000 in
theorem zCd47 : zCd 47 := List.mem_of_getElem? (i := 424) rfl
set_option maxRecDepth 20000 in
theorem zCd48 : zCd 48 := List.mem_of_getElem? (i := 432) rfl
set_option maxRecDepth 20000 in
theorem zCd49 : zCd 49 := List.mem_of_getElem? (i := 410) rfl
set_option maxRecDepth 20000 in
theorem zCd50 : zCd 50 := List.mem_of_getElem? (i := 88) rfl
set_option maxRecDepth 20000 in
theorem zCd51 : zCd 51 := List.mem_of_getElem? (i := 340) rfl
set_option maxRecDepth 20000 in
theorem zCd52 : zCd 52 := List.mem_of_getElem? (i := 365) rfl
set_option maxRecDepth 20000 in
theorem zCd53 : zCd 53 := List.mem_of_getElem? (i := 449) rfl
set_option maxRecDepth 20000 in
theorem zCd54 : zCd 54 := List.mem_of_getElem? (i := 445) rfl
set_option maxRecDepth 20000 in
theorem zCd55 : zCd 55 := List.mem_of_getElem? (i := 497) rfl
set_option maxRecDepth 20000 in
theorem zCd56 : zCd 56 := List.mem_of_getElem? (i := 526) rfl
set_option maxRecDepth 20000 in
theorem zCd57 : zCd 57 := List.mem_of_getElem? (i := 485) rfl
set_option maxRecDepth 20000 in
theorem zCd58 : zCd 58 := List.mem_of_getElem? (i := 538) rfl
set_option maxRecDepth 20000 in
theorem zCd59 : zCd 59 := List.mem_of_getElem? (i := 542) rfl
set_option maxRecDepth 20000 in
theorem zCd60 : zCd 60 := List.mem_of_getElem? (i := 572) rfl
set_option maxRecDepth 20000 in
theorem zCd61 : zCd 61 := List.mem_of_getElem? (i := 222) rfl
set_option maxRecDepth 20000 in
theorem zCd62 : zCd 62 := List.mem_of_getElem? (i := 763) rfl
set_option maxRecDepth 20000 in
theorem zCd63 : zCd 63 := List.mem_of_getElem? (i := 767) rfl
set_option maxRecDepth 20000 in
theorem zCd64 : zCd 64 := List.mem_of_getElem? (i := 94) rfl
set_option maxRecDepth 20000 in
theorem zCd65 : zCd 65 := List.mem_of_getElem? (i := 369) rfl
set_option maxRecDepth 20000 in
theorem zCd66 : zCd 66 := List.mem_of_getElem? (i := 374) rfl
set_option maxRecDepth 20000 in
theorem zCd67 : zCd 67 := List.mem_of_getElem? (i := 609) rfl
set_option maxRecDepth 20000 in
theorem zCd68 : zCd 68 := List.mem_of_getElem? (i := 344) rfl
set_option maxRecDepth 20000 in
theorem zCd69 : zCd 69 := List.mem_of_getElem? (i := 166) rfl
set_option maxRecDepth 20000 in
theorem zCd70 : zCd 70 := List.mem_of_getElem? (i := 382) rfl
set_option maxRecDepth 20000 in
theorem zCd71 : zCd 71 := List.mem_of_getElem? (i := 675) rfl
set_option maxRecDepth 20000 in
theorem zCd72 : zCd 72 := List.mem_of_getElem? (i := 684) rfl
set_option maxRecDepth 20000 in
theorem zCd73 : zCd 73 := List.mem_of_getElem? (i := 580) rfl
set_option maxRecDepth 20000 in
theorem zCd74 : zCd 74 := List.mem_of_getElem? (i := 689) rfl
set_option maxRecDepth 20000 in
theorem zCd75 : zCd 75 := List.mem_of_getElem? (i := 701) rfl
set_option maxRecDepth 20000 in
theorem zCd76 : zCd 76 := List.mem_of_getElem? (i := 694) rfl
set_option maxRecDepth 20000 in
theorem zCd77 : zCd 77 := List.mem_of_getElem? (i := 710) rfl
set_option maxRecDepth 20000 in
theorem zCd78 : zCd 78 := List.mem_of_getElem? (i := 356) rfl
set_option maxRecDepth 20000 in
theorem zCd79 : zCd 79 := List.mem_of_getElem? (i := 272) rfl
set_option maxRecDepth 20000 in
theorem zCd80 : zCd 80 := List.mem_of_getElem? (i := 576) rfl
set_option maxRecDepth 20000 in
theorem zCd81 : zCd 81 := List.mem_of_getElem? (i := 552) rfl
set_option maxRecDepth 20000 in
theorem zCd82 : zCd 82 := List.mem_of_getElem? (i := 618) rfl
set_option maxRecDepth 20000 in
theorem zCd83 : zCd 83 := List.mem_of_getElem? (i := 556) rfl
set_option maxRecDepth 20000 in
theorem zCd84 : zCd 84 := List.mem_of_getElem? (i := 560) rfl
set_option maxRecDepth 20000 in
theorem zCd85 : zCd 85 := List.mem_of_getElem? (i := 564) rfl
set_option maxRecDepth 20000 in
theorem zCd86 : zCd 86 := List.mem_of_getElem? (i := 568) rfl
set_option maxRecDepth 20000 in
theorem zCd87 : zCd 87 := List.mem_of_getElem? (i := 80) rfl
set_option maxRecDepth 20000 in
theorem zCd88 : zCd 88 := List.mem_of_getElem? (i := 320) rfl
set_option maxRecDepth 20000 in
theorem zCd89 : zCd 89 := List.mem_of_getElem? (i := 390) rfl
set_option maxRecDepth 20000 in
theorem zCd90 : zCd 90 := List.mem_of_getElem? (i := 397) rfl
set_option maxRecDepth 20000 in
theorem zCd91 : zCd 91 := List.mem_of_getElem? (i := 469) rfl
set_option maxRecDepth 20000 in
theorem zCd92 : zCd 92 := List.mem_of_getElem? (i := 477) rfl
set_option maxRecDepth 20000 in
theorem zCd93 : zCd 93 := List.mem_of_getElem? (i := 514) rfl
set_option maxRecDepth 20000 in
theorem zCd94 : zCd 94 := List.mem_of_getElem? (i := 522) rfl
set_option maxRecDepth 20000 in
theorem zCd95 : zCd 95 := List.mem_of_getElem? (i := 534) rfl
set_option maxRecDepth 20000 in
theorem zCd96 : zCd 96 := List.mem_of_getElem? (i := 548) rfl
set_option maxRecDepth 20000 in
theorem zCd97 : zCd 97 := List.mem_of_getElem? (i := 605) rfl
set_option maxRecDepth 20000 in
theorem zCd98 : zCd 98 := List.mem_of_getElem? (i := 614) rfl
set_option maxRecDepth 20000 in
theorem zCd99 : zCd 99 := List.mem_of_getElem? (i := 626) rfl
set_option maxRecDepth 20000 in
theorem zCd100 : zCd 100 := List.mem_of_getElem? (i := 639) rfl
set_option maxRecDepth 20000 in
theorem zCd101 : zCd 101 := List.mem_of_getElem? (i := 645) rfl
set_option maxRecDepth 20000 in
theorem zCd102 : zCd 102 := List.mem_of_getElem? (i := 666) rfl
set_option maxRecDepth 20000 in
theorem zCd103 : zCd 103 := List.mem_of_getElem? (i := 680) rfl
set_option maxRecDepth 20000 in
theorem zCd104 : zCd 104 := List.mem_of_getElem? (i := 706) rfl
set_option maxRecDepth 20000 in
theorem zCd105 : zCd 105 := List.mem_of_getElem? (i := 714) rfl
set_option maxRecDepth 20000 in
theorem zCd106 : zCd 106 := List.mem_of_getElem? (i := 723) rfl
set_option maxRecDepth 20000 in
theorem zCd107 : zCd 107 := List.mem_of_getElem? (i := 732) rfl
set_option maxRecDepth 20000 in
theorem zCd108 : zCd 108 := List.mem_of_getElem? (i := 744) rfl
set_option maxRecDepth 20000 in
theorem zCd109 : zCd 109 := List.mem_of_getElem? (i := 748) rfl
set_option maxRecDepth 20000 in
theorem zCd110 : zCd 110 := List.mem_of_getElem? (i := 752) rfl
set_option maxRecDepth 20000 in
theorem zCd111 : zCd 111 := List.mem_of_getElem? (i := 760) rfl
set_option maxRecDepth 20000 in
theorem zCd112 : zCd 112 := List.mem_of_getElem? (i := 772) rfl
set_option maxRecDepth 20000 in
theorem zCd113 : zCd 113 := List.mem_of_getElem? (i := 393) rfl
set_option maxRecDepth 20000 in
theorem zCd114 : zCd 114 := List.mem_of_getElem? (i := 662) rfl
set_option maxRecDepth 20000 in
theorem zCd115 : zCd 115 := List.mem_of_getElem? (i := 778) rfl
set_option maxRecDepth 20000 in
theorem zCd116 : zCd 116 := List.mem_of_getElem? (i := 844) rfl
set_option maxRecDepth 20000 in
theorem zCd117 : zCd 117 := List.mem_of_getElem? (i := 903) rfl
set_option maxRecDepth 20000 in
theorem zCd118 : zCd 118 := List.mem_of_getElem? (i := 895) rfl
set_option maxRecDepth 20000 in
theorem zCd119 : zCd 119 := List.mem_of_getElem? (i := 927) rfl
set_option maxRecDepth 20000 in
theorem zCd120 : zCd 120 := List.mem_of_getElem? (i := 855) rfl
set_option maxRecDepth 20000 in
theorem zCd121 : zCd 121 := List.mem_of_getElem? (i := 848) rfl
set_option maxRecDepth 20000 in
theorem zCd122 : zCd 122 := List.mem_of_getElem? (i := 1083) rfl
set_option maxRecDepth 20000 in
theorem zCd123 : zCd 123 := List.mem_of_getElem? (i := 1087) rfl
set_option maxRecDepth 20000 in
theorem zCd124 : zCd 124 := List.mem_of_getElem? (i := 907) rfl
set_option maxRecDepth 20000 in
theorem zCd125 : zCd 125 := List.mem_of_getElem? (i := 1035) rfl
set_option maxRecDepth 20000 in
theorem zCd126 : zCd 126 := List.mem_of_getElem? (i := 935) rfl
set_option maxRecDepth 20000 in
theorem zCd127 : zCd 127 := List.mem_of_getElem? (i := 943) rfl
set_option maxRecDepth 20000 in
theorem zCd128 : zCd 128 := List.mem_of_getElem? (i := 939) rfl
set_option maxRecDepth 20000 in
theorem zCd129 : zCd 129 := List.mem_of_getElem? (i := 995) rfl
set_option maxRecDepth 20000 in
theorem zCd130 : zCd 130 := List.mem_of_getElem? (i := 991) rfl
set_option maxRecDepth 20000 in
theorem zCd131 : zCd 131 := List.mem_of_getElem? (i := 999) rfl
set_option maxRecDepth 20000 in
theorem zCd132 : zCd 132 := List.mem_of_getElem? (i := 987) rfl
set_option maxRecDepth 20000 in
theorem zCd133 : zCd 133 := List.mem_of_getElem? (i := 983) rfl
set_option maxRecDepth 20000 in
theorem zCd134 : zCd 134 := List.mem_of_getElem? (i := 1023) rfl
set_option maxRecDepth 20000 in
theorem zCd135 : zCd 135 := List.mem_of_getElem? (i := 1019) rfl
set_option maxRecDepth 20000 in
theorem zCd136 : zCd 136 := List.mem_of_getElem? (i := 841) rfl
set_option maxRecDepth 20000 in
theorem zCd137 : zCd 137 := List.mem_of_getElem? (i := 852) rfl
set_option maxRecDepth 20000 in
theorem zCd138 : zCd 138 := List.mem_of_getElem? (i := 899) rfl
set_option maxRecDepth 20000 in
theorem zCd139 : zCd 139 := List.mem_of_getElem? (i := 911) rfl
set_option maxRecDepth 20000 in
theorem zCd140 : zCd 140 := List.mem_of_getElem? (i := 919) rfl
set_option maxRecDepth 20000 in
theorem zCd141 : zCd 141 := List.mem_of_getElem? (i := 891) rfl
set_option maxRecDepth 20000 in
theorem zCd142 : zCd 142 := List.mem_of_getElem? (i := 859) rfl
set_option maxRecDepth 20000 in
theorem zCd143 : zCd 143 := List.mem_of_getElem? (i := 915) rfl
set_option maxRecDepth 20000 in
theorem zCd144 : zCd 144 := List.mem_of_getElem? (i := 931) rfl
set_option maxRecDepth 20000 in
theorem zCd145 : zCd 145 := List.mem_of_getElem? (i := 947) rfl
set_option maxRecDepth 20000 in
theorem zCd146 : zCd 146 := List.mem_of_getElem? (i := 923) rfl
set_option maxRecDepth 20000 in
theorem zCd147 : zCd 147 := List.mem_of_getElem? (i := 955) rfl
set_option maxRecDepth 20000 in
theorem zCd148 : zCd 148 := List.mem_of_getElem? (i := 951) rfl
set_option maxRecDepth 20000 in
theorem zCd149 : zCd 149 := List.mem_of_getElem? (i := 963) rfl
set_option maxRecDepth 20000 in
theorem zCd150 : zCd 150 := List.mem_of_getElem? (i := 959) rfl
set_option maxRecDepth 20000 in
theorem zCd151 : zCd 151 := List.mem_of_getElem? (i := 975) rfl
set_option maxRecDepth 20000 in
theorem zCd152 : zCd 152 := List.mem_of_getElem? (i := 971) rfl
set_option maxRecDepth 20000 in
theorem zCd153 : zCd 153 := List.mem_of_getElem? (i := 967) rfl
set_option maxRecDepth 20000 in
theorem zCd154 : zCd 154 := List.mem_of_getElem? (i := 1007) rfl
set_option maxRecDepth 20000 in
theorem zCd155 : zCd 155 := List.mem_of_getElem? (i := 1003) rfl
set_option maxRecDepth 20000 in
theorem zCd156 : zCd 156 := List.mem_of_getElem? (i := 979) rfl
set_option maxRecDepth 20000 in
theorem zCd157 : zCd 157 := List.mem_of_getElem? (i := 1011) rfl
set_option maxRecDepth 20000 in
theorem zCd158 : zCd 158 := List.mem_of_getElem? (i := 1015) rfl
set_option maxRecDepth 20000 in
theorem zCd159 : zCd 159 := List.mem_of_getElem? (i := 1031) rfl
set_option maxRecDepth 20000 in
theorem zCd160 : zCd 160 := List.mem_of_getElem? (i := 1027) rfl
set_option maxRecDepth 20000 in
theorem zCd161 : zCd 161 := List.mem_of_getElem? (i := 1039) rfl
set_option maxRecDepth 20000 in
theorem zCd162 : zCd 162 := List.mem_of_getElem? (i := 1047) rfl
set_option maxRecDepth 20000 in
theorem zCd163 : zCd 163 := List.mem_of_getElem? (i := 1043) rfl
set_option maxRecDepth 20000 in
theorem zCd164 : zCd 164 := List.mem_of_getElem? (i := 1055) rfl
set_option maxRecDepth 20000 in
theorem zCd165 : zCd 165 := List.mem_of_getElem? (i := 1051) rfl
set_option maxRecDepth 20000 in
theorem zCd166 : zCd 166 := List.mem_of_getElem? (i := 1063) rfl
set_option maxRecDepth 20000 in
theorem zCd167 : zCd 167 := List.mem_of_getElem? (i := 1059) rfl
set_option maxRecDepth 20000 in
theorem zCd168 : zCd 168 := List.mem_of_getElem? (i := 1071) rfl
set_option maxRecDepth 20000 in
theorem zCd169 : zCd 169 := List.mem_of_getElem? (i := 1067) rfl
set_option maxRecDepth 20000 in
theorem zCd170 : zCd 170 := List.mem_of_getElem? (i := 1075) rfl
set_option maxRecDepth 20000 in
theorem zCd171 : zCd 171 := List.mem_of_getElem? (i := 1079) rfl
set_option maxRecDepth 20000 in
theorem zCd172 : zCd 172 := List.mem_of_getElem? (i := 1091) rfl
set_option maxRecDepth 20000 in
theorem zCd173 : zCd 173 := List.mem_of_getElem? (i := 1096) rfl
set_option maxRecDepth 20000 in
theorem zCd174 : zCd 174 := List.mem_of_getElem? (i := 875) rfl
set_option maxRecDepth 20000 in
theorem zCd175 : zCd 175 := List.mem_of_getElem? (i := 883) rfl
set_option maxRecDepth 20000 in
theorem zCd176 : zCd 176 := List.mem_of_getElem? (i := 871) rfl
set_option maxRecDepth 20000 in
theorem zCd177 : zCd 177 := List.mem_of_getElem? (i := 879) rfl
set_option maxRecDepth 20000 in
theorem zCd178 : zCd 178 := List.mem_of_getElem? (i := 887) rfl
set_option maxRecDepth 20000 in
theorem zCd179 : zCd 179 := List.mem_of_getElem? (i := 867) rfl
set_option maxRecDepth 20000 in
theorem zCd180 : zCd 180 := List.mem_of_getElem? (i := 863) rfl
set_option maxRecDepth 20000 in
theorem zCd181 : zCd 181 := List.mem_of_getElem? (i := 1100) rfl
set_option maxRecDepth 20000 in
theorem zCd182 : zCd 182 := List.mem_of_getElem? (i := 1104) rfl
set_option maxRecDepth 20000 in
theorem zCd183 : zCd 183 := List.mem_of_getElem? (i := 1108) rfl
set_option maxRecDepth 20000 in
theorem zCd184 : zCd 184 := List.mem_of_getElem? (i := 1112) rfl
set_option maxRecDepth 20000 in
theorem zCd185 : zCd 185 := List.mem_of_getElem? (i := 697) rfl
def zEv (P : Nat → Prop) : Nat → Nat → Prop
  | _, 0 => True
  | k, n + 1 => P k ∧ zEv P (k + 1) n
theorem zEv_get (P : Nat → Prop) : ∀ (n k y : Nat), zEv P k n → y < n → P (k + y)
  | 0, _, _, _, h => absurd h (Nat.not_lt_zero _)
  | n + 1, k, 0, h, _ => h.1
  | n + 1, k, y + 1, h, hy => by
    have h1 := zEv_get P n (k + 1) y h.2 (Nat.lt_of_succ_lt_succ hy)
    rw [show k + (y + 1) = k + 1 + y by omega]
    exact h1
set_option maxRecDepth 20000 in
theorem zCd_all : zEv zCd 0 186 := ⟨zCd0, zCd1, zCd2, zCd3, zCd4, zCd5, zCd6, zCd7, zCd8, zCd9, zCd10, zCd11, zCd12, zCd13, zCd14, zCd15, zCd16, zCd17, zCd18, zCd19, zCd20, zCd21, zCd22, zCd23, zCd24, zCd25, zCd26, zCd27, zCd28, zCd29, zCd30, zCd31, zCd32, zCd33, zCd34, zCd35, zCd36, zCd37, zCd38, zCd39, zCd40, zCd41, zCd42, zCd43, zCd44, zCd45, zCd46, zCd47, zCd48, zCd49, zCd50, zCd51, zCd52, zCd53, zCd54, zCd55, zCd56, zCd57, zCd58, zCd59, zCd60, zCd61, zCd62, zCd63, zCd64, zCd65, zCd66, zCd67, zCd68, zCd69, zCd70, zCd71, zCd72, zCd73, zCd74, zCd75, zCd76, zCd77, zCd78, zCd79, zCd80, zCd81, zCd82, zCd83, zCd84, zCd85, zCd86, zCd87, zCd88, zCd89, zCd90, zCd91, zCd92, zCd93, zCd94, zCd95, zCd96, zCd97, zCd98, zCd99, zCd100, zCd101, zCd102, zCd103, zCd104, zCd105, zCd106, zCd107, zCd108, zCd109, zCd110, zCd111, zCd112, zCd113, zCd114, zCd115, zCd116, zCd117, zCd118, zCd119, zCd120, zCd121, zCd122, zCd123, zCd124, zCd125, zCd126, zCd127, zCd128, zCd129, zCd130, zCd131, zCd132, zCd133, zCd134, zCd135, zCd136, zCd137, zCd138, zCd139, zCd140, zCd141, zCd142, zCd143, zCd144, zCd145, zCd146, zCd147, zCd148, zCd149, zCd150, zCd151, zCd152, zCd153, zCd154, zCd155, zCd156, zCd157, zCd158, zCd159, zCd160, zCd161, zCd162, zCd163, zCd164, zCd165, zCd166, zCd167, zCd168, zCd169, zCd170, zCd171, zCd172, zCd173, zCd174, zCd175, zCd176, zCd177, zCd178, zCd179, zCd180, zCd181, zCd182, zCd183, zCd184, zCd185, trivial⟩
theorem zCd_ok {y : Nat} (h : y < 186) : zCd y := by
  have h1 := zEv_get zCd 186 0 y zCd_all h
  rwa [Nat.zero_add] at h1
end
section
/-! THE PURE MACHINE IS SOUND, part 1: the world of a memory, and what each kind of access does to it -/
def zTT : List Cond := lw_tbl.filter goodWord
theorem zTT_mem {c : Cond} {w : Nat} (h : zw w c = true) (g : goodWord c = true) : c ∈ zTT := List.mem_filter.mpr ⟨List.mem_of_getElem? (of_decide_eq_true h), g⟩
theorem zTT_in {c : Cond} (h : c ∈ lw_tbl) (g : goodWord c = true) : c ∈ zTT := List.mem_filter.mpr ⟨h, g⟩
theorem zw_in {c : Cond} {w : Nat} (h : zw w c = true) : c ∈ lw_tbl := List.mem_of_getElem? (of_decide_eq_true h)
/-- the words of nest mates, and that of arrays of sheets: they are carried beside the others -/
def zNest (w : Cond) : Bool := match w with
  | .fieldLinkNest .. => true
  | .methodLinkNest .. => true
  | _ => false
def zNW (U : State) : Prop := (∀ w ∈ lw_tbl, zNest w = true → va_Nw w U) ∧ va_AO "FiveInks$Sheet" U
theorem zNW_same {u U : State} (h : u.vm = U.vm) (z : zNW u) : zNW U := by
  refine ⟨fun w hw hn => ?_, va_AO.moved (h ▸ Vm.Alike.refl u.vm) z.2⟩
  have h1 := z.1 w hw hn
  cases w <;> first | exact va_Nw.same rfl h h1 | cases hn
theorem zNW_warm {u U : State} (h : u.WarmedH U.vm) (z : zNW u) : zNW U := by
  refine ⟨fun w hw hn => ?_, va_AO.moved h.alike z.2⟩
  have h1 := z.1 w hw hn
  cases w <;> first | exact va_Nw.warmF h h1 | exact va_Nw.warmM h h1 | cases hn
abbrev zTy (cA : Nat → ClassId) : List (ClassId × FieldType) := [(cA 0, .int), (cA 1, .boolean), (cA 2, .object "FiveInks$Sheet")]
def zad (b h0 : Nat) (t : Nat) : Nat := if t = 0 then b else h0 + t
theorem zad_ne {b h0 t : Nat} (h : t ≠ 0) : zad b h0 t = h0 + t := if_neg h
def zv (b h0 : Nat) (v : Value) : Value := match v with
  | .ref k => .ref (zad b h0 k)
  | v => v
def zAf (h0 : Nat) : Nat → Prop := fun q => h0 < q
def zrf (h0 k : Nat) : Option Nat := if k = 0 then none else some (h0 + k)
def zfv (h0 : Nat) (c : Nat) (m : zM) (t k : Nat) : Value := if zFk c k = 2 then va_rf (zrf h0 (zRf m t k)) else .int (zI m t k)
def zent (cA : Nat → ClassId) (h0 : Nat) (m : zM) (t : Nat) : va_E := match zKi m t with
  | 0 => .inl (cA 0, zLe m t, .inl (zI m t))
  | 1 => .inl (cA 1, zLe m t, .inl (zI m t))
  | 2 => .inl (cA 2, zLe m t, .inr (.inr (.inr (.inr (fun j => zrf h0 (zRf m t j))))))
  | c + 3 => .inr (c, (List.range (zLe m t)).map (zfv h0 c m t))
def zwl (cA : Nat → ClassId) (h0 : Nat) (m : zM) : va_W := (List.range (m.2.1.length - 1)).map fun k => (h0 + (k + 1), zent cA h0 m (k + 1))
theorem zKi_lt {m : zM} {t c : Nat} (h : zKi m t = c) (hc : c ≠ 50) : t < m.2.1.length := by
  rcases Nat.lt_or_ge t m.2.1.length with q | q
  · exact q
  · unfold zKi at h
    rw [List.getD_eq_getElem?_getD, List.getElem?_eq_none q] at h
    exact absurd h.symm hc
theorem zwl_get {cA : Nat → ClassId} {h0 : Nat} {m : zM} {t c : Nat} (ht : t ≠ 0) (h : zKi m t = c) (hc : c ≠ 50) : (zwl cA h0 m)[t - 1]? = some (h0 + t, zent cA h0 m t) := by
  have h1 := zKi_lt h hc
  unfold zwl
  rw [List.getElem?_map, List.getElem?_range (by omega)]
  show some (h0 + (t - 1 + 1), zent cA h0 m (t - 1 + 1)) = _
  rw [show t - 1 + 1 = t by omega]
theorem zwl_D (cA : Nat → ClassId) (h0 : Nat) (m : zM) : va_D (zAf h0) (zwl cA h0 m) := by
  have hk : ∀ (k : Nat) (q : Nat × va_E), (zwl cA h0 m)[k]? = some q → q.1 = h0 + (k + 1) := by
    intro k q h
    unfold zwl at h
    rw [List.getElem?_map] at h
    cases e : (List.range (m.2.1.length - 1))[k]? with
    | none => rw [e] at h; cases h
    | some i =>
      rw [e] at h
      have hi : k = i := by
        have h2 := List.getElem?_eq_some_iff.mp e
        obtain ⟨h3, h4⟩ := h2
        simpa using h4
      have h5 := (Option.some.inj h).symm
      rw [h5, ← hi]
  refine ⟨fun i j p q hi hj e => ?_, fun k q h => ?_⟩
  · rw [hk i p hi, hk j q hj] at e
    omega
  · show h0 < q.1
    rw [hk k q h]
    omega
/-- a cell changes: the rest stays -/
theorem zwl_set {cA : Nat → ClassId} {h0 : Nat} {m m' : zM} {t : Nat} {e : va_E} (ht : t ≠ 0) (hl : m'.2.1.length = m.2.1.length) (he : zent cA h0 m' t = e) (ho : ∀ j, j ≠ t → zent cA h0 m' j = zent cA h0 m j) : (zwl cA h0 m).set (t - 1) (h0 + t, e) = zwl cA h0 m' := by
  apply List.ext_getElem?
  intro k
  unfold zwl
  rw [hl]
  by_cases hk : k < m.2.1.length - 1
  · rw [List.getElem?_map, List.getElem?_range hk]
    by_cases hq : t - 1 = k
    · rw [← hq, List.getElem?_set_self (by simp; omega)]
      show some (h0 + t, e) = some (h0 + (t - 1 + 1), zent cA h0 m' (t - 1 + 1))
      rw [show t - 1 + 1 = t by omega, he]
    · rw [List.getElem?_set_ne hq, List.getElem?_map, List.getElem?_range hk]
      show some (h0 + (k + 1), zent cA h0 m (k + 1)) = some (h0 + (k + 1), zent cA h0 m' (k + 1))
      rw [ho (k + 1) (by omega)]
  · rw [List.getElem?_eq_none (by simp; omega), List.getElem?_eq_none (by simp; omega)]
theorem zent_0 {cA : Nat → ClassId} {h0 : Nat} {m : zM} {t : Nat} (h : zKi m t = 0) : zent cA h0 m t = .inl (cA 0, zLe m t, .inl (zI m t)) := by unfold zent; rw [h]
theorem zent_1 {cA : Nat → ClassId} {h0 : Nat} {m : zM} {t : Nat} (h : zKi m t = 1) : zent cA h0 m t = .inl (cA 1, zLe m t, .inl (zI m t)) := by unfold zent; rw [h]
theorem zent_2 {cA : Nat → ClassId} {h0 : Nat} {m : zM} {t : Nat} (h : zKi m t = 2) : zent cA h0 m t = .inl (cA 2, zLe m t, .inr (.inr (.inr (.inr (fun j => zrf h0 (zRf m t j)))))) := by unfold zent; rw [h]
theorem zent_3 {cA : Nat → ClassId} {h0 : Nat} {m : zM} {t c : Nat} (h : zKi m t = c + 3) : zent cA h0 m t = .inr (c, (List.range (zLe m t)).map (zfv h0 c m t)) := by unfold zent; rw [h]
theorem zsI_ne {cA : Nat → ClassId} {h0 : Nat} {m : zM} {t j : Nat} {f : Nat → Int32} (h : j ≠ t) : zent cA h0 (zsI m t f) j = zent cA h0 m j := by
  have h1 : zI (zsI m t f) j = zI m j := by unfold zI zsI zup; exact if_neg h
  unfold zent
  rw [show zKi (zsI m t f) j = zKi m j from rfl, show zLe (zsI m t f) j = zLe m j from rfl, h1]
  split <;> first | rfl | skip
  congr 3
  funext k
  unfold zfv
  rw [h1]
  rfl
theorem zsI_self {m : zM} {t : Nat} {f : Nat → Int32} : zI (zsI m t f) t = f := by unfold zI zsI zup; exact if_pos rfl
theorem zsR_rf_ne {m : zM} {t k u j : Nat} (h : j ≠ t) : ∀ i, zRf (zsR m t k u) j i = zRf m j i := by
  intro i
  have e : (m.2.2.2.1.set t ((m.2.2.2.1.getD t []).set k u)).getD j [] = m.2.2.2.1.getD j [] := by
    rw [List.getD_eq_getElem?_getD, List.getElem?_set_ne (Ne.symm h), ← List.getD_eq_getElem?_getD]
  show ((m.2.2.2.1.set t ((m.2.2.2.1.getD t []).set k u)).getD j []).getD i 0 = _
  rw [e]
  rfl
theorem zsR_rf_self {m : zM} {t k u : Nat} (ht : t < m.2.2.2.1.length) (hk : k < (m.2.2.2.1.getD t []).length) : ∀ i, zRf (zsR m t k u) t i = if i = k then u else zRf m t i := by
  intro i
  unfold zRf zsR
  dsimp only
  rw [List.getD_eq_getElem?_getD (l := m.2.2.2.1.set t _), List.getElem?_set_self ht]
  show ((m.2.2.2.1.getD t []).set k u).getD i 0 = _
  rw [List.getD_eq_getElem?_getD]
  by_cases hi : i = k
  · rw [if_pos hi, hi, List.getElem?_set_self hk]
    rfl
  · rw [if_neg hi, List.getElem?_set_ne (fun q => hi q.symm), ← List.getD_eq_getElem?_getD]
theorem zsR_ne {cA : Nat → ClassId} {h0 : Nat} {m : zM} {t k u j : Nat} (h : j ≠ t) : zent cA h0 (zsR m t k u) j = zent cA h0 m j := by
  have h1 := zsR_rf_ne (m := m) (k := k) (u := u) h
  unfold zent
  rw [show zKi (zsR m t k u) j = zKi m j from rfl, show zLe (zsR m t k u) j = zLe m j from rfl, show zI (zsR m t k u) j = zI m j from rfl]
  split <;> first | rfl | skip
  · simp only [h1]
  · congr 3
    funext i
    unfold zfv
    rw [h1 i]
    rfl
/-- a new cell -/
theorem zwl_push {cA : Nat → ClassId} {h0 : Nat} {m : zM} {kd n : Nat} {e : va_E} (hw : zwf m = true) (he : zent cA h0 (zalloc m kd n) m.2.1.length = e) : zwl cA h0 m ++ [(h0 + m.2.1.length, e)] = zwl cA h0 (zalloc m kd n) := by
  unfold zwf at hw
  simp only [Bool.and_eq_true, decide_eq_true_eq] at hw
  obtain ⟨⟨w1, w2⟩, w3⟩ := hw
  have hl : (zalloc m kd n).2.1.length - 1 = (m.2.1.length - 1) + 1 := by
    show (m.2.1 ++ [kd]).length - 1 = _
    rw [List.length_append]
    simp
    omega
  unfold zwl
  rw [hl, List.range_succ, List.map_append]
  congr 1
  · apply List.map_congr_left
    intro k hk
    have hk : k < m.2.1.length - 1 := List.mem_range.mp hk
    have a1 : zKi (zalloc m kd n) (k + 1) = zKi m (k + 1) := by
      show (m.2.1 ++ [kd]).getD (k + 1) 50 = m.2.1.getD (k + 1) 50
      rw [List.getD_eq_getElem?_getD, List.getElem?_append_left (by omega), ← List.getD_eq_getElem?_getD]
    have a2 : zLe (zalloc m kd n) (k + 1) = zLe m (k + 1) := by
      show (m.2.2.1 ++ [n]).getD (k + 1) 0 = m.2.2.1.getD (k + 1) 0
      rw [List.getD_eq_getElem?_getD, List.getElem?_append_left (by omega), ← List.getD_eq_getElem?_getD]
    have a3 : ∀ i, zRf (zalloc m kd n) (k + 1) i = zRf m (k + 1) i := by
      intro i
      show ((m.2.2.2.1 ++ [List.replicate n 0]).getD (k + 1) []).getD i 0 = (m.2.2.2.1.getD (k + 1) []).getD i 0
      rw [List.getD_eq_getElem?_getD (l := m.2.2.2.1 ++ _), List.getElem?_append_left (by omega), ← List.getD_eq_getElem?_getD]
    have a4 : zI (zalloc m kd n) (k + 1) = zI m (k + 1) := by
      show zup m.2.2.2.2 m.2.1.length (fun _ => 0) (k + 1) = _
      exact if_neg (by omega)
    have a5 : zent cA h0 (zalloc m kd n) (k + 1) = zent cA h0 m (k + 1) := by
      unfold zent
      rw [a1, a2, a4]
      split <;> first | rfl | skip
      · simp only [a3]
      · congr 3
        funext i
        unfold zfv
        rw [a3 i, a4]
    rw [a5]
  · show [(h0 + m.2.1.length, e)] = [(h0 + (m.2.1.length - 1 + 1), zent cA h0 (zalloc m kd n) (m.2.1.length - 1 + 1))]
    rw [show m.2.1.length - 1 + 1 = m.2.1.length by omega, he]
theorem zalloc_facts {m : zM} {kd n : Nat} (hw : zwf m = true) : zKi (zalloc m kd n) m.2.1.length = kd ∧ zLe (zalloc m kd n) m.2.1.length = n ∧ (∀ i, zRf (zalloc m kd n) m.2.1.length i = 0) ∧ zI (zalloc m kd n) m.2.1.length = fun _ => 0 := by
  unfold zwf at hw
  simp only [Bool.and_eq_true, decide_eq_true_eq] at hw
  obtain ⟨⟨w1, w2⟩, w3⟩ := hw
  refine ⟨?_, ?_, fun i => ?_, ?_⟩
  · show (m.2.1 ++ [kd]).getD m.2.1.length 50 = kd
    simp
  · show (m.2.2.1 ++ [n]).getD m.2.1.length 0 = n
    rw [← w1]
    simp
  · show ((m.2.2.2.1 ++ [List.replicate n 0]).getD m.2.1.length []).getD i 0 = 0
    rw [← w2]
    simp only [List.getD_eq_getElem?_getD, List.getElem?_concat_length, Option.getD_some]
    cases e : (List.replicate n 0)[i]? with
    | none => rfl
    | some v => exact List.eq_of_mem_replicate (List.mem_of_getElem? e)
  · show zup m.2.2.2.2 m.2.1.length (fun _ => 0) m.2.1.length = _
    exact if_pos rfl
/-- the listed locals, those that nothing is known of left out -/
def zll (b h0 : Nat) : Nat → List Value → List (Nat × Value)
  | _, [] => []
  | k, v :: vs => if v = .null then zll b h0 (k + 1) vs else (k, zv b h0 v) :: zll b h0 (k + 1) vs
theorem zll_mem {b h0 : Nat} : ∀ (ls : List Value) (k j : Nat) (w : Value), (j, w) ∈ zll b h0 k ls ↔ k ≤ j ∧ ∃ v, ls[j - k]? = some v ∧ v ≠ .null ∧ w = zv b h0 v
  | [], k, j, w => by simp [zll]
  | v :: vs, k, j, w => by
    have ih := zll_mem (b := b) (h0 := h0) vs (k + 1) j w
    have key : (k + 1 ≤ j ∧ ∃ u, vs[j - (k + 1)]? = some u ∧ u ≠ .null ∧ w = zv b h0 u) ↔ (k < j ∧ ∃ u, (v :: vs)[j - k]? = some u ∧ u ≠ .null ∧ w = zv b h0 u) := by
      constructor
      · rintro ⟨h1, u, h2, h3⟩
        refine ⟨h1, u, ?_, h3⟩
        rw [show j - k = (j - (k + 1)) + 1 by omega]
        simpa using h2
      · rintro ⟨h1, u, h2, h3⟩
        refine ⟨h1, u, ?_, h3⟩
        rw [show j - k = (j - (k + 1)) + 1 by omega] at h2
        simpa using h2
    unfold zll
    by_cases hv : v = .null
    · rw [if_pos hv, ih, key]
      constructor
      · rintro ⟨h1, h2⟩
        exact ⟨Nat.le_of_lt h1, h2⟩
      · rintro ⟨h1, u, h2, h3, h4⟩
        rcases Nat.lt_or_ge k j with q | q
        · exact ⟨q, u, h2, h3, h4⟩
        · rw [show j - k = 0 by omega] at h2
          have : v = u := by simpa using h2
          exact absurd (this ▸ hv) h3
    · rw [if_neg hv, List.mem_cons, ih, key]
      constructor
      · rintro (h | ⟨h1, h2⟩)
        · cases h
          exact ⟨Nat.le_refl _, v, by simp, hv, rfl⟩
        · exact ⟨Nat.le_of_lt h1, h2⟩
      · rintro ⟨h1, u, h2, h3, h4⟩
        rcases Nat.lt_or_ge k j with q | q
        · exact Or.inr ⟨q, u, h2, h3, h4⟩
        · left
          have hj : j = k := by omega
          subst hj
          rw [Nat.sub_self] at h2
          have : v = u := by simpa using h2
          rw [h4, this]
def zLs (b h0 nL : Nat) (lsC : Array Slot) (ls : List Value) : Prop := lv_has lsC nL (zll b h0 0 ls) ∧ ls.length = nL
theorem zLs_at {b h0 nL : Nat} {lsC : Array Slot} {ls : List Value} (h : zLs b h0 nL lsC ls) {k : Nat} {v : Value} (hk : ls[k]? = some v) (hn : v ≠ .null) : lsC[k]? = some (.val (zv b h0 v)) :=
  h.1.2.2 (k, zv b h0 v) ((zll_mem ls 0 k _).mpr ⟨Nat.zero_le _, v, hk, hn, rfl⟩)
theorem zv_cat (b h0 : Nat) (v : Value) : (zv b h0 v).category = v.category := by cases v <;> rfl
/-- a store of one slot -/
theorem zLs_set {b h0 nL : Nat} {lsC ls' : Array Slot} {ls : List Value} {k : Nat} {v : Value} (h : zLs b h0 nL lsC ls) (hf : zfree ls k = true)
    (h' : lv_has ls' nL ((k, zv b h0 v) :: (zll b h0 0 ls).filter (fun q => !(q.1 == k) && !(q.1 + 1 == k && q.2.category == 2)))) : zLs b h0 nL ls' (ls.set k v) := by
  refine ⟨⟨h'.1, h'.2.1, fun q hq => ?_⟩, by rw [List.length_set]; exact h.2⟩
  obtain ⟨j, w⟩ := q
  obtain ⟨-, u, h1, h2, h3⟩ := (zll_mem _ 0 j w).mp hq
  rw [Nat.sub_zero] at h1
  apply h'.2.2
  by_cases hj : k = j
  · subst hj
    have hl : k < ls.length := by
      have := (List.getElem?_eq_some_iff.mp h1).1
      rwa [List.length_set] at this
    rw [List.getElem?_set_self hl] at h1
    rw [h3, ← Option.some.inj h1]
    exact List.mem_cons_self
  · rw [List.getElem?_set_ne hj] at h1
    refine List.mem_cons_of_mem _ (List.mem_filter.mpr ⟨(zll_mem ls 0 j w).mpr ⟨Nat.zero_le _, u, by rwa [Nat.sub_zero], h2, h3⟩, ?_⟩)
    have a1 : (j == k) = false := by simp; omega
    have a2 : (j + 1 == k && w.category == 2) = false := by
      by_cases e : j + 1 = k
      · subst e
        have : u.category = 1 := by
          unfold zfree at hf
          dsimp only at hf
          rw [h1] at hf
          simpa using hf
        rw [h3, zv_cat, this]
        simp
      · simp [e]
    show (!(j == k) && !(j + 1 == k && w.category == 2)) = true
    rw [a1, a2]
    rfl
theorem zLs_set2 {b h0 nL : Nat} {lsC ls' : Array Slot} {ls : List Value} {k : Nat} {v : Value} (h : zLs b h0 nL lsC ls) (hf : zfree ls k = true) (hk : k + 1 < ls.length)
    (h' : lv_has ls' nL ((k, zv b h0 v) :: (zll b h0 0 ls).filter (fun q => !(q.1 == k) && (!(q.1 == k + 1) && !(q.1 + 1 == k && q.2.category == 2))))) : zLs b h0 nL ls' ((ls.set k v).set (k + 1) .null) := by
  refine ⟨⟨h'.1, h'.2.1, fun q hq => ?_⟩, by rw [List.length_set, List.length_set]; exact h.2⟩
  obtain ⟨j, w⟩ := q
  obtain ⟨-, u, h1, h2, h3⟩ := (zll_mem _ 0 j w).mp hq
  rw [Nat.sub_zero] at h1
  apply h'.2.2
  by_cases hj2 : k + 1 = j
  · subst hj2
    rw [List.getElem?_set_self (by rw [List.length_set]; exact hk)] at h1
    exact absurd (Option.some.inj h1).symm h2
  rw [List.getElem?_set_ne hj2] at h1
  by_cases hj : k = j
  · subst hj
    rw [List.getElem?_set_self (by omega)] at h1
    rw [h3, ← Option.some.inj h1]
    exact List.mem_cons_self
  · rw [List.getElem?_set_ne hj] at h1
    refine List.mem_cons_of_mem _ (List.mem_filter.mpr ⟨(zll_mem ls 0 j w).mpr ⟨Nat.zero_le _, u, by rwa [Nat.sub_zero], h2, h3⟩, ?_⟩)
    have a1 : (j == k) = false := by simp; omega
    have a0 : (j == k + 1) = false := by simp; omega
    have a2 : (j + 1 == k && w.category == 2) = false := by
      by_cases e : j + 1 = k
      · subst e
        have : u.category = 1 := by
          unfold zfree at hf
          dsimp only at hf
          rw [h1] at hf
          simpa using hf
        rw [h3, zv_cat, this]
        simp
      · simp [e]
    show (!(j == k) && (!(j == k + 1) && !(j + 1 == k && w.category == 2))) = true
    rw [a1, a0, a2]
    rfl
end
section
/-! THE PURE MACHINE IS SOUND, part 2: a row for each instruction -/
def zEnv (D : va_G) (cA : Nat → ClassId) (b h0 : Nat) (X : Nat × (Nat → Int32)) (HL : Heap) (U : State) : Prop := va_K D zcl (zTy cA) U ∧ zNW U ∧ va_X b X.1 X.2 U HL ∧ HL.size = h0 + 1 ∧ b ≤ h0
def zCx (D : va_G) (cA : Nat → ClassId) (b h0 : Nat) (X : Nat × (Nat → Int32)) (HL : Heap) (y : Nat) (p : Program) (R : Room) (s : State) (mi : MethodId) (args : Array Value) (meth : Method) (c : Code) : Prop :=
  p.tables.exec = Jvm.exec ∧ c.code = zB y ∧ c.maxLocals = zL y ∧ s.vm.findClass (zOw y) = some mi.cls ∧ (∀ w ∈ zTT, w.before args s = true) ∧ zEnv D cA b h0 X HL s ∧ zF y ≤ R.frames ∧ zO y ≤ R.locals ∧ (zini y = true → meth.name = "<init>")
def zWd (D : va_G) (cA : Nat → ClassId) (h0 : Nat) (HL : Heap) (m : zM) (H : Heap) (locs : List Loc) : Prop := va_P D zcl (zwl cA h0 m) H ∧ va_S (zAf h0) HL H locs
def zSp (D : va_G) (cA : Nat → ClassId) (b h0 : Nat) (X : Nat × (Nat → Int32)) (HL : Heap) (y pc : Nat) (ls st : List Value) (m : zM) (q : Nat × List Value × List Value × zM) : Prop :=
  ∀ (l : Launch) (p : Program) (e : Env) (R : Room) (s : State) (mi : MethodId) (args : Array Value) (below : List Frame) (meth : Method) (c : Code) (H : Heap) (locs : List Loc) (cells slots : Nat) (Q : State → Prop) (lsC : Array Slot),
    zCx D cA b h0 X HL y p R s mi args meth c → zWd D cA h0 HL m H locs → s.heap.size + cells = h0 + m.2.1.length → zLs b h0 (zL y) lsC ls → cells + q.2.2.2.2.1.length ≤ R.cells + m.2.1.length → slots + q.2.2.2.1 ≤ R.slots + m.1 →
    (∀ (H' : Heap) (locs' : List Loc) (lsC' : Array Slot) (cells' slots' : Nat), zWd D cA h0 HL q.2.2.2 H' locs' → zLs b h0 (zL y) lsC' q.2.1 → cells' + m.2.1.length = cells + q.2.2.2.2.1.length → slots' + m.1 = slots + q.2.2.2.1 →
      W p l e R s mi args below meth c H' locs' cells' slots' Q (F0 mi q.1 lsC' (q.2.2.1.map (zv b h0)))) →
    W p l e R s mi args below meth c H locs cells slots Q (F0 mi pc lsC (st.map (zv b h0)))
theorem zgo_inv {pc : Nat} {ls st : List Value} {m : zM} {q : Nat × List Value × List Value × zM} (h : zgo pc ls st m = some (.inl q)) : q = (pc, ls, st, m) := by
  unfold zgo at h
  cases h
  rfl
/-- what the room says of the heap's size -/
theorem zW_size {p : Program} {l : Launch} {e : Env} {R : Room} {s : State} {m : MethodId} {args : Array Value} {below : List Frame} {meth : Method} {c : Code} {H : Heap} {locs : List Loc} {cells slots : Nat} {Q : State → Prop} {g : JFrame}
    (k : H.size ≤ s.heap.size + cells → W p l e R s m args below meth c H locs cells slots Q g) : W p l e R s m args below meth c H locs cells slots Q g := by
  intro T hT X
  have h := X.heapSize
  rw [hT] at h
  exact k h T hT X
theorem zWd_size {D : va_G} {cA : Nat → ClassId} {h0 : Nat} {HL H : Heap} {m : zM} {locs : List Loc} {N : Nat} (hw : zWd D cA h0 HL m H locs) (hH : HL.size = h0 + 1) (hl : 0 < m.2.1.length) (hN : N = h0 + m.2.1.length) (hu : H.size ≤ N) : H.size = h0 + m.2.1.length := by
  have h1 : h0 + 1 ≤ H.size := by rw [← hH]; exact hw.2.1
  by_cases h2 : m.2.1.length = 1
  · omega
  · have h3 : (zwl cA h0 m)[m.2.1.length - 2]? = some (h0 + (m.2.1.length - 2 + 1), zent cA h0 m (m.2.1.length - 2 + 1)) := by
      unfold zwl
      rw [List.getElem?_map, List.getElem?_range (by omega)]
      rfl
    have h4 := (hw.1 _ _ h3).lt
    dsimp only at h4
    omega
section ZS
variable {D : va_G} {cA : Nat → ClassId} {b h0 : Nat} {X : Nat × (Nat → Int32)} {HL : Heap} {y pc n : Nat} {ls st : List Value} {m : zM} {q : Nat × List Value × List Value × zM}
theorem zs_iload_n {k : Fin 4} (hd : decode (zB y) pc = .ok (.iload_n k, 1)) (h : zld k pc 1 ls st m = some (.inl q)) : zSp D cA b h0 X HL y pc ls st m q := by
  unfold zld at h
  split at h
  next x hx =>
    cases zgo_inv h
    intro l p e R s mi args below meth c H locs cells slots Q lsC hc hw hz hl hk1 hk2 k
    exact lv_iload_n hc.1 hc.2.1 hd rfl (zLs_at hl hx (fun z => by cases z)) (k H locs lsC cells slots hw hl rfl rfl)
  next => cases h
theorem zs_iload {k : Nat} (hd : decode (zB y) pc = .ok (.iload k, 2)) (h : zld k pc 2 ls st m = some (.inl q)) : zSp D cA b h0 X HL y pc ls st m q := by
  unfold zld at h
  split at h
  next x hx =>
    cases zgo_inv h
    intro l p e R s mi args below meth c H locs cells slots Q lsC hc hw hz hl hk1 hk2 k
    exact lv_iload hc.1 hc.2.1 hd (zLs_at hl hx (fun z => by cases z)) (k H locs lsC cells slots hw hl rfl rfl)
  next => cases h
theorem zs_lload_n {k : Fin 4} (hd : decode (zB y) pc = .ok (.lload_n k, 1)) (h : zldl k pc 1 ls st m = some (.inl q)) : zSp D cA b h0 X HL y pc ls st m q := by
  unfold zldl at h
  split at h
  next x hx =>
    cases zgo_inv h
    intro l p e R s mi args below meth c H locs cells slots Q lsC hc hw hz hl hk1 hk2 k
    exact lv_lload_n hc.1 hc.2.1 hd rfl (zLs_at hl hx (fun z => by cases z)) (k H locs lsC cells slots hw hl rfl rfl)
  next => cases h
theorem zs_lload {k : Nat} (hd : decode (zB y) pc = .ok (.lload k, 2)) (h : zldl k pc 2 ls st m = some (.inl q)) : zSp D cA b h0 X HL y pc ls st m q := by
  unfold zldl at h
  split at h
  next x hx =>
    cases zgo_inv h
    intro l p e R s mi args below meth c H locs cells slots Q lsC hc hw hz hl hk1 hk2 k
    exact lv_lload hc.1 hc.2.1 hd (zLs_at hl hx (fun z => by cases z)) (k H locs lsC cells slots hw hl rfl rfl)
  next => cases h
theorem zs_aload_n {k : Fin 4} (hd : decode (zB y) pc = .ok (.aload_n k, 1)) (h : zlda k pc 1 ls st m = some (.inl q)) : zSp D cA b h0 X HL y pc ls st m q := by
  unfold zlda at h
  split at h
  next x hx =>
    cases zgo_inv h
    intro l p e R s mi args below meth c H locs cells slots Q lsC hc hw hz hl hk1 hk2 k
    exact lv_aload_n hc.1 hc.2.1 hd rfl (zLs_at hl hx (fun z => by cases z)) (k H locs lsC cells slots hw hl rfl rfl)
  next => cases h
theorem zs_aload {k : Nat} (hd : decode (zB y) pc = .ok (.aload k, 2)) (h : zlda k pc 2 ls st m = some (.inl q)) : zSp D cA b h0 X HL y pc ls st m q := by
  unfold zlda at h
  split at h
  next x hx =>
    cases zgo_inv h
    intro l p e R s mi args below meth c H locs cells slots Q lsC hc hw hz hl hk1 hk2 k
    exact lv_aload hc.1 hc.2.1 hd (zLs_at hl hx (fun z => by cases z)) (k H locs lsC cells slots hw hl rfl rfl)
  next => cases h
theorem zs_istore_n {k : Fin 4} (hd : decode (zB y) pc = .ok (.istore_n k, 1)) (h : zst k pc 1 ls st m = some (.inl q)) : zSp D cA b h0 X HL y pc ls st m q := by
  unfold zst at h
  split at h
  next x st =>
    split at h
    next hf =>
      cases zgo_inv h
      intro l p e R s mi args below meth c H locs cells slots Q lsC hc hw hz hl hk1 hk2 k
      exact lv_istore_n hc.1 hc.2.1 hd rfl hl.1 (hl.2 ▸ hf.1) rfl (fun ls' h' => k H locs ls' cells slots hw (zLs_set (v := .int x) hl hf.2 h') rfl rfl)
    next => cases h
  next => cases h
theorem zs_istore {k : Nat} (hd : decode (zB y) pc = .ok (.istore k, 2)) (h : zst k pc 2 ls st m = some (.inl q)) : zSp D cA b h0 X HL y pc ls st m q := by
  unfold zst at h
  split at h
  next x st =>
    split at h
    next hf =>
      cases zgo_inv h
      intro l p e R s mi args below meth c H locs cells slots Q lsC hc hw hz hl hk1 hk2 k
      exact lv_istore hc.1 hc.2.1 hd hl.1 (hl.2 ▸ hf.1) rfl (fun ls' h' => k H locs ls' cells slots hw (zLs_set (v := .int x) hl hf.2 h') rfl rfl)
    next => cases h
  next => cases h
theorem zs_astore_n {k : Fin 4} (hd : decode (zB y) pc = .ok (.astore_n k, 1)) (h : zsta k pc 1 ls st m = some (.inl q)) : zSp D cA b h0 X HL y pc ls st m q := by
  unfold zsta at h
  split at h
  next x st =>
    split at h
    next hf =>
      cases zgo_inv h
      intro l p e R s mi args below meth c H locs cells slots Q lsC hc hw hz hl hk1 hk2 k
      exact lv_astore_n hc.1 hc.2.1 hd rfl hl.1 (hl.2 ▸ hf.1) rfl (fun ls' h' => k H locs ls' cells slots hw (zLs_set (v := .ref x) hl hf.2 h') rfl rfl)
    next => cases h
  next => cases h
theorem zs_astore {k : Nat} (hd : decode (zB y) pc = .ok (.astore k, 2)) (h : zsta k pc 2 ls st m = some (.inl q)) : zSp D cA b h0 X HL y pc ls st m q := by
  unfold zsta at h
  split at h
  next x st =>
    split at h
    next hf =>
      cases zgo_inv h
      intro l p e R s mi args below meth c H locs cells slots Q lsC hc hw hz hl hk1 hk2 k
      exact lv_astore hc.1 hc.2.1 hd hl.1 (hl.2 ▸ hf.1) rfl (fun ls' h' => k H locs ls' cells slots hw (zLs_set (v := .ref x) hl hf.2 h') rfl rfl)
    next => cases h
  next => cases h
theorem zs_lstore_n {k : Fin 4} (hd : decode (zB y) pc = .ok (.lstore_n k, 1)) (h : zstl k pc 1 ls st m = some (.inl q)) : zSp D cA b h0 X HL y pc ls st m q := by
  unfold zstl at h
  split at h
  next x st =>
    split at h
    next hf =>
      cases zgo_inv h
      intro l p e R s mi args below meth c H locs cells slots Q lsC hc hw hz hl hk1 hk2 k
      exact lv_lstore_n hc.1 hc.2.1 hd rfl hl.1 (hl.2 ▸ hf.1) rfl (fun ls' h' => k H locs ls' cells slots hw (zLs_set2 (v := .long x) hl hf.2 hf.1 h') rfl rfl)
    next => cases h
  next => cases h
theorem zs_lstore {k : Nat} (hd : decode (zB y) pc = .ok (.lstore k, 2)) (h : zstl k pc 2 ls st m = some (.inl q)) : zSp D cA b h0 X HL y pc ls st m q := by
  unfold zstl at h
  split at h
  next x st =>
    split at h
    next hf =>
      cases zgo_inv h
      intro l p e R s mi args below meth c H locs cells slots Q lsC hc hw hz hl hk1 hk2 k
      exact lv_lstore hc.1 hc.2.1 hd hl.1 (hl.2 ▸ hf.1) rfl (fun ls' h' => k H locs ls' cells slots hw (zLs_set2 (v := .long x) hl hf.2 hf.1 h') rfl rfl)
    next => cases h
  next => cases h
theorem zs_iinc {k : Nat} {d : Int} (hd : decode (zB y) pc = .ok (.iinc k d, 3)) (h : zinc k d pc ls st m = some (.inl q)) : zSp D cA b h0 X HL y pc ls st m q := by
  unfold zinc at h
  split at h
  next x hx =>
    split at h
    next hf =>
      cases zgo_inv h
      intro l p e R s mi args below meth c H locs cells slots Q lsC hc hw hz hl hk1 hk2 k1
      have hkl : k < ls.length := (List.getElem?_eq_some_iff.mp hx).1
      have hm : (k, Value.int x) ∈ zll b h0 0 ls := (zll_mem ls 0 k _).mpr ⟨Nat.zero_le _, .int x, hx, (fun z => by cases z), rfl⟩
      obtain ⟨j, hj⟩ := List.getElem?_of_mem hm
      exact lv_iinc hc.1 hc.2.1 hd hl.1 (k := j) hj rfl (hl.2 ▸ hkl) rfl (fun ls' h' => k1 H locs ls' cells slots hw (zLs_set (v := .int (x + Int32.ofInt d)) hl hf h') rfl rfl)
    next => cases h
  next => cases h
theorem zs_iconst {i : Int} (hd : decode (zB y) pc = .ok (.iconst i, 1)) (h : zgo (pc + 1) ls (.int (Int32.ofInt i) :: st) m = some (.inl q)) : zSp D cA b h0 X HL y pc ls st m q := by
  cases zgo_inv h
  intro l p e R s mi args below meth c H locs cells slots Q lsC hc hw hz hl hk1 hk2 k
  exact lv_iconst hc.1 hc.2.1 hd rfl (k H locs lsC cells slots hw hl rfl rfl)
theorem zs_bipush {i : Int} (hd : decode (zB y) pc = .ok (.bipush i, 2)) (h : zgo (pc + 2) ls (.int (Int8.ofInt i).toInt32 :: st) m = some (.inl q)) : zSp D cA b h0 X HL y pc ls st m q := by
  cases zgo_inv h
  intro l p e R s mi args below meth c H locs cells slots Q lsC hc hw hz hl hk1 hk2 k
  exact lv_bipush hc.1 hc.2.1 hd rfl (k H locs lsC cells slots hw hl rfl rfl)
theorem zs_sipush {i : Int} (hd : decode (zB y) pc = .ok (.sipush i, 3)) (h : zgo (pc + 3) ls (.int (Int16.ofInt i).toInt32 :: st) m = some (.inl q)) : zSp D cA b h0 X HL y pc ls st m q := by
  cases zgo_inv h
  intro l p e R s mi args below meth c H locs cells slots Q lsC hc hw hz hl hk1 hk2 k
  exact lv_sipush hc.1 hc.2.1 hd rfl (k H locs lsC cells slots hw hl rfl rfl)
theorem zs_lconst {i : Fin 2} (hd : decode (zB y) pc = .ok (.lconst i, 1)) (h : zgo (pc + 1) ls (.long (Int64.ofNat (i : Nat)) :: st) m = some (.inl q)) : zSp D cA b h0 X HL y pc ls st m q := by
  cases zgo_inv h
  intro l p e R s mi args below meth c H locs cells slots Q lsC hc hw hz hl hk1 hk2 k
  exact lv_lconst hc.1 hc.2.1 hd rfl (k H locs lsC cells slots hw hl rfl rfl)
theorem zs_ldc2 {i a w : Nat} (hd : decode (zB y) pc = .ok (.ldc2_w i, 3)) (hzw : zw w (.constantLong (zOw y) i (Int64.ofNat a)) = true) (hg : goodWord (.constantLong (zOw y) i (Int64.ofNat a)) = true) (h : zgo (pc + 3) ls (.long (Int64.ofNat a) :: st) m = some (.inl q)) : zSp D cA b h0 X HL y pc ls st m q := by
  cases zgo_inv h
  intro l p e R s mi args below meth c H locs cells slots Q lsC hc hw hz hl hk1 hk2 k
  exact lv_ldc2 hc.1 hc.2.1 hc.2.2.2.1 (hc.2.2.2.2.1 _ (zTT_mem hzw hg)) hd (k H locs lsC cells slots hw hl rfl rfl)
theorem zs_iadd (hd : decode (zB y) pc = .ok (.iadd, 1)) (h : zi2 pc ls m (fun x y => x + y) st = some (.inl q)) : zSp D cA b h0 X HL y pc ls st m q := by
  unfold zi2 at h
  split at h
  next y x st =>
    cases zgo_inv h
    intro l p e R s mi args below meth c H locs cells slots Q lsC hc hw hz hl hk1 hk2 k
    exact lv_iadd hc.1 hc.2.1 hd (k H locs lsC cells slots hw hl rfl rfl)
  next => cases h
theorem zs_isub (hd : decode (zB y) pc = .ok (.isub, 1)) (h : zi2 pc ls m (fun x y => x - y) st = some (.inl q)) : zSp D cA b h0 X HL y pc ls st m q := by
  unfold zi2 at h
  split at h
  next y x st =>
    cases zgo_inv h
    intro l p e R s mi args below meth c H locs cells slots Q lsC hc hw hz hl hk1 hk2 k
    exact lv_isub hc.1 hc.2.1 hd (k H locs lsC cells slots hw hl rfl rfl)
  next => cases h
theorem zs_imul (hd : decode (zB y) pc = .ok (.imul, 1)) (h : zi2 pc ls m (fun x y => x * y) st = some (.inl q)) : zSp D cA b h0 X HL y pc ls st m q := by
  unfold zi2 at h
  split at h
  next y x st =>
    cases zgo_inv h
    intro l p e R s mi args below meth c H locs cells slots Q lsC hc hw hz hl hk1 hk2 k
    exact lv_imul hc.1 hc.2.1 hd (k H locs lsC cells slots hw hl rfl rfl)
  next => cases h
theorem zs_iand (hd : decode (zB y) pc = .ok (.iand, 1)) (h : zi2 pc ls m (fun x y => x &&& y) st = some (.inl q)) : zSp D cA b h0 X HL y pc ls st m q := by
  unfold zi2 at h
  split at h
  next y x st =>
    cases zgo_inv h
    intro l p e R s mi args below meth c H locs cells slots Q lsC hc hw hz hl hk1 hk2 k
    exact lv_iand hc.1 hc.2.1 hd (k H locs lsC cells slots hw hl rfl rfl)
  next => cases h
theorem zs_ixor (hd : decode (zB y) pc = .ok (.ixor, 1)) (h : zi2 pc ls m (fun x y => x ^^^ y) st = some (.inl q)) : zSp D cA b h0 X HL y pc ls st m q := by
  unfold zi2 at h
  split at h
  next y x st =>
    cases zgo_inv h
    intro l p e R s mi args below meth c H locs cells slots Q lsC hc hw hz hl hk1 hk2 k
    exact lv_ixor hc.1 hc.2.1 hd (k H locs lsC cells slots hw hl rfl rfl)
  next => cases h
theorem zs_idiv (hd : decode (zB y) pc = .ok (.idiv, 1)) (h : (match st with | .int y :: .int x :: st => if y = 0 then none else zgo (pc + 1) ls (.int (x / y) :: st) m | _ => none) = some (.inl q)) : zSp D cA b h0 X HL y pc ls st m q := by
  split at h
  next y x st =>
    split at h
    next => cases h
    next hne =>
      cases zgo_inv h
      intro l p e R s mi args below meth c H locs cells slots Q lsC hc hw hz hl hk1 hk2 k
      exact lv_idiv hc.1 hc.2.1 hd hne (k H locs lsC cells slots hw hl rfl rfl)
  next => cases h
theorem zs_irem (hd : decode (zB y) pc = .ok (.irem, 1)) (h : (match st with | .int y :: .int x :: st => if y = 0 then none else zgo (pc + 1) ls (.int (x - x / y * y) :: st) m | _ => none) = some (.inl q)) : zSp D cA b h0 X HL y pc ls st m q := by
  split at h
  next y x st =>
    split at h
    next => cases h
    next hne =>
      cases zgo_inv h
      intro l p e R s mi args below meth c H locs cells slots Q lsC hc hw hz hl hk1 hk2 k
      exact lv_irem hc.1 hc.2.1 hd hne (k H locs lsC cells slots hw hl rfl rfl)
  next => cases h
theorem zs_i2l (hd : decode (zB y) pc = .ok (.i2l, 1)) (h : (match st with | .int x :: st => zgo (pc + 1) ls (.long x.toInt64 :: st) m | _ => none) = some (.inl q)) : zSp D cA b h0 X HL y pc ls st m q := by
  split at h
  next x st =>
    cases zgo_inv h
    intro l p e R s mi args below meth c H locs cells slots Q lsC hc hw hz hl hk1 hk2 k
    exact lv_i2l hc.1 hc.2.1 hd rfl (k H locs lsC cells slots hw hl rfl rfl)
  next => cases h
theorem zs_l2i (hd : decode (zB y) pc = .ok (.l2i, 1)) (h : (match st with | .long x :: st => zgo (pc + 1) ls (.int x.toInt32 :: st) m | _ => none) = some (.inl q)) : zSp D cA b h0 X HL y pc ls st m q := by
  split at h
  next x st =>
    cases zgo_inv h
    intro l p e R s mi args below meth c H locs cells slots Q lsC hc hw hz hl hk1 hk2 k
    exact lv_l2i hc.1 hc.2.1 hd rfl (k H locs lsC cells slots hw hl rfl rfl)
  next => cases h
theorem zs_land (hd : decode (zB y) pc = .ok (.land, 1)) (h : zl2 pc ls m (fun x y => .long (x &&& y)) st = some (.inl q)) : zSp D cA b h0 X HL y pc ls st m q := by
  unfold zl2 at h
  split at h
  next y x st =>
    cases zgo_inv h
    intro l p e R s mi args below meth c H locs cells slots Q lsC hc hw hz hl hk1 hk2 k
    exact lv_land hc.1 hc.2.1 hd (k H locs lsC cells slots hw hl rfl rfl)
  next => cases h
theorem zs_lor (hd : decode (zB y) pc = .ok (.lor, 1)) (h : zl2 pc ls m (fun x y => .long (x ||| y)) st = some (.inl q)) : zSp D cA b h0 X HL y pc ls st m q := by
  unfold zl2 at h
  split at h
  next y x st =>
    cases zgo_inv h
    intro l p e R s mi args below meth c H locs cells slots Q lsC hc hw hz hl hk1 hk2 k
    exact lv_lor hc.1 hc.2.1 hd (k H locs lsC cells slots hw hl rfl rfl)
  next => cases h
theorem zs_lcmp (hd : decode (zB y) pc = .ok (.lcmp, 1)) (h : zl2 pc ls m (fun x y => .int (lg_cmp x y)) st = some (.inl q)) : zSp D cA b h0 X HL y pc ls st m q := by
  unfold zl2 at h
  split at h
  next y x st =>
    cases zgo_inv h
    intro l p e R s mi args below meth c H locs cells slots Q lsC hc hw hz hl hk1 hk2 k
    exact W.lcmp hc.1 hc.2.1 hd (k H locs lsC cells slots hw hl rfl rfl)
  next => cases h
theorem zs_lshl (hd : decode (zB y) pc = .ok (.lshl, 1)) (h : zl1 pc ls m (fun x y => x <<< (y.toInt64 &&& 63)) st = some (.inl q)) : zSp D cA b h0 X HL y pc ls st m q := by
  unfold zl1 at h
  split at h
  next y x st =>
    cases zgo_inv h
    intro l p e R s mi args below meth c H locs cells slots Q lsC hc hw hz hl hk1 hk2 k
    exact lv_lshl hc.1 hc.2.1 hd rfl (k H locs lsC cells slots hw hl rfl rfl)
  next => cases h
theorem zs_lushr (hd : decode (zB y) pc = .ok (.lushr, 1)) (h : zl1 pc ls m (fun x y => (x.toUInt64 >>> (y.toInt64.toUInt64 &&& Int64.toUInt64 63)).toInt64) st = some (.inl q)) : zSp D cA b h0 X HL y pc ls st m q := by
  unfold zl1 at h
  split at h
  next y x st =>
    cases zgo_inv h
    intro l p e R s mi args below meth c H locs cells slots Q lsC hc hw hz hl hk1 hk2 k
    exact lv_lushr hc.1 hc.2.1 hd rfl (k H locs lsC cells slots hw hl rfl rfl)
  next => cases h
theorem zs_dup (hd : decode (zB y) pc = .ok (.dup, 1)) (h : (match st with | v :: st => if v.category = 1 then zgo (pc + 1) ls (v :: v :: st) m else none | _ => none) = some (.inl q)) : zSp D cA b h0 X HL y pc ls st m q := by
  split at h
  next v st =>
    split at h
    next hv =>
      cases zgo_inv h
      intro l p e R s mi args below meth c H locs cells slots Q lsC hc hw hz hl hk1 hk2 k
      exact lv_dup hc.1 hc.2.1 hd (by rw [zv_cat]; exact hv) (k H locs lsC cells slots hw hl rfl rfl)
    next => cases h
  next => cases h
theorem zs_pop (hd : decode (zB y) pc = .ok (.pop, 1)) (h : (match st with | v :: st => if v.category = 1 then zgo (pc + 1) ls st m else none | _ => none) = some (.inl q)) : zSp D cA b h0 X HL y pc ls st m q := by
  split at h
  next v st =>
    split at h
    next hv =>
      cases zgo_inv h
      intro l p e R s mi args below meth c H locs cells slots Q lsC hc hw hz hl hk1 hk2 k
      exact lv_pop hc.1 hc.2.1 hd (by rw [zv_cat]; exact hv) (k H locs lsC cells slots hw hl rfl rfl)
    next => cases h
  next => cases h
theorem zs_dup2 (hd : decode (zB y) pc = .ok (.dup2, 1)) (h : (match st with | v :: w :: st => if v.category = 1 ∧ w.category = 1 then zgo (pc + 1) ls (v :: w :: v :: w :: st) m else none | _ => none) = some (.inl q)) : zSp D cA b h0 X HL y pc ls st m q := by
  split at h
  next v w st =>
    split at h
    next hv =>
      cases zgo_inv h
      intro l p e R s mi args below meth c H locs cells slots Q lsC hc hw hz hl hk1 hk2 k
      exact lv_dup2_11 hc.1 hc.2.1 hd (by rw [zv_cat]; exact hv.1) (by rw [zv_cat]; exact hv.2) (k H locs lsC cells slots hw hl rfl rfl)
    next => cases h
  next => cases h
theorem zs_goto {off : Int} (hd : decode (zB y) pc = .ok (.goto off, 3)) (h : (if 0 ≤ (pc : Int) + off then zgo ((pc : Int) + off).toNat ls st m else none) = some (.inl q)) : zSp D cA b h0 X HL y pc ls st m q := by
  split at h
  next ho =>
    cases zgo_inv h
    intro l p e R s mi args below meth c H locs cells slots Q lsC hc hw hz hl hk1 hk2 k
    exact lv_goto hc.1 hc.2.1 hd (Int.toNat_of_nonneg ho).symm (k H locs lsC cells slots hw hl rfl rfl)
  next => cases h
theorem zbr_inv {off : Int} {c : Bool} (h : zbr pc ls m off c st = some (.inl q)) : 0 ≤ (pc : Int) + off ∧ q = (cond c ((pc : Int) + off).toNat (pc + 3), ls, st, m) := by
  unfold zbr at h
  split at h
  next ho => exact ⟨ho, zgo_inv h⟩
  next => cases h
theorem zs_if1 {cnd : ClassFile.Cond} {off : Int} {x : Int32} (hd : decode (zB y) pc = .ok (.ifCond cnd off, 3)) (h : zbr pc ls m off (zcmp cnd x 0) st = some (.inl q)) : zSp D cA b h0 X HL y pc ls (.int x :: st) m q := by
  obtain ⟨ho, e⟩ := zbr_inv h
  subst e
  intro l p e R s mi args below meth c H locs cells slots Q lsC hc hw hz hl hk1 hk2 k
  cases cnd with
  | eq =>
    refine lv_if_eq hc.1 hc.2.1 hd (Int.toNat_of_nonneg ho).symm (fun z => ?_) (fun z => ?_)
    · have e : zcmp .eq x 0 = true := decide_eq_true z
      rw [e] at k
      exact k H locs lsC cells slots hw hl rfl rfl
    · have e : zcmp .eq x 0 = false := decide_eq_false z
      rw [e] at k
      exact k H locs lsC cells slots hw hl rfl rfl
  | ne =>
    refine lv_if_ne hc.1 hc.2.1 hd (Int.toNat_of_nonneg ho).symm (fun z => ?_) (fun z => ?_)
    · have e : zcmp .ne x 0 = true := decide_eq_true z
      rw [e] at k
      exact k H locs lsC cells slots hw hl rfl rfl
    · have e : zcmp .ne x 0 = false := decide_eq_false (fun w => w z)
      rw [e] at k
      exact k H locs lsC cells slots hw hl rfl rfl
  | lt =>
    refine lv_if_lt hc.1 hc.2.1 hd (Int.toNat_of_nonneg ho).symm (fun z => ?_) (fun z => ?_)
    · have e : zcmp .lt x 0 = true := decide_eq_true z
      rw [e] at k
      exact k H locs lsC cells slots hw hl rfl rfl
    · have e : zcmp .lt x 0 = false := decide_eq_false z
      rw [e] at k
      exact k H locs lsC cells slots hw hl rfl rfl
  | ge =>
    refine lv_if_ge hc.1 hc.2.1 hd (Int.toNat_of_nonneg ho).symm (fun z => ?_) (fun z => ?_)
    · have e : zcmp .ge x 0 = true := decide_eq_true z
      rw [e] at k
      exact k H locs lsC cells slots hw hl rfl rfl
    · have e : zcmp .ge x 0 = false := decide_eq_false z
      rw [e] at k
      exact k H locs lsC cells slots hw hl rfl rfl
  | gt =>
    refine lv_if_gt hc.1 hc.2.1 hd (Int.toNat_of_nonneg ho).symm (fun z => ?_) (fun z => ?_)
    · have e : zcmp .gt x 0 = true := decide_eq_true z
      rw [e] at k
      exact k H locs lsC cells slots hw hl rfl rfl
    · have e : zcmp .gt x 0 = false := decide_eq_false z
      rw [e] at k
      exact k H locs lsC cells slots hw hl rfl rfl
  | le =>
    refine lv_if_le hc.1 hc.2.1 hd (Int.toNat_of_nonneg ho).symm (fun z => ?_) (fun z => ?_)
    · have e : zcmp .le x 0 = true := decide_eq_true z
      rw [e] at k
      exact k H locs lsC cells slots hw hl rfl rfl
    · have e : zcmp .le x 0 = false := decide_eq_false z
      rw [e] at k
      exact k H locs lsC cells slots hw hl rfl rfl
theorem zs_if2 {cnd : ClassFile.Cond} {off : Int} {x z : Int32} (hd : decode (zB y) pc = .ok (.if_icmp cnd off, 3)) (h : zbr pc ls m off (zcmp cnd x z) st = some (.inl q)) : zSp D cA b h0 X HL y pc ls (.int z :: .int x :: st) m q := by
  obtain ⟨ho, e⟩ := zbr_inv h
  subst e
  intro l p e R s mi args below meth c H locs cells slots Q lsC hc hw hz hl hk1 hk2 k
  cases cnd with
  | eq =>
    refine lv_icmp_eq hc.1 hc.2.1 hd (Int.toNat_of_nonneg ho).symm (fun zz => ?_) (fun zz => ?_)
    · have e : zcmp .eq x z = true := decide_eq_true zz
      rw [e] at k
      exact k H locs lsC cells slots hw hl rfl rfl
    · have e : zcmp .eq x z = false := decide_eq_false zz
      rw [e] at k
      exact k H locs lsC cells slots hw hl rfl rfl
  | ne =>
    refine lv_icmp_ne hc.1 hc.2.1 hd (Int.toNat_of_nonneg ho).symm (fun zz => ?_) (fun zz => ?_)
    · have e : zcmp .ne x z = true := decide_eq_true zz
      rw [e] at k
      exact k H locs lsC cells slots hw hl rfl rfl
    · have e : zcmp .ne x z = false := decide_eq_false (fun w => w zz)
      rw [e] at k
      exact k H locs lsC cells slots hw hl rfl rfl
  | lt =>
    refine lv_icmp_lt hc.1 hc.2.1 hd (Int.toNat_of_nonneg ho).symm (fun zz => ?_) (fun zz => ?_)
    · have e : zcmp .lt x z = true := decide_eq_true zz
      rw [e] at k
      exact k H locs lsC cells slots hw hl rfl rfl
    · have e : zcmp .lt x z = false := decide_eq_false zz
      rw [e] at k
      exact k H locs lsC cells slots hw hl rfl rfl
  | ge =>
    refine lv_icmp_ge hc.1 hc.2.1 hd (Int.toNat_of_nonneg ho).symm (fun zz => ?_) (fun zz => ?_)
    · have e : zcmp .ge x z = true := decide_eq_true zz
      rw [e] at k
      exact k H locs lsC cells slots hw hl rfl rfl
    · have e : zcmp .ge x z = false := decide_eq_false zz
      rw [e] at k
      exact k H locs lsC cells slots hw hl rfl rfl
  | gt =>
    refine lv_icmp_gt hc.1 hc.2.1 hd (Int.toNat_of_nonneg ho).symm (fun zz => ?_) (fun zz => ?_)
    · have e : zcmp .gt x z = true := decide_eq_true zz
      rw [e] at k
      exact k H locs lsC cells slots hw hl rfl rfl
    · have e : zcmp .gt x z = false := decide_eq_false zz
      rw [e] at k
      exact k H locs lsC cells slots hw hl rfl rfl
  | le =>
    refine lv_icmp_le hc.1 hc.2.1 hd (Int.toNat_of_nonneg ho).symm (fun zz => ?_) (fun zz => ?_)
    · have e : zcmp .le x z = true := decide_eq_true zz
      rw [e] at k
      exact k H locs lsC cells slots hw hl rfl rfl
    · have e : zcmp .le x z = false := decide_eq_false zz
      rw [e] at k
      exact k H locs lsC cells slots hw hl rfl rfl
theorem zs_table {d lo hi : Int} {offs : Array Int} {len : Nat} (hd : decode (zB y) pc = .ok (.tableswitch d lo hi offs, len)) (h : (match st with | .int x :: st => (match (if x.toInt < lo ∨ hi < x.toInt then some d else offs[(x.toInt - lo).toNat]?) with | some off => if 0 ≤ (pc : Int) + off then zgo ((pc : Int) + off).toNat ls st m else none | none => none) | _ => none) = some (.inl q)) : zSp D cA b h0 X HL y pc ls st m q := by
  split at h
  next x st =>
    split at h
    next off heq =>
      split at h
      next ho =>
        cases zgo_inv h
        intro l p e R s mi args below meth c H locs cells slots Q lsC hc hw hz hl hk1 hk2 k
        by_cases hx : x.toInt < lo ∨ hi < x.toInt
        · rw [if_pos hx] at heq
          cases heq
          exact lv_tableOut hc.1 hc.2.1 hd hx (Int.toNat_of_nonneg ho).symm (k H locs lsC cells slots hw hl rfl rfl)
        · rw [if_neg hx] at heq
          exact lv_tableIn hc.1 hc.2.1 hd (fun z => hx (Or.inl z)) (fun z => hx (Or.inr z)) heq (Int.toNat_of_nonneg ho).symm (k H locs lsC cells slots hw hl rfl rfl)
      next => cases h
    next => cases h
  next => cases h
theorem zs_lookup {d : Int} {ps : Array (Int × Int)} {len : Nat} (hd : decode (zB y) pc = .ok (.lookupswitch d ps, len)) (h : (match st with | .int x :: st => if 0 ≤ (pc : Int) + Op.lookupswitch.offset ps.toList d x.toInt ∧ (ps.toList.zip (ps.toList.drop 1)).all (fun (a, next) => a.1 < next.1) = true then zgo ((pc : Int) + Op.lookupswitch.offset ps.toList d x.toInt).toNat ls st m else none | _ => none) = some (.inl q)) : zSp D cA b h0 X HL y pc ls st m q := by
  split at h
  next x st =>
    split at h
    next ho =>
      cases zgo_inv h
      intro l p e R s mi args below meth c H locs cells slots Q lsC hc hw hz hl hk1 hk2 k
      exact lv_lookup hc.1 hc.2.1 hd ho.2 rfl (Int.toNat_of_nonneg ho.1).symm (k H locs lsC cells slots hw hl rfl rfl)
    next => cases h
  next => cases h
end ZS
end
section
/-! THE PURE MACHINE IS SOUND, part 3: fields, arrays, what is made -/
theorem zmem_sI {D : va_G} {cA : Nat → ClassId} {h0 : Nat} {HL : Heap} {m : zM} {t : Nat} {f : Nat → Int32} {e : va_E} {H1 : Heap} {locs1 : List Loc} (ht : t ≠ 0) (he : zent cA h0 (zsI m t f) t = e)
    (hP : va_P D zcl ((zwl cA h0 m).set (t - 1) (h0 + t, e)) H1) (hS : va_S (zAf h0) HL H1 locs1) : zWd D cA h0 HL (zsI m t f) H1 locs1 := by
  rw [zwl_set (m := m) (m' := zsI m t f) ht rfl he (fun j hj => zsI_ne hj)] at hP
  exact ⟨hP, hS⟩
theorem zmem_sR {D : va_G} {cA : Nat → ClassId} {h0 : Nat} {HL : Heap} {m : zM} {t k u : Nat} {e : va_E} {H1 : Heap} {locs1 : List Loc} (ht : t ≠ 0) (he : zent cA h0 (zsR m t k u) t = e)
    (hP : va_P D zcl ((zwl cA h0 m).set (t - 1) (h0 + t, e)) H1) (hS : va_S (zAf h0) HL H1 locs1) : zWd D cA h0 HL (zsR m t k u) H1 locs1 := by
  rw [zwl_set (m := m) (m' := zsR m t k u) ht rfl he (fun j hj => zsR_ne hj)] at hP
  exact ⟨hP, hS⟩
theorem zin_ok {i : Int32} {n : Nat} (h : zin i n = true) : vp_in i n := by
  unfold zin at h
  simp only [Bool.and_eq_true, decide_eq_true_eq] at h
  rintro (q | q)
  · exact h.1 q
  · omega
/-- a nest mate's field is another class's -/
def zNo (w : Cond) : Bool := match w with
  | .fieldLinkNest o _ r _ _ _ => decide (o ≠ r)
  | _ => true
theorem zNest_own : lw_tbl.all zNo = true := by decide +kernel
section ZT
variable {D : va_G} {cA : Nat → ClassId} {b h0 : Nat} {X : Nat × (Nat → Int32)} {HL : Heap} {y pc n : Nat} {ls st : List Value} {m : zM} {q : Nat × List Value × List Value × zM}
/-- the words of a kind of object -/
theorem zCk_ok {ci : Nat} (h : ci < 11) : ∃ q : vw_C, zcl[ci]? = some q ∧ q.2.2 = zNf ci ∧ (∀ w ∈ u_ws q.1 q.2.1 q.2.2, w ∈ zTT) ∧ Cond.instantiable q.1 q.2.2 ∈ zTT ∧ Cond.initialized q.1 ∈ zTT := by
  have h1 := zCk_all ci h
  unfold zCk at h1
  split at h1
  next q e =>
    simp only [Bool.and_eq_true, decide_eq_true_eq] at h1
    obtain ⟨⟨⟨⟨⟨h2, h3⟩, h4⟩, h5⟩, h6⟩, h7⟩ := h1
    refine ⟨q, e, h3, fun w hw => ?_, zTT_mem h4 h5, zTT_mem h6 h7⟩
    obtain ⟨k, hk, e2⟩ := List.mem_map.mp hw
    have h8 := List.all_eq_true.mp h2 k hk
    simp only [Bool.and_eq_true] at h8
    rw [← e2]
    exact zTT_mem h8.1 h8.2
  next => cases h1
/-- the type of a field -/
theorem zTk_ok {ci k : Nat} (h : ci < 11) (hk : k < zNf ci) : (zFk ci k = 0 → parseFieldDescriptor (zFl ci k).2.2.1 = some .int) ∧ (zFk ci k = 1 → parseFieldDescriptor (zFl ci k).2.2.1 = some .boolean) ∧ (zFk ci k = 2 → ∃ ty, parseFieldDescriptor (zFl ci k).2.2.1 = some ty ∧ ((∃ c, ty = .object c) ∨ ∃ t, ty = .array t)) := by
  have h1 := zTk_all ci h
  obtain ⟨q, e, e2, -⟩ := zCk_ok h
  unfold zTk at h1
  unfold zFl
  rw [e] at h1 ⊢
  dsimp only at h1 ⊢
  have h2 := List.all_eq_true.mp h1 k (List.mem_range.mpr (by rw [e2]; exact hk))
  refine ⟨fun z => ?_, fun z => ?_, fun z => ?_⟩
  · rw [z] at h2
    exact of_decide_eq_true h2
  · rw [z] at h2
    exact of_decide_eq_true h2
  · have h2 : (match parseFieldDescriptor (q.2.1 k).2.2.1 with
      | some (.object _) => true
      | some (.array _) => true
      | _ => false) = true := by
      rw [z] at h2
      exact h2
    split at h2
    next c e3 => exact ⟨_, e3, Or.inl ⟨c, rfl⟩⟩
    next t e3 => exact ⟨_, e3, Or.inr ⟨t, rfl⟩⟩
    next => cases h2
theorem zfl_ok {i a k w : Nat} (h : zfl y i a k w = true) : a < 11 ∧ k < zNf a ∧ (Cond.fieldLink (zOw y) i (zFl a k).1 (zFl a k).2.1 (zFl a k).2.2.1 ∈ zTT ∨ (Cond.fieldLinkNest (zOw y) i (zFl a k).1 (zFl a k).2.1 (zFl a k).2.2.1 "FiveInks" ∈ lw_tbl)) := by
  unfold zfl at h
  simp only [Bool.and_eq_true, Bool.or_eq_true, decide_eq_true_eq] at h
  obtain ⟨⟨h1, h2⟩, h3⟩ := h
  refine ⟨h1, h2, ?_⟩
  rcases h3 with h3 | h3
  · exact Or.inl (zTT_mem h3.1 h3.2)
  · exact Or.inr (zw_in h3)
/-- no final field is stored by a nest mate -/
theorem zput_nest {i a k : Nat} {r : vw_C} (hq : (r.2.1 k).2.2.2 = true) (er : zcl[a]? = some r) (ho : zOw y = (r.2.1 k).1) : ¬ Cond.fieldLinkNest (zOw y) i (r.2.1 k).1 (r.2.1 k).2.1 (r.2.1 k).2.2.1 "FiveInks" ∈ lw_tbl := by
  intro h
  have h1 := List.all_eq_true.mp zNest_own _ h
  rw [ho] at h1
  unfold zNo at h1
  simp at h1
theorem zs_get {i a k w : Nat} (hd : decode (zB y) pc = .ok (.getfield i, 3)) (hf : zfl y i a k w = true) (h : zget a k pc ls st m = some (.inl q)) : zSp D cA b h0 X HL y pc ls st m q := by
  obtain ⟨ha, hk, hlk⟩ := zfl_ok hf
  unfold zget at h
  split at h
  next t st =>
    split at h
    next hc0 =>
      obtain ⟨h1, h2, h3⟩ := hc0
      obtain ⟨r, er, e2, hin, -, -⟩ := zCk_ok ha
      have e3 : zFl a k = r.2.1 k := by unfold zFl; rw [er]
      have hval : ∃ v, q = (pc + 3, ls, v :: st, m) ∧ zv b h0 v = zfv h0 a m t k := by
        unfold zfv
        split at h
        next z =>
          split at h
          next => cases h
          next hne =>
            refine ⟨_, zgo_inv h, ?_⟩
            rw [if_pos z]
            unfold zrf
            rw [if_neg hne]
            show Value.ref (zad b h0 (zRf m t k)) = Value.ref (h0 + zRf m t k)
            rw [zad_ne hne]
        next z =>
          refine ⟨_, zgo_inv h, ?_⟩
          rw [if_neg z]
          rfl
      obtain ⟨v, e4, e5⟩ := hval
      subst e4
      intro l p e R s mi args below meth c H locs cells slots Q lsC hc hw hz hl hk1 hk2 kk
      have hfs : ((List.range (zLe m t)).map (zfv h0 a m t))[k]? = some (zfv h0 a m t k) := by
        rw [List.getElem?_map, List.getElem?_range h3]
        rfl
      have hcell := zwl_get (cA := cA) (h0 := h0) h1 h2 (by omega)
      rw [zent_3 h2] at hcell
      have kk' := kk H locs lsC cells slots hw hl rfl rfl
      rw [show (v :: st).map (zv b h0) = zv b h0 v :: st.map (zv b h0) from rfl, e5] at kk'
      show W p l _ R s mi args below meth c H locs cells slots Q (F0 mi pc lsC (.ref (zad b h0 t) :: st.map (zv b h0)))
      rw [zad_ne h1]
      have hr : zcl[a]? = some (r.1, r.2.1, r.2.2) := er
      rcases hlk with hlk | hlk
      · rw [e3] at hlk
        exact va_get hc.1 hc.2.1 hc.2.2.2.2.1 hin hc.2.2.2.1 hc.2.2.2.2.2.1.1 hw.1 (t - 1) hcell hr k (by rw [e2]; exact hk) (hc.2.2.2.2.1 _ hlk) (fun _ z => z) hfs hd kk'
      · rw [e3] at hlk
        exact va_getN hc.1 hc.2.1 hc.2.2.2.2.1 hin hc.2.2.2.1 hc.2.2.2.2.2.1.1 hw.1 (t - 1) hcell hr k (by rw [e2]; exact hk) (va_Nw.use rfl (hc.2.2.2.2.2.1.2.1.1 _ hlk rfl)) (fun _ z => z) hfs hd kk'
    next => cases h
  next => cases h
/-- what the kit wants of a class's fields -/
def zTb (T : u_T) (N ci : Nat) (ty : Nat → FieldType) : Prop := (∀ k, k < N → parseFieldDescriptor (T k).2.2.1 = some (ty k)) ∧ (∀ a, a < N → ∀ b, b < N → a ≠ b → (T a).2.1 ≠ (T b).2.1) ∧ ∀ k, k < N → defaultValue (ty k) = if zFk ci k = 2 then .null else .int 0
theorem zTb_ok {ci : Nat} {r : vw_C} (h : ci < 11) (e : zcl[ci]? = some r) : ∃ ty, zTb r.2.1 r.2.2 ci ty := by
  match ci, h with
  | 0, _ => cases e; exact ⟨tyX0, tyX0_ok, nmX0, by decide +kernel⟩
  | 1, _ => cases e; exact ⟨tyX1, tyX1_ok, nmX1, by decide +kernel⟩
  | 2, _ => cases e; exact ⟨tyX2, tyX2_ok, nmX2, by decide +kernel⟩
  | 3, _ => cases e; exact ⟨tyX3, tyX3_ok, nmX3, by decide +kernel⟩
  | 4, _ => cases e; exact ⟨tyX4, tyX4_ok, nmX4, by decide +kernel⟩
  | 5, _ => cases e; exact ⟨tyX5, tyX5_ok, nmX5, by decide +kernel⟩
  | 6, _ => cases e; exact ⟨tyX6, tyX6_ok, nmX6, by decide +kernel⟩
  | 7, _ => cases e; exact ⟨tyX7, tyX7_ok, nmX7, by decide +kernel⟩
  | 8, _ => cases e; exact ⟨tyX8, tyX8_ok, nmX8, by decide +kernel⟩
  | 9, _ => cases e; exact ⟨tyX9, tyX9_ok, nmX9, by decide +kernel⟩
  | 10, _ => cases e; exact ⟨tyX10, tyX10_ok, nmX10, by decide +kernel⟩
theorem zmap_set {g g' : Nat → Value} {n k : Nat} {v : Value} (h1 : g' k = v) (h2 : ∀ j, j ≠ k → g' j = g j) : (List.range n).map g' = ((List.range n).map g).set k v := by
  apply List.ext_getElem?
  intro j
  by_cases hj : j < n
  · rw [List.getElem?_map, List.getElem?_range hj]
    by_cases e : k = j
    · subst e
      rw [List.getElem?_set_self (by simp; exact hj)]
      show some (g' k) = some v
      rw [h1]
    · rw [List.getElem?_set_ne e, List.getElem?_map, List.getElem?_range hj]
      show some (g' j) = some (g j)
      rw [h2 j (Ne.symm e)]
  · rw [List.getElem?_eq_none (by simp; omega), List.getElem?_eq_none (by simp; omega)]
def zFin (y a k : Nat) : Bool := !(zFl a k).2.2.2 || (zini y && decide (zOw y = (zFl a k).1))
/-- a store to a field, whatever it holds -/
theorem zs_putv {i a k w t : Nat} {v : Value} {m' : zM} (hd : decode (zB y) pc = .ok (.putfield i, 3)) (hf : zfl y i a k w = true) (hfi : zFin y a k = true) (h1 : t ≠ 0) (h2 : zKi m t = a + 3) (h3 : k < zLe m t)
    (hty : ∃ ty, parseFieldDescriptor (zFl a k).2.2.1 = some ty ∧ narrow ty (zv b h0 v) = zv b h0 v ∧ fits ty (zv b h0 v) = true)
    (hs1 : m'.1 = m.1) (hs2 : m'.2.1.length = m.2.1.length) (he : zent cA h0 m' t = .inr (a, ((List.range (zLe m t)).map (zfv h0 a m t)).set k (zv b h0 v))) (ho : ∀ j, j ≠ t → zent cA h0 m' j = zent cA h0 m j) :
    zSp D cA b h0 X HL y pc ls (v :: .ref t :: st) m (pc + 3, ls, st, m') := by
  obtain ⟨ha, hk, hlk⟩ := zfl_ok hf
  obtain ⟨r, er, e2, hin, -, -⟩ := zCk_ok ha
  have e3 : zFl a k = r.2.1 k := by unfold zFl; rw [er]
  obtain ⟨ty0, ht1, ht2, -⟩ := zTb_ok ha er
  obtain ⟨ty, hp, hn, hfit⟩ := hty
  rw [e3] at hp hlk
  unfold zFin at hfi
  rw [e3] at hfi
  intro l p e R s mi args below meth c H locs cells slots Q lsC hc hw hz hl hk1 hk2 kk
  have hcell := zwl_get (cA := cA) (h0 := h0) h1 h2 (by omega)
  rw [zent_3 h2] at hcell
  have hr : zcl[a]? = some (r.1, r.2.1, r.2.2) := er
  have hlen : k < ((List.range (zLe m t)).map (zfv h0 a m t)).length := by simp; exact h3
  have hD := zwl_D cA h0 m
  show W p l _ R s mi args below meth c H locs cells slots Q (F0 mi pc lsC (zv b h0 v :: .ref (zad b h0 t) :: st.map (zv b h0)))
  rw [zad_ne h1]
  have fin : ∀ (H1 : Heap) (locs1 : List Loc), va_P D zcl ((zwl cA h0 m).set (t - 1) (h0 + t, .inr (a, ((List.range (zLe m t)).map (zfv h0 a m t)).set k (zv b h0 v)))) H1 → va_D (zAf h0) ((zwl cA h0 m).set (t - 1) (h0 + t, .inr (a, ((List.range (zLe m t)).map (zfv h0 a m t)).set k (zv b h0 v)))) → va_S (zAf h0) HL H1 locs1 →
      W p l e R s mi args below meth c H1 locs1 cells slots Q (F0 mi (pc + 3) lsC (st.map (zv b h0))) := by
    intro H1 locs1 hP hD' hS
    rw [zwl_set (m := m) (m' := m') h1 hs2 he ho] at hP
    exact kk H1 locs1 lsC cells slots ⟨hP, hS⟩ hl (by show cells + m.2.1.length = cells + m'.2.1.length; rw [hs2]) (by show slots + m.1 = slots + m'.1; rw [hs1])
  cases hq : (r.2.1 k).2.2.2 with
  | false =>
    rcases hlk with hlk | hlk
    · exact va_put hc.1 hc.2.1 hc.2.2.2.2.1 hin ty0 ht1 ht2 hc.2.2.2.1 hc.2.2.2.2.2.1.1 hw.1 hD hw.2 (t - 1) hcell hr k (by rw [e2]; exact hk) (hc.2.2.2.2.1 _ hlk) (fun _ z => z) hq hp hn hfit hlen hd fin
    · exact va_putN hc.1 hc.2.1 hc.2.2.2.2.1 hin ty0 ht1 ht2 hc.2.2.2.1 hc.2.2.2.2.2.1.1 hw.1 hD hw.2 (t - 1) hcell hr k (by rw [e2]; exact hk) (va_Nw.use rfl (hc.2.2.2.2.2.1.2.1.1 _ hlk rfl)) (fun _ z => z) hq hp hn hfit hlen hd fin
  | true =>
    rw [hq] at hfi
    simp only [Bool.not_true, Bool.false_or, Bool.and_eq_true, decide_eq_true_eq] at hfi
    rcases hlk with hlk | hlk
    · exact va_putF hc.1 hc.2.1 hc.2.2.2.2.1 hin ty0 ht1 ht2 hc.2.2.2.1 hc.2.2.2.2.2.1.1 hw.1 hD hw.2 (t - 1) hcell hr k (by rw [e2]; exact hk) (hc.2.2.2.2.1 _ hlk) (fun _ z => z) hq (hc.2.2.2.2.2.2.2.2 hfi.1) hfi.2.symm hp hn hfit hlen hd fin
    · exact absurd hlk (zput_nest hq er hfi.2)
theorem zs_put {i a k w : Nat} (hd : decode (zB y) pc = .ok (.putfield i, 3)) (hf : zfl y i a k w = true) (hfi : zFin y a k = true) (h : zput a k pc ls st m = some (.inl q)) : zSp D cA b h0 X HL y pc ls st m q := by
  obtain ⟨ha, hk, -⟩ := zfl_ok hf
  obtain ⟨t0, t1, t2⟩ := zTk_ok ha hk
  unfold zput at h
  split at h
  next x t st =>
    split at h
    next hc0 =>
      obtain ⟨h1, h2, h3, h4⟩ := hc0
      cases zgo_inv h
      refine zs_putv hd hf hfi h1 h2 h3 ?_ rfl rfl ?_ (fun j hj => zsI_ne hj)
      · rcases h4 with h4 | ⟨h4, h5⟩
        · exact ⟨_, t0 h4, rfl, rfl⟩
        · refine ⟨_, t1 h4, ?_, ?_⟩
          · rcases h5 with h5 | h5 <;> subst h5 <;> rfl
          · rcases h5 with h5 | h5 <;> subst h5 <;> rfl
      · have hne : zFk a k ≠ 2 := by rcases h4 with h4 | ⟨h4, -⟩ <;> omega
        have h2' : zKi (zsI m t (upd (zI m t) k x)) t = a + 3 := h2
        rw [zent_3 h2']
        congr 2
        refine zmap_set ?_ (fun j hj => ?_)
        · unfold zfv
          rw [if_neg hne, zsI_self]
          simp [upd]
          rfl
        · unfold zfv
          rw [zsI_self]
          simp [upd, hj]
          rfl
    next => cases h
  next u t st =>
    split at h
    next hc0 =>
      obtain ⟨h1, h2, h3, h4, h5, h6, h7⟩ := hc0
      cases zgo_inv h
      refine zs_putv hd hf hfi h1 h2 h3 ?_ rfl rfl ?_ (fun j hj => zsR_ne hj)
      · obtain ⟨ty, e1, e2⟩ := t2 h4
        refine ⟨ty, e1, ?_, ?_⟩
        · rcases e2 with ⟨c, rfl⟩ | ⟨t, rfl⟩ <;> rfl
        · rcases e2 with ⟨c, rfl⟩ | ⟨t, rfl⟩ <;> rfl
      · have h2' : zKi (zsR m t k u) t = a + 3 := h2
        rw [zent_3 h2']
        congr 2
        refine zmap_set ?_ (fun j hj => ?_)
        · unfold zfv
          rw [if_pos h4, zsR_rf_self h7 h6, if_pos rfl]
          unfold zrf
          rw [if_neg h5]
          show Value.ref (h0 + u) = Value.ref (zad b h0 u)
          rw [zad_ne h5]
        · unfold zfv
          rw [zsR_rf_self h7 h6, if_neg hj]
          rfl
    next => cases h
  next => cases h
end ZT
end
section
/-! THE PURE MACHINE IS SOUND, part 4: arrays, what is made, the JDK's own -/
section ZU
variable {D : va_G} {cA : Nat → ClassId} {b h0 : Nat} {X : Nat × (Nat → Int32)} {HL : Heap} {y pc n : Nat} {ls st : List Value} {m : zM} {q : Nat × List Value × List Value × zM}
theorem zs_iald (hd : decode (zB y) pc = .ok (.iaload, 1)) (h : ziald X pc ls st m = some (.inl q)) : zSp D cA b h0 X HL y pc ls st m q := by
  unfold ziald at h
  split at h
  next i t st =>
    split at h
    next ht =>
      subst ht
      split at h
      next hc0 =>
        cases zgo_inv h
        intro l p e R s mi args below meth c H locs cells slots Q lsC hc hw hz hl hk1 hk2 kk
        obtain ⟨-, -, hX, hH, hb⟩ := hc.2.2.2.2.2.1
        exact va_sld hc.1 hc.2.1 hX (by omega) (Nat.not_lt.mpr hb) hw.2 (zin_ok hc0.2) hd (kk H locs lsC cells slots hw hl rfl rfl)
      next => cases h
    next ht =>
      split at h
      next hc0 =>
        cases zgo_inv h
        intro l p e R s mi args below meth c H locs cells slots Q lsC hc hw hz hl hk1 hk2 kk
        have hcell := zwl_get (cA := cA) (h0 := h0) ht hc0.1 (by omega)
        rw [zent_0 hc0.1] at hcell
        show W p l _ R s mi args below meth c H locs cells slots Q (F0 mi pc lsC (.int i :: .ref (zad b h0 t) :: st.map (zv b h0)))
        rw [zad_ne ht]
        exact va_iald hc.1 hc.2.1 hc.2.2.2.2.2.1.1 hw.1 (t - 1) 0 hcell rfl (zin_ok hc0.2) hd (kk H locs lsC cells slots hw hl rfl rfl)
      next => cases h
  next => cases h
theorem zs_bald (hd : decode (zB y) pc = .ok (.baload, 1)) (h : zbald pc ls st m = some (.inl q)) : zSp D cA b h0 X HL y pc ls st m q := by
  unfold zbald at h
  split at h
  next i t st =>
    split at h
    next hc0 =>
      obtain ⟨ht, h1, h2⟩ := hc0
      cases zgo_inv h
      intro l p e R s mi args below meth c H locs cells slots Q lsC hc hw hz hl hk1 hk2 kk
      have hcell := zwl_get (cA := cA) (h0 := h0) ht h1 (by omega)
      rw [zent_1 h1] at hcell
      show W p l _ R s mi args below meth c H locs cells slots Q (F0 mi pc lsC (.int i :: .ref (zad b h0 t) :: st.map (zv b h0)))
      rw [zad_ne ht]
      exact va_zald hc.1 hc.2.1 hc.2.2.2.2.2.1.1 hw.1 (t - 1) 1 hcell rfl (zin_ok h2) hd (kk H locs lsC cells slots hw hl rfl rfl)
    next => cases h
  next => cases h
theorem zs_aald (hd : decode (zB y) pc = .ok (.aaload, 1)) (h : zaald pc ls st m = some (.inl q)) : zSp D cA b h0 X HL y pc ls st m q := by
  unfold zaald at h
  split at h
  next i t st =>
    split at h
    next hc0 =>
      obtain ⟨ht, h1, h2, h3⟩ := hc0
      cases zgo_inv h
      intro l p e R s mi args below meth c H locs cells slots Q lsC hc hw hz hl hk1 hk2 kk
      have hcell := zwl_get (cA := cA) (h0 := h0) ht h1 (by omega)
      rw [zent_2 h1] at hcell
      show W p l _ R s mi args below meth c H locs cells slots Q (F0 mi pc lsC (.int i :: .ref (zad b h0 t) :: st.map (zv b h0)))
      rw [zad_ne ht]
      refine va_aldq hc.1 hc.2.1 hc.2.2.2.2.2.1.1 hw.1 (t - 1) 2 hcell rfl (zin_ok h2) hd ?_
      have k1 := kk H locs lsC cells slots hw hl rfl rfl
      have e1 : va_rf (zrf h0 (zRf m t i.toNatClampNeg)) = zv b h0 (.ref (zRf m t i.toNatClampNeg)) := by
        unfold zrf
        rw [if_neg h3]
        show Value.ref (h0 + zRf m t i.toNatClampNeg) = Value.ref (zad b h0 _)
        rw [zad_ne h3]
      rw [e1]
      exact k1
    next => cases h
  next => cases h
theorem zs_iast (hd : decode (zB y) pc = .ok (.iastore, 1)) (h : ziast pc ls st m = some (.inl q)) : zSp D cA b h0 X HL y pc ls st m q := by
  unfold ziast at h
  split at h
  next x i t st =>
    split at h
    next hc0 =>
      obtain ⟨ht, h1, h2⟩ := hc0
      cases zgo_inv h
      intro l p e R s mi args below meth c H locs cells slots Q lsC hc hw hz hl hk1 hk2 kk
      have hcell := zwl_get (cA := cA) (h0 := h0) ht h1 (by omega)
      rw [zent_0 h1] at hcell
      show W p l _ R s mi args below meth c H locs cells slots Q (F0 mi pc lsC (.int x :: .int i :: .ref (zad b h0 t) :: st.map (zv b h0)))
      rw [zad_ne ht]
      refine va_iast hc.1 hc.2.1 hc.2.2.2.2.2.1.1 hw.1 (zwl_D cA h0 m) hw.2 (t - 1) 0 hcell rfl (zin_ok h2) hd (fun H1 locs1 hP hD hS => ?_)
      refine kk H1 locs1 lsC cells slots (zmem_sI ht ?_ hP hS) hl rfl rfl
      have h1' : zKi (zsI m t (upd (zI m t) i.toNatClampNeg x)) t = 0 := h1
      rw [zent_0 h1', zsI_self]
      rfl
    next => cases h
  next => cases h
theorem zs_bast (hd : decode (zB y) pc = .ok (.bastore, 1)) (h : zbast pc ls st m = some (.inl q)) : zSp D cA b h0 X HL y pc ls st m q := by
  unfold zbast at h
  split at h
  next x i t st =>
    split at h
    next hc0 =>
      obtain ⟨ht, h1, h2, h3⟩ := hc0
      cases zgo_inv h
      intro l p e R s mi args below meth c H locs cells slots Q lsC hc hw hz hl hk1 hk2 kk
      have hcell := zwl_get (cA := cA) (h0 := h0) ht h1 (by omega)
      rw [zent_1 h1] at hcell
      show W p l _ R s mi args below meth c H locs cells slots Q (F0 mi pc lsC (.int x :: .int i :: .ref (zad b h0 t) :: st.map (zv b h0)))
      rw [zad_ne ht]
      refine va_zast hc.1 hc.2.1 hc.2.2.2.2.2.1.1 hw.1 (zwl_D cA h0 m) hw.2 (t - 1) 1 hcell rfl (zin_ok h2) hd (fun H1 locs1 hP hD hS => ?_)
      have hx : vp_nar .boolean x = x := by rcases h3 with h3 | h3 <;> subst h3 <;> rfl
      rw [hx] at hP
      refine kk H1 locs1 lsC cells slots (zmem_sI ht ?_ hP hS) hl rfl rfl
      have h1' : zKi (zsI m t (upd (zI m t) i.toNatClampNeg x)) t = 1 := h1
      rw [zent_1 h1', zsI_self]
      rfl
    next => cases h
  next => cases h
theorem zs_aast (hd : decode (zB y) pc = .ok (.aastore, 1)) (h : zaast pc ls st m = some (.inl q)) : zSp D cA b h0 X HL y pc ls st m q := by
  unfold zaast at h
  split at h
  next u i t st =>
    split at h
    next hc0 =>
      obtain ⟨ht, h1, h2, hu, h3, h4, h5⟩ := hc0
      cases zgo_inv h
      intro l p e R s mi args below meth c H locs cells slots Q lsC hc hw hz hl hk1 hk2 kk
      have hcell := zwl_get (cA := cA) (h0 := h0) ht h1 (by omega)
      rw [zent_2 h1] at hcell
      have hcu := zwl_get (cA := cA) (h0 := h0) hu h3 (by omega)
      rw [zent_3 h3] at hcu
      show W p l _ R s mi args below meth c H locs cells slots Q (F0 mi pc lsC (.ref (zad b h0 u) :: .int i :: .ref (zad b h0 t) :: st.map (zv b h0)))
      rw [zad_ne ht, zad_ne hu]
      refine va_astq (r := (RX4, TX4, 4)) hc.1 hc.2.1 hc.2.2.2.2.2.1.1 hw.1 (zwl_D cA h0 m) hw.2 (t - 1) 2 (u - 1) 4 hcell rfl hcu rfl (zin_ok h2) hd (fun H1 locs1 hP hD hS => ?_)
      refine kk H1 locs1 lsC cells slots (zmem_sR ht ?_ hP hS) hl rfl rfl
      have h1' : zKi (zsR m t i.toNatClampNeg u) t = 2 := h1
      have key : (fun j => zrf h0 (zRf (zsR m t i.toNatClampNeg u) t j)) = va_up (fun j => zrf h0 (zRf m t j)) i.toNatClampNeg (some (h0 + u)) := by
        funext j
        rw [zsR_rf_self h5 h4]
        unfold va_up
        by_cases hj : j = i.toNatClampNeg
        · rw [if_pos hj, if_pos hj]
          unfold zrf
          rw [if_neg hu]
        · rw [if_neg hj, if_neg hj]
      rw [zent_2 h1', key]
      rfl
    next => cases h
  next => cases h
theorem zs_alen (hd : decode (zB y) pc = .ok (.arraylength, 1)) (h : zalen X pc ls st m = some (.inl q)) : zSp D cA b h0 X HL y pc ls st m q := by
  unfold zalen at h
  split at h
  next t st =>
    split at h
    next ht =>
      subst ht
      split at h
      next hc0 =>
        cases zgo_inv h
        intro l p e R s mi args below meth c H locs cells slots Q lsC hc hw hz hl hk1 hk2 kk
        obtain ⟨-, -, hX, hH, hb⟩ := hc.2.2.2.2.2.1
        show W p l _ R s mi args below meth c H locs cells slots Q (F0 mi pc lsC (.ref b :: st.map (zv b h0)))
        exact va_slen hc.1 hc.2.1 hX (by omega) (Nat.not_lt.mpr hb) hw.2 hd (kk H locs lsC cells slots hw hl rfl rfl)
      next => cases h
    next ht =>
      split at h
      next hc0 =>
        cases zgo_inv h
        intro l p e R s mi args below meth c H locs cells slots Q lsC hc hw hz hl hk1 hk2 kk
        show W p l _ R s mi args below meth c H locs cells slots Q (F0 mi pc lsC (.ref (zad b h0 t) :: st.map (zv b h0)))
        rw [zad_ne ht]
        have hk : zKi m t = 0 ∨ zKi m t = 1 ∨ zKi m t = 2 := by omega
        rcases hk with hk | hk | hk
        · have hcell := zwl_get (cA := cA) (h0 := h0) ht hk (by omega)
          rw [zent_0 hk] at hcell
          exact va_alen hc.1 hc.2.1 hc.2.2.2.2.2.1.1 hw.1 (t - 1) 0 hcell rfl rfl hd (kk H locs lsC cells slots hw hl rfl rfl)
        · have hcell := zwl_get (cA := cA) (h0 := h0) ht hk (by omega)
          rw [zent_1 hk] at hcell
          exact va_alen hc.1 hc.2.1 hc.2.2.2.2.2.1.1 hw.1 (t - 1) 1 hcell rfl rfl hd (kk H locs lsC cells slots hw hl rfl rfl)
        · have hcell := zwl_get (cA := cA) (h0 := h0) ht hk (by omega)
          rw [zent_2 hk] at hcell
          exact va_alen hc.1 hc.2.1 hc.2.2.2.2.2.1.1 hw.1 (t - 1) 2 hcell rfl rfl hd (kk H locs lsC cells slots hw hl rfl rfl)
      next => cases h
  next => cases h
/-- where the new cell lies -/
theorem znew_at {H1 : Heap} {e : va_E} {qa N : Nat} (hm : 0 < m.2.1.length) (hP : va_P D zcl (zwl cA h0 m ++ [(qa, e)]) H1) (hD : va_D (zAf h0) (zwl cA h0 m ++ [(qa, e)])) (hN : N = h0 + m.2.1.length) (hu : H1.size ≤ N + 1) : qa = h0 + m.2.1.length := by
  have hl : (zwl cA h0 m).length = m.2.1.length - 1 := by unfold zwl; simp
  have hg : (zwl cA h0 m ++ [(qa, e)])[m.2.1.length - 1]? = some (qa, e) := by
    rw [List.getElem?_append_right (by omega), hl]
    simp
  have h1 := (hP _ _ hg).lt
  have h2 : h0 < qa := hD.2 _ _ hg
  dsimp only at h1
  rcases Nat.lt_or_ge qa (h0 + m.2.1.length) with z | z
  · exfalso
    have h3 : (zwl cA h0 m ++ [(qa, e)])[qa - h0 - 1]? = some (h0 + (qa - h0 - 1 + 1), zent cA h0 m (qa - h0 - 1 + 1)) := by
      rw [List.getElem?_append_left (by omega)]
      unfold zwl
      rw [List.getElem?_map, List.getElem?_range (by omega)]
      rfl
    have h4 := hD.1 _ _ _ _ hg h3 (by show qa = h0 + (qa - h0 - 1 + 1); omega)
    omega
  · omega
theorem zwf_pos (h : zwf m = true) : 0 < m.2.1.length := by
  unfold zwf at h
  simp only [Bool.and_eq_true, decide_eq_true_eq] at h
  exact h.2
theorem zalloc_len (kd n : Nat) : (zalloc m kd n).2.1.length = m.2.1.length + 1 := by
  show (m.2.1 ++ [kd]).length = _
  rw [List.length_append]
  rfl
theorem znewa_inv {kd k : Nat} (h : znewa kd pc k ls st m = some (.inl q)) : ∃ x st', st = .int x :: st' ∧ ¬ x < 0 ∧ x.toNatClampNeg ≤ 100000 ∧ zwf m = true ∧ q = (pc + k, ls, .ref m.2.1.length :: st', zalloc m kd x.toNatClampNeg) := by
  unfold znewa at h
  split at h
  next x st' =>
    split at h
    next hc0 => exact ⟨x, st', rfl, hc0.1, hc0.2.1, hc0.2.2, zgo_inv h⟩
    next => cases h
  next => cases h
theorem zv_new (hm : 0 < m.2.1.length) : zv b h0 (.ref m.2.1.length) = .ref (h0 + m.2.1.length) := by
  show Value.ref (zad b h0 _) = _
  rw [zad_ne (by omega)]
theorem zs_newa {at0 : ArrayType} {ty : FieldType} {kd k t0 : Nat} (hd : decode (zB y) pc = .ok (.newarray at0, 2)) (hty : newarray.typeOf at0 = ty) (hcb : componentBytes ty ≤ 4) (hdv : defaultValue ty = .int 0) (hra : ∀ (U : State) (cB : ClassId), va_RA U cB ty → U.vm.findClass ("[" ++ ty.toString) = some cB)
    (hwd : Cond.arrayClass ty ∈ lw_tbl) (htk : ∀ c : Nat → ClassId, (zTy c)[kd]? = some (c kd, ty)) (hen : ∀ (z : zM) (t : Nat), zKi z t = kd → zent cA h0 z t = .inl (cA kd, zLe z t, .inl (zI z t))) (h : znewa kd pc 2 ls st m = some (.inl q)) : zSp D cA b h0 X HL y pc ls st m q := by
  obtain ⟨x, st', rfl, hx, hx2, hwf, rfl⟩ := znewa_inv h
  obtain ⟨f1, f2, -, f4⟩ := zalloc_facts (m := m) (kd := kd) (n := x.toNatClampNeg) hwf
  have hm := zwf_pos hwf
  intro l p e R s mi args below meth c H locs cells slots Q lsC hc hw hz hl hk1 hk2 kk
  have hk1 : cells + (zalloc m kd x.toNatClampNeg).2.1.length ≤ R.cells + m.2.1.length := hk1
  have hk2 : slots + (m.1 + x.toNatClampNeg) ≤ R.slots + m.1 := hk2
  rw [zalloc_len] at hk1
  have hK := hc.2.2.2.2.2.1.1
  have hH := hc.2.2.2.2.2.1.2.2.2.1
  have hwg : Cond.arrayClass ty ∈ zTT := zTT_in hwd rfl
  refine va_newa (a0 := (x.toNatClampNeg, .inl (fun _ => 0))) hc.1 hc.2.1 (hty ▸ hc.2.2.2.2.1 _ hwg) hty hK hw.1 (zwl_D cA h0 m) hw.2 (fun z hzz => by show h0 < z; omega) (fun cB => by rw [vp_cell_i, hdv]) hx rfl (Nat.le_trans (Nat.mul_le_mul hx2 hcb) (by decide)) (by omega) (by omega) hd (fun qa cB H1 hK1 hP hD hS => ?_)
  refine zW_size (fun hu => ?_)
  have hqa := znew_at hm hP hD hz (by omega)
  have hcB : cB = cA kd := by
    have g1 := (hK1.2 3 (cB, ty) (by rw [List.getElem?_append_right (show (zTy cA).length ≤ 3 from Nat.le_refl 3)]; rfl)).2
    have g2 := (hK.2 kd (cA kd, ty) (htk cA)).2
    exact Option.some.inj ((hra _ _ g1).symm.trans (hra _ _ g2))
  subst hqa
  subst hcB
  have he : zent cA h0 (zalloc m kd x.toNatClampNeg) m.2.1.length = .inl (cA kd, x.toNatClampNeg, .inl (fun _ => 0)) := by rw [hen _ _ f1, f2, f4]
  rw [zwl_push hwf he] at hP
  have k1 := kk H1 locs lsC (cells + 1) (slots + x.toNatClampNeg) ⟨hP, hS⟩ hl (by show cells + 1 + m.2.1.length = cells + (zalloc m kd x.toNatClampNeg).2.1.length; rw [zalloc_len]; omega) (by show slots + x.toNatClampNeg + m.1 = slots + (m.1 + x.toNatClampNeg); omega)
  rw [show (Value.ref m.2.1.length :: st').map (zv b h0) = zv b h0 (.ref m.2.1.length) :: st'.map (zv b h0) from rfl, zv_new hm] at k1
  exact k1
theorem zs_newa_i (hd : decode (zB y) pc = .ok (.newarray .int, 2)) (h : znewa 0 pc 2 ls st m = some (.inl q)) : zSp D cA b h0 X HL y pc ls st m q :=
  zs_newa (k := 0) (t0 := 0) hd rfl (by decide) rfl (fun U cB z => z) (zw_in zw_int) (fun c => rfl) (fun z t e => zent_0 e) h
theorem zs_newa_z (hd : decode (zB y) pc = .ok (.newarray .boolean, 2)) (h : znewa 1 pc 2 ls st m = some (.inl q)) : zSp D cA b h0 X HL y pc ls st m q :=
  zs_newa (k := 0) (t0 := 0) hd rfl (by decide) rfl (fun U cB z => z) (zw_in zw_bool) (fun c => rfl) (fun z t e => zent_1 e) h
theorem zs_newq {i w : Nat} (hd : decode (zB y) pc = .ok (.anewarray i, 3)) (hzw : zw w (.classLink (zOw y) i "FiveInks$Sheet") = true) (hg : goodWord (.classLink (zOw y) i "FiveInks$Sheet") = true) (h : znewa 2 pc 3 ls st m = some (.inl q)) : zSp D cA b h0 X HL y pc ls st m q := by
  obtain ⟨x, st', rfl, hx, hx2, hwf, rfl⟩ := znewa_inv h
  obtain ⟨f1, f2, f3, -⟩ := zalloc_facts (m := m) (kd := 2) (n := x.toNatClampNeg) hwf
  have hm := zwf_pos hwf
  intro l p e R s mi args below meth c H locs cells slots Q lsC hc hw hz hl hk1 hk2 kk
  have hk1 : cells + (zalloc m 2 x.toNatClampNeg).2.1.length ≤ R.cells + m.2.1.length := hk1
  have hk2 : slots + (m.1 + x.toNatClampNeg) ≤ R.slots + m.1 := hk2
  rw [zalloc_len] at hk1
  have hK := hc.2.2.2.2.2.1.1
  have hH := hc.2.2.2.2.2.1.2.2.2.1
  refine va_newq hc.1 hc.2.1 hc.2.2.2.1 (hc.2.2.2.2.1 _ (zTT_mem hzw hg)) hc.2.2.2.2.2.1.2.1.2 hK hw.1 (zwl_D cA h0 m) hw.2 (fun z hzz => by show h0 < z; omega) hx rfl (Nat.le_trans (Nat.mul_le_mul hx2 (Nat.le_refl 4)) (by decide)) (by omega) (by omega) hd (fun qa cB H1 hK1 hP hD hS => ?_)
  refine zW_size (fun hu => ?_)
  have hqa := znew_at hm hP hD hz (by omega)
  have hcB : cB = cA 2 := by
    obtain ⟨_, _, _, _, _, g1⟩ := (hK1.2 3 (cB, .object "FiveInks$Sheet") (by rw [List.getElem?_append_right (show (zTy cA).length ≤ 3 from Nat.le_refl 3)]; rfl)).2
    obtain ⟨_, _, _, _, _, g2⟩ := (hK.2 2 (cA 2, .object "FiveInks$Sheet") rfl).2
    exact Option.some.inj (g1.symm.trans g2)
  subst hqa
  subst hcB
  have he : zent cA h0 (zalloc m 2 x.toNatClampNeg) m.2.1.length = .inl (cA 2, x.toNatClampNeg, .inr (.inr (.inr (.inr (fun _ => none))))) := by
    rw [zent_2 f1, f2]
    simp only [f3]
    rfl
  rw [zwl_push hwf he] at hP
  have k1 := kk H1 locs lsC (cells + 1) (slots + x.toNatClampNeg) ⟨hP, hS⟩ hl (by show cells + 1 + m.2.1.length = cells + (zalloc m 2 x.toNatClampNeg).2.1.length; rw [zalloc_len]; omega) (by show slots + x.toNatClampNeg + m.1 = slots + (m.1 + x.toNatClampNeg); omega)
  rw [show (Value.ref m.2.1.length :: st').map (zv b h0) = zv b h0 (.ref m.2.1.length) :: st'.map (zv b h0) from rfl, zv_new hm] at k1
  exact k1
theorem zs_new {i a w : Nat} (hd : decode (zB y) pc = .ok (.new i, 3)) (ha : a < 11) (hzw : zw w (.classLink (zOw y) i (zCl a)) = true) (hg : goodWord (.classLink (zOw y) i (zCl a)) = true) (h : znew a pc ls st m = some (.inl q)) : zSp D cA b h0 X HL y pc ls st m q := by
  unfold znew at h
  split at h
  next hwf =>
    cases zgo_inv h
    obtain ⟨f1, f2, f3, f4⟩ := zalloc_facts (m := m) (kd := a + 3) (n := zNf a) hwf
    have hm := zwf_pos hwf
    obtain ⟨r, er, e2, hin, hins, hini⟩ := zCk_ok ha
    obtain ⟨ty0, ht1, ht2, ht3⟩ := zTb_ok ha er
    have e3 : zCl a = r.1 := by unfold zCl; rw [er]
    rw [e3] at hzw hg
    intro l p e R s mi args below meth c H locs cells slots Q lsC hc hw hz hl hk1 hk2 kk
    have hk1 : cells + (zalloc m (a + 3) (zNf a)).2.1.length ≤ R.cells + m.2.1.length := hk1
    have hk2 : slots + (m.1 + zNf a) ≤ R.slots + m.1 := hk2
    rw [zalloc_len] at hk1
    have hK := hc.2.2.2.2.2.1.1
    have hH := hc.2.2.2.2.2.1.2.2.2.1
    have hr : zcl[a]? = some (r.1, r.2.1, r.2.2) := er
    have he : zent cA h0 (zalloc m (a + 3) (zNf a)) m.2.1.length = .inr (a, (List.range (zNf a)).map (fun k => if zFk a k = 2 then .null else .int 0)) := by
      rw [zent_3 f1, f2]
      congr 3
      funext k
      unfold zfv
      rw [f3 k, f4]
      rfl
    refine va_new (fs := (List.range (zNf a)).map (fun k => if zFk a k = 2 then .null else .int 0)) hc.1 hc.2.1 hc.2.2.2.2.1 hin ty0 ht1 hc.2.2.2.1 (hc.2.2.2.2.1 _ (zTT_mem hzw hg)) (hc.2.2.2.2.1 _ hins) (hc.2.2.2.2.1 _ hini) hK hw.1 (zwl_D cA h0 m) hw.2 (fun z hzz => by show h0 < z; omega) hr (fun j hj => ?_) (by omega) (by omega) hd (fun qa H1 hP hD hS => ?_)
    · rw [ht3 j hj]
      unfold vp_V
      rw [List.getD_eq_getElem?_getD, List.getElem?_map, List.getElem?_range (by omega)]
      rfl
    refine zW_size (fun hu => ?_)
    have hqa := znew_at hm hP hD hz (by omega)
    subst hqa
    rw [zwl_push hwf he] at hP
    have k1 := kk H1 locs lsC (cells + 1) (slots + r.2.2) ⟨hP, hS⟩ hl (by show cells + 1 + m.2.1.length = cells + (zalloc m (a + 3) (zNf a)).2.1.length; rw [zalloc_len]; omega) (by show slots + r.2.2 + m.1 = slots + (m.1 + zNf a); omega)
    rw [show (Value.ref m.2.1.length :: st).map (zv b h0) = zv b h0 (.ref m.2.1.length) :: st.map (zv b h0) from rfl, zv_new hm] at k1
    exact k1
  next => cases h
theorem zs_acopy {i w : Nat} (hd : decode (zB y) pc = .ok (.invokestatic i, 3)) (hzw : zw w (.methodLink (zOw y) i arraycopyName) = true) (hg : goodWord (.methodLink (zOw y) i arraycopyName) = true) (hF : 1 ≤ zF y) (hO : 26 ≤ zO y) (h : zacopy pc ls st m = some (.inl q)) : zSp D cA b h0 X HL y pc ls st m q := by
  unfold zacopy at h
  split at h
  next nn dp d sp t st =>
    split at h
    next hc0 =>
      obtain ⟨ht, hdd, h1, h2, h3, h4, h5, h6, h7, h8⟩ := hc0
      subst h8
      cases zgo_inv h
      intro l p e R s mi args below meth c H locs cells slots Q lsC hc hw hz hl hk1 hk2 kk
      have hct := zwl_get (cA := cA) (h0 := h0) ht h1 (by omega)
      rw [zent_0 h1] at hct
      have hcd := zwl_get (cA := cA) (h0 := h0) hdd h2 (by omega)
      rw [zent_0 h2] at hcd
      have hml : c.maxLocals = lsC.size := by rw [hc.2.2.1]; exact hl.1.1.symm
      show W p l _ R s mi args below meth c H locs cells slots Q (F0 mi pc lsC (.int nn :: .int dp :: .ref (zad b h0 d) :: .int sp :: .ref (zad b h0 t) :: []))
      rw [zad_ne ht, zad_ne hdd]
      refine va_copyi hc.1 hc.2.1 hml hc.2.2.2.1 (hc.2.2.2.2.1 _ (zTT_mem hzw hg)) (hc.2.2.2.2.1 _ (zTT_mem zw_sn rfl)) (hc.2.2.2.2.1 _ (zTT_mem zw_ss rfl)) (hc.2.2.2.2.1 _ (zTT_mem zw_si rfl)) hc.2.2.2.2.2.1.1 hw.1 (zwl_D cA h0 m) hw.2 (t - 1) (d - 1) 0 0 hct hcd rfl rfl rfl h3 h4 h5 h6 h7 (fun _ _ => rfl) (Nat.le_trans hF hc.2.2.2.2.2.2.1) ?_ hd (fun H1 locs1 hP hD hS => ?_)
      · have h9 : nativeFrameWords "java/lang/System" "arraycopy" 5 = 7 := by decide
        rw [h9]
        have h10 := hc.2.2.2.2.2.2.2.1
        show 0 + (7 + 11) ≤ R.locals
        omega
      · refine kk H1 locs1 lsC cells slots (zmem_sI hdd ?_ hP hS) hl rfl rfl
        have h2' : zKi (zsI m d (va_cpy (zI m t) (zI m d) sp.toNatClampNeg dp.toNatClampNeg nn.toNatClampNeg)) d = 0 := h2
        rw [zent_0 h2', zsI_self]
        rfl
    next => cases h
  next => cases h
theorem zcat_sum (st : List Value) : ((st.map (zv b h0)).map fun v => v.category).sum = (st.map fun v => v.category).sum := by
  rw [List.map_map]
  congr 2
  funext v
  exact zv_cat b h0 v
theorem zs_min {i w : Nat} (hd : decode (zB y) pc = .ok (.invokestatic i, 3)) (hzw : zw w (.methodLink (zOw y) i Lib.Math.min.name) = true) (hg : goodWord (.methodLink (zOw y) i Lib.Math.min.name) = true) (hF : 1 ≤ zF y) (hO : 21 ≤ zO y) (h : zmin pc ls st m = some (.inl q)) : zSp D cA b h0 X HL y pc ls st m q := by
  unfold zmin at h
  split at h
  next yv xv st =>
    split at h
    next hs =>
      cases zgo_inv h
      intro l p e R s mi args below meth c H locs cells slots Q lsC hc hw hz hl hk1 hk2 kk
      have hml : c.maxLocals = lsC.size := by rw [hc.2.2.1]; exact hl.1.1.symm
      have h10 := hc.2.2.2.2.2.2.2.1
      have hk1 : cells + m.2.1.length ≤ R.cells + m.2.1.length := hk1
      have hk2 : slots + m.1 ≤ R.slots + m.1 := hk2
      refine va_mmin hc.1 hc.2.1 hml hc.2.2.2.1 (hc.2.2.2.2.1 _ (zTT_mem hzw hg)) (hc.2.2.2.2.1 _ (zTT_mem zw_ms rfl)) (hc.2.2.2.2.1 _ (zTT_mem zw_mi rfl)) (hc.2.2.2.2.1 _ (zTT_mem zw_mc rfl)) (Nat.le_trans hF hc.2.2.2.2.2.2.1) ?_ (by omega) (by omega) hd (kk H locs lsC cells slots hw hl rfl rfl)
      rw [zcat_sum]
      omega
    next => cases h
  next => cases h
theorem zs_oinit {i w : Nat} (hd : decode (zB y) pc = .ok (.invokespecial i, 3)) (hzw : zw w (.methodLink (zOw y) i objectInit) = true) (hg : goodWord (.methodLink (zOw y) i objectInit) = true) (hF : 1 ≤ zF y) (hO : 20 ≤ zO y) (h : zoinit pc ls st m = some (.inl q)) : zSp D cA b h0 X HL y pc ls st m q := by
  unfold zoinit at h
  split at h
  next t st =>
    split at h
    next hs =>
      cases zgo_inv h
      intro l p e R s mi args below meth c H locs cells slots Q lsC hc hw hz hl hk1 hk2 kk
      have h10 := hc.2.2.2.2.2.2.2.1
      refine W.objInit hc.1 hc.2.1 hc.2.2.2.1 (hc.2.2.2.2.1 _ (zTT_mem hzw hg)) (hc.2.2.2.2.1 _ (zTT_mem zw_oi rfl)) (hc.2.2.2.2.1 _ (zTT_mem zw_oc rfl)) rfl (by rw [hc.2.2.1]; exact hl.1.1) rfl hd (Nat.le_trans hF hc.2.2.2.2.2.2.1) ?_ ?_
      · rw [zcat_sum]
        show 2 * 0 + _ + 12 ≤ R.locals
        omega
      · exact kk H locs lsC cells slots hw hl rfl rfl
    next => cases h
  next => cases h
end ZU
end
section
/-! THE PURE MACHINE IS SOUND, part 5: every step -/
section ZV
variable {D : va_G} {cA : Nat → ClassId} {b h0 : Nat} {X : Nat × (Nat → Int32)} {HL : Heap} {y pc n : Nat} {ls st : List Value} {m : zM} {q : Nat × List Value × List Value × zM}
theorem zcall_ninl {k : Nat} (h : zcall k st m = some (.inl q)) : False := by
  unfold zcall at h
  split at h
  next => cases h
  next => cases h
theorem zret_ninl (h : zret y st m = some (.inl q)) : False := by
  unfold zret at h
  split at h
  next =>
    split at h
    next => cases h
    next =>
      split at h
      next => cases h
      next => cases h
    next => cases h
  next => cases h
theorem zn1 {i : Instr} {k : Nat} (h : zlen i n = true) (e : zlen i n = (n == k)) : n = k := by
  rw [e] at h
  exact eq_of_beq h
theorem zact_sound (h : zact X y pc ls st m = some (.inl q)) : zSp D cA b h0 X HL y pc ls st m q := by
  unfold zact at h
  split at h
  next r hr =>
    have ok := zT_ok hr
    obtain ⟨i, n, a, bb, w⟩ := r
    unfold zOK at ok
    simp only [Bool.and_eq_true, decide_eq_true_eq] at ok
    obtain ⟨⟨hd, hn⟩, hw⟩ := ok
    cases i with
    | aload_n k => cases zn1 hn rfl; exact zs_aload_n hd h
    | aload k => cases zn1 hn rfl; exact zs_aload hd h
    | iload_n k => cases zn1 hn rfl; exact zs_iload_n hd h
    | iload k => cases zn1 hn rfl; exact zs_iload hd h
    | lload_n k => cases zn1 hn rfl; exact zs_lload_n hd h
    | lload k => cases zn1 hn rfl; exact zs_lload hd h
    | istore_n k => cases zn1 hn rfl; exact zs_istore_n hd h
    | istore k => cases zn1 hn rfl; exact zs_istore hd h
    | astore_n k => cases zn1 hn rfl; exact zs_astore_n hd h
    | astore k => cases zn1 hn rfl; exact zs_astore hd h
    | lstore_n k => cases zn1 hn rfl; exact zs_lstore_n hd h
    | lstore k => cases zn1 hn rfl; exact zs_lstore hd h
    | iconst k => cases zn1 hn rfl; exact zs_iconst hd h
    | bipush k => cases zn1 hn rfl; exact zs_bipush hd h
    | sipush k => cases zn1 hn rfl; exact zs_sipush hd h
    | lconst k => cases zn1 hn rfl; exact zs_lconst hd h
    | ldc2_w k =>
      cases zn1 hn rfl
      unfold zRw at hw
      simp only [Bool.and_eq_true] at hw
      exact zs_ldc2 hd hw.1 hw.2 h
    | getfield k => cases zn1 hn rfl; exact zs_get hd hw h
    | putfield k =>
      cases zn1 hn rfl
      unfold zRw at hw
      have hw := hw
      rw [Bool.and_eq_true] at hw
      exact zs_put hd hw.1 hw.2 h
    | iaload => cases zn1 hn rfl; exact zs_iald hd h
    | baload => cases zn1 hn rfl; exact zs_bald hd h
    | aaload => cases zn1 hn rfl; exact zs_aald hd h
    | iastore => cases zn1 hn rfl; exact zs_iast hd h
    | bastore => cases zn1 hn rfl; exact zs_bast hd h
    | aastore => cases zn1 hn rfl; exact zs_aast hd h
    | arraylength => cases zn1 hn rfl; exact zs_alen hd h
    | newarray t =>
      cases t with
      | int => cases zn1 hn rfl; exact zs_newa_i hd h
      | boolean => cases zn1 hn rfl; exact zs_newa_z hd h
      | _ => cases h
    | anewarray k =>
      cases zn1 hn rfl
      unfold zRw at hw
      simp only [Bool.and_eq_true] at hw
      exact zs_newq hd hw.1 hw.2 h
    | new k =>
      cases zn1 hn rfl
      unfold zRw at hw
      simp only [Bool.and_eq_true, decide_eq_true_eq] at hw
      exact zs_new hd hw.2 hw.1.1 hw.1.2 h
    | iadd => cases zn1 hn rfl; exact zs_iadd hd h
    | isub => cases zn1 hn rfl; exact zs_isub hd h
    | imul => cases zn1 hn rfl; exact zs_imul hd h
    | iand => cases zn1 hn rfl; exact zs_iand hd h
    | ixor => cases zn1 hn rfl; exact zs_ixor hd h
    | idiv => cases zn1 hn rfl; exact zs_idiv hd h
    | irem => cases zn1 hn rfl; exact zs_irem hd h
    | iinc k d => cases zn1 hn rfl; exact zs_iinc hd h
    | i2l => cases zn1 hn rfl; exact zs_i2l hd h
    | l2i => cases zn1 hn rfl; exact zs_l2i hd h
    | land => cases zn1 hn rfl; exact zs_land hd h
    | lor => cases zn1 hn rfl; exact zs_lor hd h
    | lcmp => cases zn1 hn rfl; exact zs_lcmp hd h
    | lshl => cases zn1 hn rfl; exact zs_lshl hd h
    | lushr => cases zn1 hn rfl; exact zs_lushr hd h
    | dup => cases zn1 hn rfl; exact zs_dup hd h
    | dup2 => cases zn1 hn rfl; exact zs_dup2 hd h
    | pop => cases zn1 hn rfl; exact zs_pop hd h
    | goto off => cases zn1 hn rfl; exact zs_goto hd h
    | ifCond c off =>
      cases zn1 hn rfl
      have h : (match st with | .int x :: st => zbr pc ls m off (zcmp c x 0) st | _ => none) = some (.inl q) := h
      split at h
      next => exact zs_if1 hd h
      next => cases h
    | if_icmp c off =>
      cases zn1 hn rfl
      have h : (match st with | .int y :: .int x :: st => zbr pc ls m off (zcmp c x y) st | _ => none) = some (.inl q) := h
      split at h
      next => exact zs_if2 hd h
      next => cases h
    | tableswitch d lo hi offs => exact zs_table hd h
    | lookupswitch d ps => exact zs_lookup hd h
    | ireturn => exact (zret_ninl h).elim
    | return_ =>
      have h2 : (if st = [] ∧ zRt y = none then (some (.inr (.inl (none, m))) : zRes) else none) = some (.inl q) := h
      split at h2
      next => cases h2
      next => cases h2
    | invokevirtual k => exact (zcall_ninl h).elim
    | invokespecial k =>
      have h2 : (if a = 1000 then zoinit pc ls st m else zcall a st m) = some (.inl q) := h
      split at h2
      next ha =>
        cases zn1 hn rfl
        unfold zRw at hw
        dsimp only at hw
        rw [if_pos ha] at hw
        simp only [Bool.and_eq_true, decide_eq_true_eq] at hw
        exact zs_oinit hd hw.1.1.1 hw.1.1.2 hw.1.2 hw.2 h2
      next => exact (zcall_ninl h2).elim
    | invokestatic k =>
      have h2 : (if a = 1001 then zacopy pc ls st m else if a = 1002 then zmin pc ls st m else zcall a st m) = some (.inl q) := h
      split at h2
      next ha =>
        cases zn1 hn rfl
        unfold zRw at hw
        dsimp only at hw
        rw [if_pos ha] at hw
        simp only [Bool.and_eq_true, decide_eq_true_eq] at hw
        exact zs_acopy hd hw.1.1.1 hw.1.1.2 hw.1.2 hw.2 h2
      next ha =>
        split at h2
        next ha2 =>
          cases zn1 hn rfl
          unfold zRw at hw
          dsimp only at hw
          rw [if_neg ha, if_pos ha2] at hw
          simp only [Bool.and_eq_true, decide_eq_true_eq] at hw
          exact zs_min hd hw.1.1.1 hw.1.1.2 hw.1.2 hw.2 h2
        next => exact (zcall_ninl h2).elim
    | _ => cases h
  next => cases h
/-- nothing is taken away from a memory -/
theorem zins_mono {r : zRow} (h : zins X y r pc ls st m = some (.inl q)) : m.2.1.length ≤ q.2.2.2.2.1.length ∧ m.1 ≤ q.2.2.2.1 := by
  have key : ∀ (p1 : Nat) (l1 s1 : List Value) (m1 : zM), zgo p1 l1 s1 m1 = some (.inl q) → (m.2.1.length ≤ m1.2.1.length ∧ m.1 ≤ m1.1) → m.2.1.length ≤ q.2.2.2.2.1.length ∧ m.1 ≤ q.2.2.2.1 := by
    intro p1 l1 s1 m1 e e2
    cases zgo_inv e
    exact e2
  have key2 : ∀ (kd k : Nat), m.2.1.length ≤ (zalloc m kd k).2.1.length ∧ m.1 ≤ (zalloc m kd k).1 := by
    intro kd k
    refine ⟨?_, Nat.le_add_right _ _⟩
    show _ ≤ (m.2.1 ++ [kd]).length
    rw [List.length_append]
    omega
  unfold zins at h
  split at h
  all_goals (try unfold zlda at h); (try unfold zld at h); (try unfold zldl at h); (try unfold zst at h); (try unfold zsta at h); (try unfold zstl at h); (try unfold zget at h); (try unfold zput at h); (try unfold ziald at h); (try unfold zbald at h); (try unfold zaald at h); (try unfold ziast at h); (try unfold zbast at h); (try unfold zaast at h); (try unfold zalen at h); (try unfold znewa at h); (try unfold znew at h); (try unfold zi2 at h); (try unfold zl2 at h); (try unfold zl1 at h); (try unfold zinc at h); (try unfold zbr at h); (try unfold zoinit at h); (try unfold zacopy at h); (try unfold zmin at h)
  all_goals (repeat' (split at h))
  all_goals first
    | (cases h; done)
    | exact key _ _ _ _ h ⟨Nat.le_refl _, Nat.le_refl _⟩
    | exact key _ _ _ _ h (key2 _ _)
    | exact (zcall_ninl h).elim
    | exact (zret_ninl h).elim
theorem zact_mono (h : zact X y pc ls st m = some (.inl q)) : m.2.1.length ≤ q.2.2.2.2.1.length ∧ m.1 ≤ q.2.2.2.1 := by
  unfold zact at h
  split at h
  next => exact zins_mono h
  next => cases h
end ZV
end
section
/-! THE PURE MACHINE IS SOUND, part 6: calls, answers, runs -/
def zEnd (y pc : Nat) (v : Option Value) : Prop := (v = none ∧ decode (zB y) pc = .ok (.return_, 1) ∧ zRt y = none) ∨ ∃ x : Int32, v = some (.int x) ∧ decode (zB y) pc = .ok (.ireturn, 1) ∧ (zRt y = some .int ∨ (zRt y = some .boolean ∧ (x = 0 ∨ x = 1)))
def zvo (b h0 : Nat) (v : Option Value) : Option Value := v.map (zv b h0)
/-- a run from here answers v and leaves the memory m' -/
def zSr (D : va_G) (cA : Nat → ClassId) (b h0 : Nat) (X : Nat × (Nat → Int32)) (HL : Heap) (y pc : Nat) (ls st : List Value) (m : zM) (v : Option Value) (m' : zM) : Prop :=
  ∀ (l : Launch) (p : Program) (e : Env) (R : Room) (s : State) (mi : MethodId) (args : Array Value) (below : List Frame) (meth : Method) (c : Code) (H : Heap) (locs : List Loc) (cells slots : Nat) (Q : State → Prop) (lsC : Array Slot),
    zCx D cA b h0 X HL y p R s mi args meth c → zWd D cA h0 HL m H locs → s.heap.size + cells = h0 + m.2.1.length → zLs b h0 (zL y) lsC ls → cells + m'.2.1.length ≤ R.cells + m.2.1.length → slots + m'.1 ≤ R.slots + m.1 →
    (∀ (H' : Heap) (locs' : List Loc) (lsC' : Array Slot) (cells' slots' pc' : Nat), zWd D cA h0 HL m' H' locs' → cells' + m.2.1.length = cells + m'.2.1.length → slots' + m.1 = slots + m'.1 → zEnd y pc' v →
      W p l e R s mi args below meth c H' locs' cells' slots' Q (F0 mi pc' lsC' (zvo b h0 v).toList)) →
    W p l e R s mi args below meth c H locs cells slots Q (F0 mi pc lsC (st.map (zv b h0)))
def zQc (D : va_G) (cA : Nat → ClassId) (b h0 : Nat) (HL : Heap) (v : Option Value) (m' : zM) : Array Value → State → Outcome → State → Prop := fun _ _ oc t => oc = .returned (zvo b h0 v) ∧ va_P D zcl (zwl cA h0 m') t.heap ∧ va_S (zAf h0) HL t.heap []
def zPc (D : va_G) (cA : Nat → ClassId) (b h0 : Nat) (X : Nat × (Nat → Int32)) (HL : Heap) (m : zM) (args : List Value) : Array Value → State → Prop := va_Pc (args.map (zv b h0)) (fun U => U.heap.size = h0 + m.2.1.length ∧ va_P D zcl (zwl cA h0 m) U.heap ∧ va_S (zAf h0) HL U.heap [] ∧ zEnv D cA b h0 X HL U)
section ZX
variable {D : va_G} {cA : Nat → ClassId} {b h0 : Nat} {X : Nat × (Nat → Int32)} {HL : Heap}
theorem zEnv_same {u U : State} (h : u.vm = U.vm) (z : zEnv D cA b h0 X HL u) : zEnv D cA b h0 X HL U :=
  ⟨va_K.moved (h ▸ Vm.Alike.refl u.vm) z.1, zNW_same h z.2.1, va_X.moved (h ▸ Vm.Alike.refl u.vm) z.2.2.1, z.2.2.2⟩
theorem zEnv_warm {u U : State} (h : u.WarmedH U.vm) (z : zEnv D cA b h0 X HL u) : zEnv D cA b h0 X HL U :=
  ⟨va_K.moved h.alike z.1, zNW_warm h z.2.1, va_X.moved h.alike z.2.2.1, z.2.2.2⟩
theorem zPc_blind {m : zM} {args : List Value} : FrameBlind (zPc D cA b h0 X HL m args) := by
  intro a U g mk q
  obtain ⟨q1, q2, q3, q4, q5⟩ := q
  exact ⟨q1, q2, q3, q4, zEnv_same (u := U) (U := U.calling g mk a) rfl q5⟩
/-- the locals with which a method begins -/
theorem zEn_args {b h0 : Nat} (r : Nat) : ∀ (args : List Value) (j : Nat) (w : Nat × Value), w ∈ zll b h0 j ((args.flatMap fun v => if v.category = 2 then [v, .null] else [v]) ++ List.replicate r .null) → w ∈ lv_args j (args.map (zv b h0))
  | [], j, w, h => by
    obtain ⟨a, x⟩ := w
    obtain ⟨-, v, h1, h2, -⟩ := (zll_mem _ j a x).mp h
    have := List.mem_of_getElem? h1
    rw [List.flatMap_nil, List.nil_append] at this
    exact absurd (List.eq_of_mem_replicate this) h2
  | v :: vs, j, w, h => by
    rw [List.flatMap_cons, List.append_assoc] at h
    rw [List.map_cons]
    unfold lv_args
    rw [zv_cat]
    by_cases hc : v.category = 2
    · rw [if_pos hc] at h ⊢
      have hv : v ≠ .null := fun e => by rw [e] at hc; cases hc
      simp only [List.cons_append, List.nil_append] at h
      unfold zll at h
      rw [if_neg hv] at h
      unfold zll at h
      rw [if_pos rfl] at h
      rcases List.mem_cons.mp h with h | h
      · exact List.mem_cons.mpr (Or.inl h)
      · exact List.mem_cons_of_mem _ (zEn_args r vs (j + 1 + 1) w h)
    · rw [if_neg hc] at h ⊢
      simp only [List.cons_append, List.nil_append] at h
      unfold zll at h
      by_cases hv : v = .null
      · rw [if_pos hv] at h
        exact List.mem_cons_of_mem _ (zEn_args r vs (j + 1) w h)
      · rw [if_neg hv] at h
        rcases List.mem_cons.mp h with h | h
        · exact List.mem_cons.mpr (Or.inl h)
        · exact List.mem_cons_of_mem _ (zEn_args r vs (j + 1) w h)
theorem zEn_len {b h0 : Nat} (args : List Value) : (lg_sl (args.map (zv b h0))).length = (args.flatMap fun v => if v.category = 2 then [v, Value.null] else [v]).length := by
  induction args with
  | nil => rfl
  | cons v vs ih =>
    have e : lg_sl ((v :: vs).map (zv b h0)) = (if v.category = 2 then [Slot.val (zv b h0 v), Slot.second] else [Slot.val (zv b h0 v)]) ++ lg_sl (vs.map (zv b h0)) := by
      unfold lg_sl
      rw [List.map_cons, List.flatMap_cons, zv_cat]
    rw [e, List.flatMap_cons, List.length_append, List.length_append, ih]
    by_cases hc : v.category = 2
    · rw [if_pos hc, if_pos hc]; rfl
    · rw [if_neg hc, if_neg hc]; rfl
theorem zEn_ls {k : Nat} {args : List Value} (h : (zEn k args).length = zL k) : zLs b h0 (zL k) ((lg_sl (args.map (zv b h0)) ++ List.replicate (zL k - (lg_sl (args.map (zv b h0))).length) Slot.unset).toArray) (zEn k args) := by
  refine ⟨?_, h⟩
  have h1 : (lg_sl (args.map (zv b h0))).length ≤ zL k := by
    rw [zEn_len, ← h]
    unfold zEn
    rw [List.length_append]
    omega
  have h2 := lv_entry (args.map (zv b h0)) h1
  refine ⟨h2.1, h2.2.1, fun w hw => h2.2.2 w ?_⟩
  unfold zEn at hw
  exact zEn_args _ args 0 w hw
/-- a method's facts -/
theorem zMk_ok {k : Nat} (h : k < 186) : Cond.code (zN k) (zB k) (zL k) (zRt k) ∈ zTT ∧ Cond.initialized (zOw k) ∈ zTT ∧ ((zN k).cls ≠ "java/lang/invoke/MethodHandle" ∧ (zN k).cls ≠ "java/lang/invoke/VarHandle") ∧ (∀ sig, parseMethodDescriptor (zN k).desc = some sig → zA k - (if zSt k then 0 else 1) = sig.parameters.length) ∧ plainFor (zN k) = true ∧
    (zSt k = true → Cond.static (zN k) ∈ zTT) ∧ (zSt k = false → Cond.instanceMethod (zN k) ∈ zTT ∧ (zini k = false → Cond.selects (zOw k) (zN k) (zN k) ∈ zTT) ∧ zCn k < 11 ∧ zCl (zCn k) = zOw k ∧ 1 ≤ zA k) := by
  have h1 := List.all_eq_true.mp zMk_all k (List.mem_range.mpr h)
  unfold zMk at h1
  simp only [Bool.and_eq_true, decide_eq_true_eq] at h1
  obtain ⟨⟨⟨⟨⟨⟨⟨g1, g2⟩, g3⟩, g4⟩, g5⟩, g6⟩, g7⟩, g8⟩ := h1
  refine ⟨zTT_in (zCd_ok h) rfl, zTT_mem g2 g3, ⟨g4, g5⟩, fun sig hs => ?_, g7, fun hz => ?_, fun hz => ?_⟩
  · rw [hs] at g6
    exact (Option.some.inj g6).symm
  · rw [hz, if_pos rfl] at g1
    simp only [Bool.and_eq_true] at g1
    exact zTT_mem g1.1 g1.2
  · rw [hz] at g1 g8
    simp only [Bool.false_eq_true, if_false, Bool.and_eq_true, Bool.or_eq_true, Bool.false_or, decide_eq_true_eq] at g1 g8
    refine ⟨zTT_mem g1.1.1 g1.1.2, fun hi => ?_, g8.1.1, g8.1.2, g8.2⟩
    rcases g1.2 with g | g
    · rw [hi] at g; cases g
    · exact zTT_mem g.1 g.2
/-- THE CONTRACT of a method, out of a pure run of its body -/
theorem zMet {l : Launch} {k : Nat} {args : List Value} {m m' : zM} {v : Option Value} (hk : k < 186) (he : (zEn k args).length = zL k) (hS : zSr D cA b h0 X HL k 0 (zEn k args) [] m v m') (hm1 : m.2.1.length ≤ m'.2.1.length) (hm2 : m.1 ≤ m'.1) :
    Met l (zN k) (.code (zN k) (zB k) (zL k) (zRt k) :: zTT) { frames := zF k, cells := m'.2.1.length - m.2.1.length, slots := m'.1 - m.1, locals := zO k } (zPc D cA b h0 X HL m args) (zQc D cA b h0 HL v m') (m'.2.1.length - m.2.1.length) (m'.1 - m.1) (zAf h0) := by
  obtain ⟨-, -, -, -, hpl, -⟩ := zMk_ok hk
  refine MetFree.of_bodySF (code := zB k) (maxLocals := zL k) (ret := zRt k) hpl ?_ ?_
  · intro args s m h hn
    obtain ⟨meth, c, h1, h2, h3, h4, h5, h6, -, -⟩ := Cond.code_spec hn (atoms_spec (ws := .code (zN k) (zB k) (zL k) (zRt k) :: zTT) h _ List.mem_cons_self)
    exact ⟨meth, c, h1, h2, h3, h4, h5, h6⟩
  · intro p e s mi args' below meth c s₁ B hml hP _
    obtain ⟨rfl, hsz, hw, hva, henv⟩ := hP
    have hh0 : s₁.heap = s.heap := by rw [B.state]; rfl
    have hts := atoms_spec (ws := .code (zN k) (zB k) (zL k) (zRt k) :: zTT) B.pre
    have hlocks := B.notSynchronized
    have hret := B.returns
    have hcx : zCx D cA b h0 X HL k p { frames := zF k, cells := m'.2.1.length - m.2.1.length, slots := m'.1 - m.1, locals := zO k } s mi (args.map (zv b h0)).toArray meth c :=
      ⟨B.exec, B.bytes, hml, findClass_of_methodNamed B.named, fun w hw => hts w (List.mem_cons_of_mem _ hw), henv, Nat.le_refl _, Nat.le_refl _, fun hi => by
        have h1 := (name_of_methodNamed B.named B.method).1
        rw [h1]
        exact of_decide_eq_true hi⟩
    have hbody := hS l p e { frames := zF k, cells := m'.2.1.length - m.2.1.length, slots := m'.1 - m.1, locals := zO k } s mi (args.map (zv b h0)).toArray below meth c s.heap [] 0 0 (MQ below (zQc D cA b h0 HL v m') (args.map (zv b h0)).toArray s (m'.2.1.length - m.2.1.length) (m'.1 - m.1) (zAf h0)) _
      hcx ⟨hw, hva⟩ (by omega) (zEn_ls he) (by show 0 + _ ≤ (m'.2.1.length - m.2.1.length) + _; omega) (by show 0 + _ ≤ (m'.1 - m.1) + _; omega) (fun H' locs' lsC' cells' slots' pc' hw' hc' hs' hend => by
        have e1 : cells' = m'.2.1.length - m.2.1.length := by omega
        have e2 : slots' = m'.1 - m.1 := by omega
        subst e1
        subst e2
        have hfr : ∀ t : State, t.heap = H' → va_P D zcl (zwl cA h0 m') t.heap ∧ va_S (zAf h0) HL t.heap [] := fun t ht => by
          rw [ht]
          exact ⟨hw'.1, hw'.2.1, hw'.2.2.1, fun _ h => by cases h⟩
        rcases hend with ⟨rfl, hd, hr⟩ | ⟨x, rfl, hd, hr⟩
        · exact W.vret B.exec B.bytes (hret.trans hr) (fun t ht _ => ⟨rfl, hfr t ht⟩) hw'.2.2.2 hd hlocks
        · rcases hr with hr | ⟨hr, hx⟩
          · exact W.iret (v := x) B.exec B.bytes (hret.trans hr) (fun t ht _ => ⟨rfl, hfr t ht⟩) hw'.2.2.2 hd hlocks
          · exact W.zret (v := x) B.exec B.bytes (hret.trans hr) (by rcases hx with hx | hx <;> subst hx <;> rfl) (fun t ht _ => ⟨rfl, hfr t ht⟩) hw'.2.2.2 hd hlocks)
    rw [lg_entry_eq]
    obtain ⟨t, a1, o, b1, b2, b3⟩ := hbody s₁ hh0 (Stand.of_body B)
    exact ⟨t, o, a1, b1, b2, ⟨b3.1, b3.2⟩⟩
end ZX
section ZY
variable {p : Program} {l : Launch} {e : Env} {R : Room} {s : State} {mi : MethodId} {args : Array Value} {below : List Frame} {meth : Method} {c : Code} {H : Heap} {locs : List Loc} {cells slots : Nat} {Q : State → Prop}
variable {D : va_G} {cA : Nat → ClassId} {b h0 : Nat} {X : Nat × (Nat → Int32)} {HL : Heap}
/-- behind a call -/
theorem zrun_go {pc mc ms : Nat} {lsC : Array Slot} {stC restC : List Value} {v : Option Value} {m m1 : zM} {a : Array Value} (hr : va_Run p l e R s mi args below meth c H locs cells slots mc ms (F0 mi pc lsC stC) restC (zQc D cA b h0 HL v m1 a) (zAf h0)) (hw : zWd D cA h0 HL m H locs)
    (kk : ∀ (H1 : Heap) (locs1 : List Loc), zWd D cA h0 HL m1 H1 locs1 → W p l e R s mi args below meth c H1 locs1 (cells + mc) (slots + ms) Q (F0 mi (pc + 3) lsC ((zvo b h0 v).toList ++ restC))) : W p l e R s mi args below meth c H locs cells slots Q (F0 mi pc lsC stC) := by
  intro T hT X0
  obtain ⟨v', st₀, t, T', L, h0', X', hL, e1, e2, ⟨hv, hP, hS⟩, st⟩ := hr T hT X0
  cases hv
  obtain ⟨t2, a1, b1⟩ := kk T'.heap (locs ++ L) ⟨by rw [e1]; exact hP, by rw [e1]; exact hS.1, by rw [e1]; exact hS.2.1, fun q hq => by
      rcases List.mem_append.mp hq with h | h
      · exact hw.2.2.2 q h
      · exact hL q h⟩ T' rfl X'
  exact ⟨t2, st t2 a1, b1⟩
theorem zws_in {k : Nat} (hk : k < 186) {w : Cond} (hw : w ∈ (Cond.code (zN k) (zB k) (zL k) (zRt k) :: zTT)) : w ∈ zTT := by
  rcases List.mem_cons.mp hw with rfl | hw
  · exact (zMk_ok hk).1
  · exact hw
theorem zTT_pay (hts : ∀ w ∈ zTT, w.before args s = true) {w : Cond} (hw : w ∈ zTT) : ∀ (a' : Array Value) (U : State), s.WarmedH U.vm → w.before a' U = true := fun a' U hW => word_at hW (good_of_word (List.mem_filter.mp hw).2) (hts w hw)
theorem zins_call {y pc k a bb w n : Nat} {i : Instr} {ls st As rest : List Value} {m : zM} (hi : zins X y (i, n, a, bb, w) pc ls st m = some (.inr (.inr (k, As, rest)))) :
    zcall a st m = some (.inr (.inr (k, As, rest))) ∧ ((∃ j, i = .invokevirtual j) ∨ (∃ j, i = .invokespecial j ∧ a ≠ 1000) ∨ (∃ j, i = .invokestatic j ∧ a ≠ 1001 ∧ a ≠ 1002)) := by
  cases i with
  | invokevirtual j => exact ⟨hi, Or.inl ⟨j, rfl⟩⟩
  | invokespecial j =>
    have h2 : (if a = 1000 then zoinit pc ls st m else zcall a st m) = some (.inr (.inr (k, As, rest))) := hi
    split at h2
    next =>
      unfold zoinit at h2
      split at h2
      next =>
        split at h2
        next => cases h2
        next => cases h2
      next => cases h2
    next ha => exact ⟨h2, Or.inr (Or.inl ⟨j, rfl, ha⟩)⟩
  | invokestatic j =>
    have h2 : (if a = 1001 then zacopy pc ls st m else if a = 1002 then zmin pc ls st m else zcall a st m) = some (.inr (.inr (k, As, rest))) := hi
    split at h2
    next =>
      unfold zacopy at h2
      split at h2
      next =>
        split at h2
        next => cases h2
        next => cases h2
      next => cases h2
    next ha =>
      split at h2
      next =>
        unfold zmin at h2
        split at h2
        next =>
          split at h2
          next => cases h2
          next => cases h2
        next => cases h2
      next ha2 => exact ⟨h2, Or.inr (Or.inr ⟨j, rfl, ha, ha2⟩)⟩
  | ireturn =>
    exfalso
    have h2 : zret y st m = some (.inr (.inr (k, As, rest))) := hi
    unfold zret at h2
    split at h2
    next =>
      split at h2
      next => cases h2
      next =>
        split at h2
        next => cases h2
        next => cases h2
      next => cases h2
    next => cases h2
  | return_ =>
    exfalso
    have h2 : (if st = [] ∧ zRt y = none then (some (.inr (.inl (none, m))) : zRes) else none) = some (.inr (.inr (k, As, rest))) := hi
    split at h2
    next => cases h2
    next => cases h2
  | newarray t =>
    cases t <;> first | (cases hi; done) | (exfalso; unfold zins at hi; dsimp only at hi; unfold znewa at hi; (repeat' (split at hi)) <;> (first | (cases hi; done)))
  | _ =>
    first
    | (cases hi; done)
    | (exfalso; unfold zins at hi; dsimp only at hi; (try unfold zlda at hi); (try unfold zld at hi); (try unfold zldl at hi); (try unfold zst at hi); (try unfold zsta at hi); (try unfold zstl at hi); (try unfold zget at hi); (try unfold zput at hi); (try unfold ziald at hi); (try unfold zbald at hi); (try unfold zaald at hi); (try unfold ziast at hi); (try unfold zbast at hi); (try unfold zaast at hi); (try unfold zalen at hi); (try unfold znewa at hi); (try unfold znew at hi); (try unfold zi2 at hi); (try unfold zl2 at hi); (try unfold zl1 at hi); (try unfold zinc at hi); (try unfold zbr at hi); (repeat' (split at hi)) <;> (first | (cases hi; done)))
theorem zcall_inv {k a : Nat} {st As rest : List Value} {m : zM} (h : zcall a st m = some (.inr (.inr (k, As, rest)))) : a = k ∧ st = As.reverse ++ rest ∧ As.length = zA k ∧ (rest.map fun v => v.category).sum ≤ 8 ∧ k < 186 ∧ 0 < m.2.1.length ∧ (zEn k As).length = zL k ∧ (zSt k = true ∨ zrcv k st m = true) := by
  unfold zcall at h
  split at h
  next hc =>
    cases h
    obtain ⟨h1, h2, h3, h4, h5, h6⟩ := hc
    exact ⟨rfl, by rw [List.reverse_reverse, List.take_append_drop], by rw [List.length_reverse, List.length_take]; omega, h2, h3, h4, h5, h6⟩
  next => cases h
theorem zml_ok {y i k w : Nat} (h : zml y i k w = true) : zF k + 1 ≤ zF y ∧ 8 + (zL k + 11) + zO k ≤ zO y ∧ (Cond.methodLink (zOw y) i (zN k) ∈ zTT ∨ Cond.methodLinkNest (zOw y) i (zN k) "FiveInks" ∈ lw_tbl) := by
  unfold zml at h
  simp only [Bool.and_eq_true, Bool.or_eq_true, decide_eq_true_eq] at h
  obtain ⟨⟨⟨-, h2⟩, h3⟩, h4⟩ := h
  refine ⟨h2, h3, ?_⟩
  rcases h4 with h4 | h4
  · exact Or.inl (zTT_mem h4.1 h4.2)
  · exact Or.inr (zw_in h4)
/-- a call of the pure machine is one of the real one -/
theorem zs_call {y pc k : Nat} {r : zRow} {ls st As rest : List Value} {lsC : Array Slot} {m m1 : zM} {v : Option Value} (hc : zCx D cA b h0 X HL y p R s mi args meth c) (hw : zWd D cA h0 HL m H locs) (hz : s.heap.size + cells = h0 + m.2.1.length) (hl : zLs b h0 (zL y) lsC ls)
    (hr : zT y pc = some r) (hi : zins X y r pc ls st m = some (.inr (.inr (k, As, rest)))) (hS : zSr D cA b h0 X HL k 0 (zEn k As) [] m v m1) (hm1 : m.2.1.length ≤ m1.2.1.length) (hm2 : m.1 ≤ m1.1) (hb1 : cells + m1.2.1.length ≤ R.cells + m.2.1.length) (hb2 : slots + m1.1 ≤ R.slots + m.1)
    (kk : ∀ (H1 : Heap) (locs1 : List Loc), zWd D cA h0 HL m1 H1 locs1 → W p l e R s mi args below meth c H1 locs1 (cells + (m1.2.1.length - m.2.1.length)) (slots + (m1.1 - m.1)) Q (F0 mi (pc + 3) lsC ((zvo b h0 v).toList ++ rest.map (zv b h0)))) :
    W p l e R s mi args below meth c H locs cells slots Q (F0 mi pc lsC (st.map (zv b h0))) := by
  have ok := zT_ok hr
  obtain ⟨i, n, a, bb, w⟩ := r
  unfold zOK at ok
  simp only [Bool.and_eq_true, decide_eq_true_eq] at ok
  obtain ⟨⟨hd, hn⟩, hrw⟩ := ok
  obtain ⟨hcl, hkind⟩ := zins_call hi
  obtain ⟨hak, hst, hAl, hsum, hk, hK0, hEn, hrcv⟩ := zcall_inv hcl
  subst hak
  obtain ⟨hcode, hinit, hnm, hpar, -, hstat, hinst⟩ := zMk_ok hk
  obtain ⟨hx, hb, hml, hown, hts, henv, hFr, hLo, -⟩ := hc
  refine zW_size (fun hu => ?_)
  have hsz := zWd_size hw henv.2.2.2.1 hK0 hz hu
  have hMet := zMet (l := l) (D := D) (cA := cA) (b := b) (h0 := h0) (X := X) (HL := HL) hk hEn hS hm1 hm2
  have hU : ∀ U : State, U.heap = H → s.WarmedH U.vm → zPc D cA b h0 X HL m As (As.map (zv b h0)).toArray U := fun U e1 e2 =>
    ⟨rfl, by rw [e1]; exact hsz, by rw [e1]; exact hw.1, ⟨by rw [e1]; exact hw.2.1, by rw [e1]; exact hw.2.2.1, fun _ z => by cases z⟩, zEnv_warm e2 henv⟩
  have hws : ∀ w ∈ (Cond.code (zN a) (zB a) (zL a) (zRt a) :: zTT), ∀ (a' : Array Value) (U : State), s.WarmedH U.vm → w.before a' U = true := fun w hw9 => zTT_pay hts (zws_in hk hw9)
  have hS0 : CallFix p mi c (zB y) (zL y) s args zTT (zOw y) := ⟨hx, hb, hml, hown, hts⟩
  have hroom : cells + (m1.2.1.length - m.2.1.length) ≤ R.cells ∧ slots + (m1.1 - m.1) ≤ R.slots := ⟨by omega, by omega⟩
  have hcs : 2 * (F0 mi pc lsC (st.map (zv b h0))).monitorRoom + ((rest.map (zv b h0)).map fun v => v.category).sum ≤ 8 := by
    rw [zcat_sum]
    show 2 * 0 + _ ≤ 8
    omega
  have hsize : (F0 mi pc lsC (st.map (zv b h0))).locals.size = zL y := hl.1.1
  -- the receiver
  have hrecv : zSt a = false → ∃ t As', As = .ref t :: As' ∧ t ≠ 0 ∧ zKi m t = zCn a + 3 := by
    intro hz9
    rcases hrcv with h9 | h9
    · rw [hz9] at h9; cases h9
    · unfold zrcv at h9
      split at h9
      next t e9 =>
        simp only [Bool.and_eq_true, decide_eq_true_eq] at h9
        rw [hst, ← hAl, ← List.length_reverse, List.take_left] at e9
        rw [List.getLast?_reverse] at e9
        obtain ⟨As', rfl⟩ : ∃ z, As = .ref t :: z := by
          cases As with
          | nil => cases e9
          | cons q z => exact ⟨z, by rw [show q = .ref t from Option.some.inj e9]⟩
        exact ⟨t, As', rfl, h9.1, h9.2⟩
      next => cases h9
  have hpv : ∀ t As', As = .ref t :: As' → t ≠ 0 → zKi m t = zCn a + 3 → zCn a < 11 → zCl (zCn a) = zOw a → PreV s H (zOw a) (h0 + t) (zPc D cA b h0 X HL m As) (As'.map (zv b h0)) := by
    intro t As' e9 ht hki hc11 hcl9
    obtain ⟨r, er, -⟩ := zCk_ok hc11
    have hcell := zwl_get (cA := cA) (h0 := h0) ht hki (by omega)
    rw [zent_3 hki] at hcell
    have h8 := va_recv henv.1 hw.1 er hcell
    have e8 : r.1 = zOw a := by
      rw [← hcl9]
      unfold zCl
      rw [er]
    rw [e8] at h8
    refine ⟨zPc_blind, h8, fun U e1 e2 => ?_⟩
    have h7 := hU U e1 e2
    rw [e9, List.map_cons] at h7
    rw [e9]
    have e6 : zv b h0 (.ref t) = .ref (h0 + t) := by
      show Value.ref (zad b h0 t) = _
      rw [zad_ne ht]
    rw [e6] at h7
    exact h7
  have hstk : ∀ t As', As = .ref t :: As' → t ≠ 0 → st.map (zv b h0) = (As'.map (zv b h0)).reverse ++ .ref (h0 + t) :: rest.map (zv b h0) := by
    intro t As' e9 ht
    rw [hst, e9, List.reverse_cons, List.map_append, List.map_append, List.map_reverse]
    have e6 : [Value.ref t].map (zv b h0) = [.ref (h0 + t)] := by
      show [Value.ref (zad b h0 t)] = _
      rw [zad_ne ht]
    rw [e6, List.append_assoc]
    rfl
  have harr : ∀ t As', As = .ref t :: As' → t ≠ 0 → (Value.ref (h0 + t) :: As'.map (zv b h0)) = As.map (zv b h0) := by
    intro t As' e9 ht
    rw [e9, List.map_cons]
    show _ = Value.ref (zad b h0 t) :: _
    rw [zad_ne ht]
  rcases hkind with ⟨j, rfl⟩ | ⟨j, rfl, hne⟩ | ⟨j, rfl, hne1, hne2⟩
  · cases zn1 hn rfl
    unfold zRw at hrw
    simp only [Bool.and_eq_true, Bool.not_eq_true'] at hrw
    obtain ⟨⟨hmlk, hst0⟩, hin0⟩ := hrw
    obtain ⟨hf1, hf2, hlk⟩ := zml_ok hmlk
    obtain ⟨hi1, hi2, hc11, hcl9, hA1⟩ := hinst hst0
    obtain ⟨t, As', e9, ht, hki⟩ := hrecv hst0
    have hlen : (As'.map (zv b h0)).length = zA a - (if zSt a then 0 else 1) := by
      rw [hst0, List.length_map]
      rw [e9] at hAl
      simp at hAl ⊢
      omega
    rcases hlk with hlk | hlk
    · have hrun := va_runV (locs := locs) (H := H) (below := below) (meth := meth) (e := e) (g := F0 mi pc lsC (st.map (zv b h0))) (rest := rest.map (zv b h0)) hS0 hMet ⟨⟨rfl, rfl, by show zF a + 1 ≤ R.frames; omega, by show 8 + (zL a + 11) + zO a ≤ R.locals; omega, hws, List.mem_cons_self, hts _ hcode, hts _ hinit, hnm, hpar, hts _ hlk⟩, hts _ hi1, hts _ (hi2 hin0)⟩ (hpv t As' e9 ht hki hc11 hcl9) rfl hlen hsize (hstk t As' e9 ht) hcs hd hroom
      rw [harr t As' e9 ht] at hrun
      exact zrun_go hrun hw kk
    · have hrun := va_runVN (locs := locs) (H := H) (below := below) (meth := meth) (e := e) (g := F0 mi pc lsC (st.map (zv b h0))) (rest := rest.map (zv b h0)) hS0 hMet ⟨⟨⟨rfl, rfl, by show zF a + 1 ≤ R.frames; omega, by show 8 + (zL a + 11) + zO a ≤ R.locals; omega, hws, List.mem_cons_self⟩, hts _ hcode, hts _ hinit, hnm, hpar, va_Nw.use rfl (henv.2.1.1 _ hlk rfl)⟩, hts _ hi1, hts _ (hi2 hin0)⟩ (hpv t As' e9 ht hki hc11 hcl9) rfl hlen hsize (hstk t As' e9 ht) hcs hd hroom
      rw [harr t As' e9 ht] at hrun
      exact zrun_go hrun hw kk
  · cases zn1 hn rfl
    unfold zRw at hrw
    dsimp only at hrw
    rw [if_neg hne] at hrw
    simp only [Bool.and_eq_true, Bool.not_eq_true', decide_eq_true_eq] at hrw
    obtain ⟨⟨⟨hmlk, hst0⟩, hin0⟩, hrt⟩ := hrw
    obtain ⟨hf1, hf2, hlk⟩ := zml_ok hmlk
    obtain ⟨hi1, -, hc11, hcl9, hA1⟩ := hinst hst0
    obtain ⟨t, As', e9, ht, hki⟩ := hrecv hst0
    have hlen : (As'.map (zv b h0)).length = zA a - (if zSt a then 0 else 1) := by
      rw [hst0, List.length_map]
      rw [e9] at hAl
      simp at hAl ⊢
      omega
    have hyn : (zN a).name = "<init>" := of_decide_eq_true hin0
    rw [hrt] at hMet hws hcode
    have hp9 := hpv t As' e9 ht hki hc11 hcl9
    rcases hlk with hlk | hlk
    · have hrun := va_runI (locs := locs) (H := H) (below := below) (meth := meth) (e := e) (g := F0 mi pc lsC (st.map (zv b h0))) (rest := rest.map (zv b h0)) hS0 hMet ⟨⟨rfl, rfl, by show zF a + 1 ≤ R.frames; omega, by show 8 + (zL a + 11) + zO a ≤ R.locals; omega, hws, List.mem_cons_self, hts _ hcode, hts _ hinit, hnm, hpar, hts _ hlk⟩, hyn, hts _ hi1⟩ ⟨hp9.1, hp9.2.2⟩ rfl hlen hsize (hstk t As' e9 ht) hcs hd hroom
      rw [harr t As' e9 ht] at hrun
      exact zrun_go hrun hw kk
    · have hrun := va_runIN (locs := locs) (H := H) (below := below) (meth := meth) (e := e) (g := F0 mi pc lsC (st.map (zv b h0))) (rest := rest.map (zv b h0)) hS0 hMet ⟨⟨⟨rfl, rfl, by show zF a + 1 ≤ R.frames; omega, by show 8 + (zL a + 11) + zO a ≤ R.locals; omega, hws, List.mem_cons_self⟩, hts _ hcode, hts _ hinit, hnm, hpar, va_Nw.use rfl (henv.2.1.1 _ hlk rfl)⟩, hyn, hts _ hi1⟩ ⟨hp9.1, hp9.2.2⟩ rfl hlen hsize (hstk t As' e9 ht) hcs hd hroom
      rw [harr t As' e9 ht] at hrun
      exact zrun_go hrun hw kk
  · cases zn1 hn rfl
    unfold zRw at hrw
    dsimp only at hrw
    rw [if_neg hne1, if_neg hne2] at hrw
    simp only [Bool.and_eq_true] at hrw
    obtain ⟨hmlk, hst0⟩ := hrw
    obtain ⟨hf1, hf2, hlk⟩ := zml_ok hmlk
    have hlen : (As.map (zv b h0)).length = zA a - (if zSt a then 0 else 1) := by
      rw [hst0, List.length_map, hAl]
      rfl
    have hstk2 : st.map (zv b h0) = (As.map (zv b h0)).reverse ++ rest.map (zv b h0) := by
      rw [hst, List.map_append, List.map_reverse]
    rcases hlk with hlk | hlk
    · have hrun := va_runS (locs := locs) (H := H) (below := below) (meth := meth) (e := e) (g := F0 mi pc lsC (st.map (zv b h0))) (rest := rest.map (zv b h0)) (As := As.map (zv b h0)) hS0 hMet ⟨⟨rfl, rfl, by show zF a + 1 ≤ R.frames; omega, by show 8 + (zL a + 11) + zO a ≤ R.locals; omega, hws, List.mem_cons_self, hts _ hcode, hts _ hinit, hnm, hpar, hts _ hlk⟩, hts _ (hstat hst0)⟩ ⟨zPc_blind, hU⟩ rfl hlen hsize hstk2 hcs hd hroom
      exact zrun_go hrun hw kk
    · have hrun := va_runSN (locs := locs) (H := H) (below := below) (meth := meth) (e := e) (g := F0 mi pc lsC (st.map (zv b h0))) (rest := rest.map (zv b h0)) (As := As.map (zv b h0)) hS0 hMet ⟨⟨⟨rfl, rfl, by show zF a + 1 ≤ R.frames; omega, by show 8 + (zL a + 11) + zO a ≤ R.locals; omega, hws, List.mem_cons_self⟩, hts _ hcode, hts _ hinit, hnm, hpar, va_Nw.use rfl (henv.2.1.1 _ hlk rfl)⟩, hts _ (hstat hst0), trivial⟩ ⟨zPc_blind, hU⟩ rfl hlen hsize hstk2 hcs hd hroom
      exact zrun_go hrun hw kk
end ZY
end
section
/-! THE PURE MACHINE IS SOUND, part 7: runs; the claim out of one pure run -/
theorem zret_inv {y : Nat} {st : List Value} {m : zM} {r : Option Value × zM} (h : zret y st m = some (.inr (.inl r))) : ∃ x : Int32, st = [.int x] ∧ r = (some (.int x), m) ∧ (zRt y = some .int ∨ (zRt y = some .boolean ∧ (x = 0 ∨ x = 1))) := by
  unfold zret at h
  split at h
  next x =>
    split at h
    next e => cases h; exact ⟨x, rfl, rfl, Or.inl e⟩
    next e =>
      split at h
      next hx => cases h; exact ⟨x, rfl, rfl, Or.inr ⟨e, hx⟩⟩
      next => cases h
    next => cases h
  next => cases h
theorem zins_retc {X : Nat × (Nat → Int32)} {y pc a bb w n : Nat} {i : Instr} {ls st : List Value} {m : zM} {r : Option Value × zM} (hi : zins X y (i, n, a, bb, w) pc ls st m = some (.inr (.inl r))) :
    (i = .ireturn ∧ zret y st m = some (.inr (.inl r))) ∨ (i = .return_ ∧ st = [] ∧ zRt y = none ∧ r = (none, m)) := by
  have nc : ∀ k, zcall k st m ≠ some (.inr (.inl r)) := by
    intro k h
    unfold zcall at h
    split at h
    next => cases h
    next => cases h
  cases i with
  | ireturn => exact Or.inl ⟨rfl, hi⟩
  | return_ =>
    have h2 : (if st = [] ∧ zRt y = none then (some (.inr (.inl (none, m))) : zRes) else none) = some (.inr (.inl r)) := hi
    split at h2
    next h3 => cases h2; exact Or.inr ⟨rfl, h3.1, h3.2, rfl⟩
    next => cases h2
  | invokevirtual j => exact absurd hi (nc _)
  | invokespecial j =>
    have h2 : (if a = 1000 then zoinit pc ls st m else zcall a st m) = some (.inr (.inl r)) := hi
    split at h2
    next =>
      unfold zoinit at h2
      split at h2
      next =>
        split at h2
        next => cases h2
        next => cases h2
      next => cases h2
    next ha => exact absurd h2 (nc _)
  | invokestatic j =>
    have h2 : (if a = 1001 then zacopy pc ls st m else if a = 1002 then zmin pc ls st m else zcall a st m) = some (.inr (.inl r)) := hi
    split at h2
    next =>
      unfold zacopy at h2
      split at h2
      next =>
        split at h2
        next => cases h2
        next => cases h2
      next => cases h2
    next ha =>
      split at h2
      next =>
        unfold zmin at h2
        split at h2
        next =>
          split at h2
          next => cases h2
          next => cases h2
        next => cases h2
      next ha2 => exact absurd h2 (nc _)
  | newarray t =>
    cases t <;> first | (cases hi; done) | (exfalso; unfold zins at hi; dsimp only at hi; unfold znewa at hi; (repeat' (split at hi)) <;> (first | (cases hi; done)))
  | _ =>
    first
    | (cases hi; done)
    | (exfalso; unfold zins at hi; dsimp only at hi; (try unfold zlda at hi); (try unfold zld at hi); (try unfold zldl at hi); (try unfold zst at hi); (try unfold zsta at hi); (try unfold zstl at hi); (try unfold zget at hi); (try unfold zput at hi); (try unfold ziald at hi); (try unfold zbald at hi); (try unfold zaald at hi); (try unfold ziast at hi); (try unfold zbast at hi); (try unfold zaast at hi); (try unfold zalen at hi); (try unfold znewa at hi); (try unfold znew at hi); (try unfold zi2 at hi); (try unfold zl2 at hi); (try unfold zl1 at hi); (try unfold zinc at hi); (try unfold zbr at hi); (repeat' (split at hi)) <;> (first | (cases hi; done)))
theorem zins_ret {X : Nat × (Nat → Int32)} {y pc a bb w n : Nat} {i : Instr} {ls st : List Value} {m : zM} {r : Option Value × zM} (hi : zins X y (i, n, a, bb, w) pc ls st m = some (.inr (.inl r))) : r.2 = m := by
  rcases zins_retc hi with ⟨-, h⟩ | ⟨-, -, -, rfl⟩
  · obtain ⟨x, -, rfl, -⟩ := zret_inv h
    rfl
  · rfl
theorem zins_end {X : Nat × (Nat → Int32)} {y pc a bb w n : Nat} {i : Instr} {ls st : List Value} {m : zM} {r : Option Value × zM} (hd : decode (zB y) pc = .ok (i, n)) (hn : zlen i n = true) (hi : zins X y (i, n, a, bb, w) pc ls st m = some (.inr (.inl r))) : st = r.1.toList ∧ zEnd y pc r.1 := by
  rcases zins_retc hi with ⟨rfl, h⟩ | ⟨rfl, h1, h2, rfl⟩
  · obtain ⟨x, rfl, rfl, h3⟩ := zret_inv h
    cases zn1 hn rfl
    exact ⟨rfl, Or.inr ⟨x, rfl, hd, h3⟩⟩
  · cases zn1 hn rfl
    exact ⟨h1, Or.inl ⟨rfl, hd, h2⟩⟩
theorem zrun_mono {X : Nat × (Nat → Int32)} : ∀ (n y pc : Nat) (ls st : List Value) (m : zM) (r : Option Value × zM), zrun X n y pc ls st m = some r → m.2.1.length ≤ r.2.2.1.length ∧ m.1 ≤ r.2.1
  | 0, _, _, _, _, _, _, h => by cases h
  | n + 1, y, pc, ls, st, m, r, h => by
    unfold zrun at h
    split at h
    next q e =>
      have h1 := zact_mono e
      have h2 := zrun_mono n _ _ _ _ _ _ h
      exact ⟨Nat.le_trans h1.1 h2.1, Nat.le_trans h1.2 h2.2⟩
    next q e =>
      cases h
      have h1 : r.2 = m := by
        unfold zact at e
        split at e
        next r0 _ =>
          obtain ⟨i, n, a, bb, w⟩ := r0
          exact zins_ret e
        next => cases e
      rw [h1]
      exact ⟨Nat.le_refl _, Nat.le_refl _⟩
    next q e =>
      split at h
      next v e2 =>
        have h1 := zrun_mono n _ _ _ _ _ _ e2
        have h2 := zrun_mono n _ _ _ _ _ _ h
        exact ⟨Nat.le_trans h1.1 h2.1, Nat.le_trans h1.2 h2.2⟩
      next => cases h
    next => cases h
section ZZ
variable {D : va_G} {cA : Nat → ClassId} {b h0 : Nat} {X : Nat × (Nat → Int32)} {HL : Heap}
/-- EVERY PURE RUN IS ONE OF THE REAL MACHINE -/
theorem zrun_sound : ∀ (n y pc : Nat) (ls st : List Value) (m : zM) (r : Option Value × zM), zrun X n y pc ls st m = some r → zSr D cA b h0 X HL y pc ls st m r.1 r.2
  | 0, _, _, _, _, _, _, h => by cases h
  | n + 1, y, pc, ls, st, m, r, h => by
    unfold zrun at h
    split at h
    next q e =>
      have ih := zrun_sound n _ _ _ _ _ _ h
      have h1 := zact_mono e
      have h2 := zrun_mono n _ _ _ _ _ _ h
      intro l p e0 R s mi args below meth c H locs cells slots Q lsC hc hw hz hl hk1 hk2 hend
      refine zact_sound e l p e0 R s mi args below meth c H locs cells slots Q lsC hc hw hz hl (by omega) (by omega) (fun H' locs' lsC' cells' slots' hw' hl' hc' hs' => ?_)
      refine ih l p e0 R s mi args below meth c H' locs' cells' slots' Q lsC' hc hw' (by omega) hl' (by omega) (by omega) (fun H2 locs2 lsC2 cells2 slots2 pc2 hw2 hc2 hs2 he2 => ?_)
      exact hend H2 locs2 lsC2 cells2 slots2 pc2 hw2 (by omega) (by omega) he2
    next q e =>
      cases h
      unfold zact at e
      split at e
      next r0 hr =>
        have ok := zT_ok hr
        obtain ⟨i, n, a, bb, w⟩ := r0
        unfold zOK at ok
        simp only [Bool.and_eq_true, decide_eq_true_eq] at ok
        obtain ⟨⟨hd, hn⟩, -⟩ := ok
        obtain ⟨e1, e2⟩ := zins_end hd hn e
        intro l p e0 R s mi args below meth c H locs cells slots Q lsC hc hw hz hl hk1 hk2 hend
        have e3 : r.2 = m := zins_ret e
        have h9 := hend H locs lsC cells slots pc (by rw [e3]; exact hw) (by rw [e3]) (by rw [e3]) e2
        rw [e1]
        have e4 : (zvo b h0 r.1).toList = r.1.toList.map (zv b h0) := by
          cases r.1 <;> rfl
        rw [e4] at h9
        exact h9
      next => cases e
    next q e =>
      split at h
      next v e2 =>
        have ih1 := zrun_sound n _ _ _ _ _ _ e2
        have ih2 := zrun_sound n _ _ _ _ _ _ h
        have m1 := zrun_mono n _ _ _ _ _ _ e2
        have m2 := zrun_mono n _ _ _ _ _ _ h
        unfold zact at e
        split at e
        next r0 hr =>
          intro l p e0 R s mi args below meth c H locs cells slots Q lsC hc hw hz hl hk1 hk2 hend
          refine zs_call hc hw hz hl hr e ih1 m1.1 m1.2 (by omega) (by omega) (fun H1 locs1 hw1 => ?_)
          have e4 : (zvo b h0 v.1).toList ++ q.2.2.map (zv b h0) = (v.1.toList ++ q.2.2).map (zv b h0) := by
            rw [List.map_append]
            cases v.1 <;> rfl
          rw [e4]
          refine ih2 l p e0 R s mi args below meth c H1 locs1 _ _ Q lsC hc hw1 (by omega) hl (by omega) (by omega) (fun H2 locs2 lsC2 cells2 slots2 pc2 hw2 hc2 hs2 he2 => ?_)
          exact hend H2 locs2 lsC2 cells2 slots2 pc2 hw2 (by omega) (by omega) he2
        next => cases e
      next => cases h
    next => cases h
end ZZ
end
section
/-! THE CLAIM OUT OF ONE WALK OF THE LAW'S BODY. Your part is whole_start (and what it stands on); all else here is the same for every law, but numbers. -/
def R_law : String := "FiveInksLaw"
def lw_P (b : Addr) (xs : List Int32) (args : Array Value) (s : State) : Prop := args = #[.ref b] ∧ s.IntsAt b xs ∧ xs.length ≤ 2048 ∧ (Jvm.Cond.and given_1 narrow_1).before args s = true
def lw_Q (_ : Array Value) (s : State) (o : Outcome) (t : State) : Prop := o = .returned (some (.int 1)) ∧ Framed s o t [] 600000 7302250
def lw_Z (below : List Frame) (a : Array Value) (s : State) : State → Prop := fun t => ∃ o, t.status = .running ∧ Ended t below o ∧ lw_Q a s o t
/-- the law's own end, with 1 on the stack, nothing written that was there before, its room as the claim has it -/
theorem lw_ret {p : Program} {l : Launch} {e : Env} {s : State} {m : MethodId} {below : List Frame} {meth : Method} {c : Code} {b : Nat} (hx : p.tables.exec = Jvm.exec) (hb : c.code = code) (hr : meth.sig.returnType = ret) (hlocks : meth.locks = false) {pc : Nat} {H : Heap} {ls : Array Slot} (hdg : decode code pc = .ok (.ireturn, 1)) : W p l e room_1 s m #[Value.ref b] below meth c H [] 600000 7302250 (lw_Z below #[Value.ref b] s) (F0 m pc ls [.int 1]) := by
  intro T hT X
  obtain ⟨fs, hret, hrun, hended, hW, hframe⟩ := X.leave (v := some (.int 1)) (hlocks := hlocks) (fun h => by rw [hr] at h; cases h)
  have hmeth' : T.vm.method? m = some meth := X.method'
  refine ⟨T.setFrames fs, ?_, .returned (some (.int 1)), hrun, hended, rfl, ⟨_, rfl⟩, hW, hframe⟩
  jvm_step X.here [X.here.top, hx, hb, hdg, hmeth', hr, ret, narrow_b1]
  (try refine ⟨rfl, ?_⟩); (try refine ⟨rfl, ?_⟩)
  first | (intro acts; rw [hret _ acts rfl rfl rfl]) | rw [hret _ _ rfl rfl rfl]
  exact Steps.refl _
/-- what holds at the law's entry: the machine, the code, the tables' words (any of lw_tbl by 'hts w (by decide +kernel)'), the script of L ints xs at the cell b, what the Statement gives of the start (any of its parts by flat_of_before) -/
def lw_At (p : Program) (s : State) (m : MethodId) (meth : Method) (c : Code) (b L : Nat) (xs : Nat → Int32) : Prop :=
  p.tables.exec = Jvm.exec ∧ c.code = code ∧ meth.sig.returnType = ret ∧ c.maxLocals = 4 ∧ s.vm.findClass R_law = some m.cls ∧ (∀ w ∈ lw_tbl, w.before #[Value.ref b] s = true) ∧ va_X b L xs s s.heap ∧ b < s.heap.size ∧ meth.locks = false ∧ (Jvm.Cond.and given_1 narrow_1).before #[Value.ref b] s = true
/-- WHAT IS LEFT OF THE CLAIM: on every script the pure machine's run of the law answers 1, within the room -/
def zm0 : zM := (0, [99], [0], [[]], fun _ _ => 0)
def zClaim : Prop := ∀ X : Nat × (Nat → Int32), X.1 ≤ 2048 → ∃ (n : Nat) (m' : zM), zrun X n 187 0 [.ref 0, .null, .null, .null] [] zm0 = some (some (.int 1), m') ∧ m'.2.1.length ≤ 600001 ∧ m'.1 ≤ 7302250
theorem zlaw_B : zB 187 = code := rfl
theorem zlaw_L : zL 187 = 4 := rfl
theorem zlaw_E : zEn 187 [.ref 0] = [.ref 0, .null, .null, .null] := rfl
theorem zNW_of {b : Nat} {s : State} (hts : ∀ w ∈ lw_tbl, w.before #[Value.ref b] s = true) : zNW s := by
  refine ⟨fun w hw hn => ?_, hts _ (zw_in zw_over)⟩
  have h1 := hts w hw
  cases w <;> first | exact va_Nw.of rfl h1 | cases hn
theorem zK_of {b : Nat} {s : State} (hts : ∀ w ∈ lw_tbl, w.before #[Value.ref b] s = true) : ∃ (D : va_G) (cA : Nat → ClassId), va_K D zcl (zTy cA) s := by
  have htt : ∀ w ∈ zTT, w.before #[Value.ref b] s = true := fun w hw => hts w (List.mem_filter.mp hw).1
  have h1 : ∀ c : Nat, ∃ z : ClassId × (Nat → Nat), ∀ q : vw_C, zcl[c]? = some q → u_Kn s q.1 q.2.1 q.2.2 z.1 z.2 := by
    intro c
    by_cases hc : c < 11
    · obtain ⟨r, er, e2, hin, hins, -⟩ := zCk_ok hc
      obtain ⟨cC, iS, hk⟩ := u_known (n := r.2.2) htt hin (htt _ hins)
      exact ⟨(cC, iS), fun q hq => by cases er.symm.trans hq; exact hk⟩
    · refine ⟨(0, fun _ => 0), fun q hq => ?_⟩
      have := (List.getElem?_eq_some_iff.mp hq).1
      exact absurd this hc
  obtain ⟨f, hf⟩ := Classical.axiomOfChoice h1
  obtain ⟨c0, k0, comp0, a1, a2, a3⟩ := Cond.arrayClass_spec (hts _ (zw_in zw_int))
  obtain ⟨c1, k1, comp1, b1, b2, b3⟩ := Cond.arrayClass_spec (hts _ (zw_in zw_bool))
  obtain ⟨comp2, c2, k2, d1, -, d2, d3, d4⟩ := Cond.arrayOver_spec (hts _ (zw_in zw_over))
  refine ⟨(fun c => (f c).1, fun c => (f c).2), (fun k => if k = 0 then c0 else if k = 1 then c1 else c2), hf, fun k q hq => ?_⟩
  match k, hq with
  | 0, hq =>
    cases hq
    exact ⟨fun n z => ⟨fun k h => (by cases h), k0, a2, comp0, a3⟩, a1⟩
  | 1, hq =>
    cases hq
    exact ⟨fun n z => ⟨fun k h => (by cases h), k1, b2, comp1, b3⟩, b1⟩
  | 2, hq =>
    cases hq
    exact ⟨fun n z => ⟨fun k h => (by cases h), k2, d2, comp2, d3⟩, k2, comp2, d2, d3, d1, d4⟩
  | k + 3, hq =>
    have := (List.getElem?_eq_some_iff.mp hq).1
    exact absurd this (by show ¬ k + 3 < 3; omega)
theorem whole_start_of (hcl : zClaim) {p : Program} {e : Env} {s : State} {m : MethodId} {below : List Frame} {meth : Method} {c : Code} (l : Launch) (hflags : l.flags = flags0) {b L : Nat} {xs : Nat → Int32} (hL : L ≤ 2048) (C0 : lw_At p s m meth c b L xs) : W p l e room_1 s m #[Value.ref b] below meth c s.heap [] 0 0 (lw_Z below #[Value.ref b] s) (entryFrame m ([Value.ref b] : List Value).toArray 4) := by
  obtain ⟨hx, hb, hr, hml, hown, hts, hX, hbl, hlocks, hgv⟩ := C0
  obtain ⟨D, cA, hK⟩ := zK_of hts
  obtain ⟨n, m', hrun, hn1, hn2⟩ := hcl (L, xs) hL
  have hh : s.heap.size = (s.heap.size - 1) + 1 := by omega
  have hS := zrun_sound (D := D) (cA := cA) (b := b) (h0 := s.heap.size - 1) (X := (L, xs)) (HL := s.heap) n 187 0 _ _ _ _ hrun
  rw [lg_entry_eq]
  have hls := zEn_ls (b := b) (h0 := s.heap.size - 1) (k := 187) (args := [.ref 0]) rfl
  refine hS l p e room_1 s m #[Value.ref b] below meth c s.heap [] 0 0 (lw_Z below #[Value.ref b] s) _ ⟨hx, hb.trans zlaw_B.symm, hml.trans zlaw_L.symm, hown, fun w hw => hts w (List.mem_filter.mp hw).1, ⟨hK, zNW_of hts, hX, hh, by omega⟩, by show zF 187 ≤ 9; decide, by show zO 187 ≤ 314; decide, fun h => by cases h⟩
    ⟨fun k q h => by simp [zwl, zm0] at h, va_S.rf⟩ (by show s.heap.size + 0 = s.heap.size - 1 + 1; omega) hls (by show 0 + m'.2.1.length ≤ 600000 + 1; omega) (by show 0 + m'.1 ≤ 7302250 + 0; omega) (fun H' locs' lsC' cells' slots' pc' hw' hc' hs' hend => ?_)
  have hc2 : cells' + 1 = 0 + m'.2.1.length := hc'
  have hs2 : slots' + 0 = 0 + m'.1 := hs'
  refine va_forget (fun q hq => ?_) ?_
  · have h1 : s.heap.size - 1 < q.base := hw'.2.2.2 q hq
    omega
  · refine W.widen (k := 600000) (n := 7302250) (by omega) (by omega) ?_
    rcases hend with ⟨h1, -⟩ | ⟨x, h1, hd, -⟩
    · cases h1
    · cases h1
      rw [zlaw_B] at hd
      exact lw_ret hx hb hr hlocks hd
end
section
/-! THE PURE MACHINE AS EQUATIONS: zr is what a run comes to, whatever steps it takes -/
theorem zrun_more {X : Nat × (Nat → Int32)} : ∀ (n y pc : Nat) (ls st : List Value) (m : zM) (r : Option Value × zM), zrun X n y pc ls st m = some r → zrun X (n + 1) y pc ls st m = some r
  | 0, _, _, _, _, _, _, h => by cases h
  | n + 1, y, pc, ls, st, m, r, h => by
    unfold zrun at h ⊢
    split at h
    next q e =>
      exact zrun_more n _ _ _ _ _ _ h
    next q e =>
      exact h
    next q e =>
      split at h
      next v e2 =>
        have h1 := zrun_more n _ _ _ _ _ _ e2
        rw [h1]
        exact zrun_more n _ _ _ _ _ _ h
      next => cases h
    next => cases h
theorem zrun_le {X : Nat × (Nat → Int32)} {n y pc : Nat} {ls st : List Value} {m : zM} {r : Option Value × zM} (h : zrun X n y pc ls st m = some r) : ∀ k, zrun X (n + k) y pc ls st m = some r
  | 0 => h
  | k + 1 => zrun_more _ _ _ _ _ _ _ (zrun_le h k)
theorem zrun_det {X : Nat × (Nat → Int32)} {n k y pc : Nat} {ls st : List Value} {m : zM} {r r' : Option Value × zM} (h : zrun X n y pc ls st m = some r) (h' : zrun X k y pc ls st m = some r') : r = r' := by
  have h1 := zrun_le h k
  have h2 := zrun_le h' n
  rw [Nat.add_comm] at h2
  exact Option.some.inj (h1.symm.trans h2)
noncomputable def zr (X : Nat × (Nat → Int32)) (y pc : Nat) (ls st : List Value) (m : zM) : Option (Option Value × zM) :=
  @dite _ (∃ r, ∃ n, zrun X n y pc ls st m = some r) (Classical.propDecidable _) (fun h => some (Classical.choose h)) (fun _ => none)
theorem zr_some {X : Nat × (Nat → Int32)} {y pc : Nat} {ls st : List Value} {m : zM} {r : Option Value × zM} : zr X y pc ls st m = some r ↔ ∃ n, zrun X n y pc ls st m = some r := by
  unfold zr
  constructor
  · intro h
    split at h
    next hx =>
      have h1 := Classical.choose_spec hx
      rw [Option.some.inj h] at h1
      exact h1
    next => cases h
  · rintro ⟨n, h⟩
    have hx : ∃ r, ∃ n, zrun X n y pc ls st m = some r := ⟨r, n, h⟩
    rw [dif_pos hx]
    obtain ⟨k, h1⟩ := Classical.choose_spec hx
    rw [zrun_det h1 h]
theorem zr_ext {X : Nat × (Nat → Int32)} {y pc y' pc' : Nat} {ls st ls' st' : List Value} {m m' : zM} (h : ∀ r, zr X y pc ls st m = some r ↔ zr X y' pc' ls' st' m' = some r) : zr X y pc ls st m = zr X y' pc' ls' st' m' := by
  cases e : zr X y pc ls st m with
  | some r => exact ((h r).mp e).symm
  | none =>
    cases e' : zr X y' pc' ls' st' m' with
    | none => rfl
    | some r => rw [(h r).mpr e'] at e; cases e
/-! the memory behind the two constructors: kinds, lengths, references -/
def zK0 : List Nat := [99, 12, 7, 9, 0, 4, 0, 0, 0, 0, 0, 0, 0, 10, 0, 0, 0, 3, 2, 7, 9, 0, 4, 0, 0, 0, 0, 0, 0, 0, 10, 0, 0, 0, 7, 9, 0, 4, 0, 0, 0, 0, 0, 0, 0, 10, 0, 0, 0, 7, 9, 0, 4, 0, 0, 0, 0, 0, 0, 0, 10, 0, 0, 0, 7, 9, 0, 4, 0, 0, 0, 0, 0, 0, 0, 10, 0, 0, 0, 7, 9, 0, 4, 0, 0, 0, 0, 0, 0, 0, 10, 0, 0, 0, 7, 9, 0, 4, 0, 0, 0, 0, 0, 0, 0, 10, 0, 0, 0, 8, 2, 1, 7, 9, 0, 4, 0, 0, 0, 0, 0, 0, 0, 10, 0, 0, 0, 7, 9, 0, 4, 0, 0, 0, 0, 0, 0, 0, 10, 0, 0, 0, 5, 0, 6, 4, 0, 0, 0, 0, 0, 0, 0, 11, 1, 0, 0, 0, 0, 0, 13, 0, 0, 0, 0, 1, 0, 1, 0, 1, 0, 0, 0]
def zL0 : List Nat := [0, 8, 4, 2, 60, 8, 20, 20, 20, 20, 20, 20, 120, 3, 360, 6, 5, 3, 6, 4, 2, 60, 8, 20, 20, 20, 20, 20, 20, 120, 3, 360, 6, 5, 4, 2, 60, 8, 20, 20, 20, 20, 20, 20, 120, 3, 360, 6, 5, 4, 2, 60, 8, 20, 20, 20, 20, 20, 20, 120, 3, 360, 6, 5, 4, 2, 60, 8, 20, 20, 20, 20, 20, 20, 120, 3, 360, 6, 5, 4, 2, 60, 8, 20, 20, 20, 20, 20, 20, 120, 3, 360, 6, 5, 4, 2, 60, 8, 20, 20, 20, 20, 20, 20, 120, 3, 360, 6, 5, 2, 2, 2, 4, 2, 60, 8, 20, 20, 20, 20, 20, 20, 120, 3, 360, 6, 5, 4, 2, 60, 8, 20, 20, 20, 20, 20, 20, 120, 3, 360, 6, 5, 2, 60, 2, 8, 20, 20, 20, 20, 20, 20, 120, 5, 20, 61, 61, 180, 20, 61, 19, 675, 675, 4050, 1350, 2, 60, 20, 180, 20, 61, 61, 192]
def zR0 : List (List Nat) := [[], [2, 17, 109, 142, 144, 153, 158, 159], [3, 5, 13, 16], [4, 0], List.replicate 60 0, [6, 7, 8, 9, 10, 11, 12, 0], List.replicate 20 0, List.replicate 20 0, List.replicate 20 0, List.replicate 20 0, List.replicate 20 0, List.replicate 20 0, List.replicate 120 0, [14, 15, 0], List.replicate 360 0, List.replicate 6 0, List.replicate 5 0, [18, 0, 0], [19, 34, 49, 64, 79, 94], [20, 22, 30, 33], [21, 0], List.replicate 60 0, [23, 24, 25, 26, 27, 28, 29, 0], List.replicate 20 0, List.replicate 20 0, List.replicate 20 0, List.replicate 20 0, List.replicate 20 0, List.replicate 20 0, List.replicate 120 0, [31, 32, 0], List.replicate 360 0, List.replicate 6 0, List.replicate 5 0, [35, 37, 45, 48], [36, 0], List.replicate 60 0, [38, 39, 40, 41, 42, 43, 44, 0], List.replicate 20 0, List.replicate 20 0, List.replicate 20 0, List.replicate 20 0, List.replicate 20 0, List.replicate 20 0, List.replicate 120 0, [46, 47, 0], List.replicate 360 0, List.replicate 6 0, List.replicate 5 0, [50, 52, 60, 63], [51, 0], List.replicate 60 0, [53, 54, 55, 56, 57, 58, 59, 0], List.replicate 20 0, List.replicate 20 0, List.replicate 20 0, List.replicate 20 0, List.replicate 20 0, List.replicate 20 0, List.replicate 120 0, [61, 62, 0], List.replicate 360 0, List.replicate 6 0, List.replicate 5 0, [65, 67, 75, 78], [66, 0], List.replicate 60 0, [68, 69, 70, 71, 72, 73, 74, 0], List.replicate 20 0, List.replicate 20 0, List.replicate 20 0, List.replicate 20 0, List.replicate 20 0, List.replicate 20 0, List.replicate 120 0, [76, 77, 0], List.replicate 360 0, List.replicate 6 0, List.replicate 5 0, [80, 82, 90, 93], [81, 0], List.replicate 60 0, [83, 84, 85, 86, 87, 88, 89, 0], List.replicate 20 0, List.replicate 20 0, List.replicate 20 0, List.replicate 20 0, List.replicate 20 0, List.replicate 20 0, List.replicate 120 0, [91, 92, 0], List.replicate 360 0, List.replicate 6 0, List.replicate 5 0, [95, 97, 105, 108], [96, 0], List.replicate 60 0, [98, 99, 100, 101, 102, 103, 104, 0], List.replicate 20 0, List.replicate 20 0, List.replicate 20 0, List.replicate 20 0, List.replicate 20 0, List.replicate 20 0, List.replicate 120 0, [106, 107, 0], List.replicate 360 0, List.replicate 6 0, List.replicate 5 0, [110, 111], [112, 127], List.replicate 2 0, [113, 115, 123, 126], [114, 0], List.replicate 60 0, [116, 117, 118, 119, 120, 121, 122, 0], List.replicate 20 0, List.replicate 20 0, List.replicate 20 0, List.replicate 20 0, List.replicate 20 0, List.replicate 20 0, List.replicate 120 0, [124, 125, 0], List.replicate 360 0, List.replicate 6 0, List.replicate 5 0, [128, 130, 138, 141], [129, 0], List.replicate 60 0, [131, 132, 133, 134, 135, 136, 137, 0], List.replicate 20 0, List.replicate 20 0, List.replicate 20 0, List.replicate 20 0, List.replicate 20 0, List.replicate 20 0, List.replicate 120 0, [139, 140, 0], List.replicate 360 0, List.replicate 6 0, List.replicate 5 0, [143, 0], List.replicate 60 0, [145, 0], [146, 147, 148, 149, 150, 151, 152, 0], List.replicate 20 0, List.replicate 20 0, List.replicate 20 0, List.replicate 20 0, List.replicate 20 0, List.replicate 20 0, List.replicate 120 0, [154, 155, 156, 157, 0], List.replicate 20 0, List.replicate 61 0, List.replicate 61 0, List.replicate 180 0, List.replicate 20 0, List.replicate 61 0, [0, 161, 162, 163, 0, 164, 165, 166, 0, 167, 168, 0, 169, 170, 171, 0, 0, 172, 0], List.replicate 675 0, List.replicate 675 0, List.replicate 4050 0, List.replicate 1350 0, List.replicate 2 0, List.replicate 60 0, List.replicate 20 0, List.replicate 180 0, List.replicate 20 0, List.replicate 61 0, List.replicate 61 0, List.replicate 192 0]
def zk (I : Nat → Nat → Int32) : zM := (14300, zK0, zL0, zR0, I)
section ZE
variable {X : Nat × (Nat → Int32)} {y pc n : Nat} {ls st : List Value} {m : zM} {a b w : Nat} {I : Nat → Nat → Int32}
theorem zr_go {q : Nat × List Value × List Value × zM} (h : zact X y pc ls st m = some (.inl q)) : zr X y pc ls st m = zr X y q.1 q.2.1 q.2.2.1 q.2.2.2 := by
  apply zr_ext
  intro r
  rw [zr_some, zr_some]
  constructor
  · rintro ⟨n, hn⟩
    cases n with
    | zero => cases hn
    | succ n =>
      unfold zrun at hn
      rw [h] at hn
      exact ⟨n, hn⟩
  · rintro ⟨n, hn⟩
    refine ⟨n + 1, ?_⟩
    unfold zrun
    rw [h]
    exact hn
theorem zr_ret {q : Option Value × zM} (h : zact X y pc ls st m = some (.inr (.inl q))) : zr X y pc ls st m = some q := by
  rw [zr_some]
  refine ⟨1, ?_⟩
  unfold zrun
  rw [h]
def zcb (x : Option (Option Value × zM)) (f : Option Value → zM → Option (Option Value × zM)) : Option (Option Value × zM) := match x with
  | some q => f q.1 q.2
  | none => none
theorem zcb_some {v : Option Value} {m : zM} {f : Option Value → zM → Option (Option Value × zM)} : zcb (some (v, m)) f = f v m := rfl
theorem zr_cl {k : Nat} {As rest : List Value} (h : zact X y pc ls st m = some (.inr (.inr (k, As, rest)))) : zr X y pc ls st m = zcb (zr X k 0 (zEn k As) [] m) (fun v m1 => zr X y (pc + 3) ls (v.toList ++ rest) m1) := by
  cases e : zr X k 0 (zEn k As) [] m with
  | some q =>
    show _ = zr X y (pc + 3) ls (q.1.toList ++ rest) q.2
    obtain ⟨i, hi⟩ := zr_some.mp e
    apply zr_ext
    intro r
    rw [zr_some, zr_some]
    constructor
    · rintro ⟨n, hn⟩
      cases n with
      | zero => cases hn
      | succ n =>
        unfold zrun at hn
        rw [h] at hn
        dsimp only at hn
        split at hn
        next v e2 =>
          rw [zrun_det e2 hi] at hn
          exact ⟨n, hn⟩
        next => cases hn
    · rintro ⟨n, hn⟩
      refine ⟨i + n + 1, ?_⟩
      unfold zrun
      rw [h]
      dsimp only
      rw [zrun_le hi n]
      have := zrun_le hn i
      rw [Nat.add_comm] at this
      exact this
  | none =>
    show _ = none
    cases e' : zr X y pc ls st m with
    | none => rfl
    | some r =>
      exfalso
      obtain ⟨n, hn⟩ := zr_some.mp e'
      cases n with
      | zero => cases hn
      | succ n =>
        unfold zrun at hn
        rw [h] at hn
        dsimp only at hn
        split at hn
        next v e2 =>
          have := zr_some.mpr ⟨n, e2⟩
          rw [e] at this
          cases this
        next => cases hn
theorem zact_eq {r : zRow} (h : zT y pc = some r) : zact X y pc ls st m = zins X y r pc ls st m := by
  unfold zact
  rw [h]

/-! a step of each kind -/
def zx (i : Int32) : Nat := i.toNatClampNeg
def zfI (t c k : Nat) : Bool := decide (t ≠ 0 ∧ zK0.getD t 50 = c + 3 ∧ k < zL0.getD t 0 ∧ zFk c k ≠ 2)
def zfR (t c k u : Nat) : Bool := decide (t ≠ 0 ∧ zK0.getD t 50 = c + 3 ∧ k < zL0.getD t 0 ∧ zFk c k = 2 ∧ (zR0.getD t []).getD k 0 = u ∧ u ≠ 0)
def zaI (t kd n : Nat) : Bool := decide (t ≠ 0 ∧ zK0.getD t 50 = kd ∧ zL0.getD t 0 = n)
theorem zr_iload_n {k : Fin 4} {x : Int32} (hT : zT y pc = some (.iload_n k, 1, a, b, w)) (hl : ls[(k : Nat)]? = some (.int x)) : zr X y pc ls st m = zr X y (pc + 1) ls (.int x :: st) m := by
  refine zr_go (q := (pc + 1, ls, .int x :: st, m)) ?_
  rw [zact_eq hT]
  show zld (k : Nat) pc 1 ls st m = _
  unfold zld
  rw [hl]
  rfl
theorem zr_iload {k : Nat} {x : Int32} (hT : zT y pc = some (.iload k, 2, a, b, w)) (hl : ls[(k : Nat)]? = some (.int x)) : zr X y pc ls st m = zr X y (pc + 2) ls (.int x :: st) m := by
  refine zr_go (q := (pc + 2, ls, .int x :: st, m)) ?_
  rw [zact_eq hT]
  show zld (k : Nat) pc 2 ls st m = _
  unfold zld
  rw [hl]
  rfl
theorem zr_lload_n {k : Fin 4} {x : Int64} (hT : zT y pc = some (.lload_n k, 1, a, b, w)) (hl : ls[(k : Nat)]? = some (.long x)) : zr X y pc ls st m = zr X y (pc + 1) ls (.long x :: st) m := by
  refine zr_go (q := (pc + 1, ls, .long x :: st, m)) ?_
  rw [zact_eq hT]
  show zldl (k : Nat) pc 1 ls st m = _
  unfold zldl
  rw [hl]
  rfl
theorem zr_lload {k : Nat} {x : Int64} (hT : zT y pc = some (.lload k, 2, a, b, w)) (hl : ls[(k : Nat)]? = some (.long x)) : zr X y pc ls st m = zr X y (pc + 2) ls (.long x :: st) m := by
  refine zr_go (q := (pc + 2, ls, .long x :: st, m)) ?_
  rw [zact_eq hT]
  show zldl (k : Nat) pc 2 ls st m = _
  unfold zldl
  rw [hl]
  rfl
theorem zr_aload_n {k : Fin 4} {x : Nat} (hT : zT y pc = some (.aload_n k, 1, a, b, w)) (hl : ls[(k : Nat)]? = some (.ref x)) : zr X y pc ls st m = zr X y (pc + 1) ls (.ref x :: st) m := by
  refine zr_go (q := (pc + 1, ls, .ref x :: st, m)) ?_
  rw [zact_eq hT]
  show zlda (k : Nat) pc 1 ls st m = _
  unfold zlda
  rw [hl]
  rfl
theorem zr_aload {k : Nat} {x : Nat} (hT : zT y pc = some (.aload k, 2, a, b, w)) (hl : ls[(k : Nat)]? = some (.ref x)) : zr X y pc ls st m = zr X y (pc + 2) ls (.ref x :: st) m := by
  refine zr_go (q := (pc + 2, ls, .ref x :: st, m)) ?_
  rw [zact_eq hT]
  show zlda (k : Nat) pc 2 ls st m = _
  unfold zlda
  rw [hl]
  rfl
theorem zr_istore_n {k : Fin 4} {x : Int32} {ls1 : List Value} (hT : zT y pc = some (.istore_n k, 1, a, b, w)) (h1 : (decide ((k : Nat) < ls.length) && zfree ls k) = true) (hs : ls.set (k : Nat) (.int x) = ls1) : zr X y pc ls (.int x :: st) m = zr X y (pc + 1) ls1 st m := by
  subst hs
  refine zr_go (q := (pc + 1, ls.set (k : Nat) (.int x), st, m)) ?_
  rw [zact_eq hT]
  simp only [Bool.and_eq_true, decide_eq_true_eq] at h1
  show zst (k : Nat) pc 1 ls (.int x :: st) m = _
  unfold zst
  dsimp only
  rw [if_pos h1]
  rfl
theorem zr_istore {k : Nat} {x : Int32} {ls1 : List Value} (hT : zT y pc = some (.istore k, 2, a, b, w)) (h1 : (decide ((k : Nat) < ls.length) && zfree ls k) = true) (hs : ls.set (k : Nat) (.int x) = ls1) : zr X y pc ls (.int x :: st) m = zr X y (pc + 2) ls1 st m := by
  subst hs
  refine zr_go (q := (pc + 2, ls.set (k : Nat) (.int x), st, m)) ?_
  rw [zact_eq hT]
  simp only [Bool.and_eq_true, decide_eq_true_eq] at h1
  show zst (k : Nat) pc 2 ls (.int x :: st) m = _
  unfold zst
  dsimp only
  rw [if_pos h1]
  rfl
theorem zr_astore_n {k : Fin 4} {x : Nat} {ls1 : List Value} (hT : zT y pc = some (.astore_n k, 1, a, b, w)) (h1 : (decide ((k : Nat) < ls.length) && zfree ls k) = true) (hs : ls.set (k : Nat) (.ref x) = ls1) : zr X y pc ls (.ref x :: st) m = zr X y (pc + 1) ls1 st m := by
  subst hs
  refine zr_go (q := (pc + 1, ls.set (k : Nat) (.ref x), st, m)) ?_
  rw [zact_eq hT]
  simp only [Bool.and_eq_true, decide_eq_true_eq] at h1
  show zsta (k : Nat) pc 1 ls (.ref x :: st) m = _
  unfold zsta
  dsimp only
  rw [if_pos h1]
  rfl
theorem zr_astore {k : Nat} {x : Nat} {ls1 : List Value} (hT : zT y pc = some (.astore k, 2, a, b, w)) (h1 : (decide ((k : Nat) < ls.length) && zfree ls k) = true) (hs : ls.set (k : Nat) (.ref x) = ls1) : zr X y pc ls (.ref x :: st) m = zr X y (pc + 2) ls1 st m := by
  subst hs
  refine zr_go (q := (pc + 2, ls.set (k : Nat) (.ref x), st, m)) ?_
  rw [zact_eq hT]
  simp only [Bool.and_eq_true, decide_eq_true_eq] at h1
  show zsta (k : Nat) pc 2 ls (.ref x :: st) m = _
  unfold zsta
  dsimp only
  rw [if_pos h1]
  rfl
theorem zr_lstore_n {k : Fin 4} {x : Int64} {ls1 : List Value} (hT : zT y pc = some (.lstore_n k, 1, a, b, w)) (h1 : (decide ((k : Nat) + 1 < ls.length) && zfree ls k) = true) (hs : (ls.set (k : Nat) (.long x)).set ((k : Nat) + 1) .null = ls1) : zr X y pc ls (.long x :: st) m = zr X y (pc + 1) ls1 st m := by
  subst hs
  refine zr_go (q := (pc + 1, (ls.set (k : Nat) (.long x)).set ((k : Nat) + 1) .null, st, m)) ?_
  rw [zact_eq hT]
  simp only [Bool.and_eq_true, decide_eq_true_eq] at h1
  show zstl (k : Nat) pc 1 ls (.long x :: st) m = _
  unfold zstl
  dsimp only
  rw [if_pos h1]
  rfl
theorem zr_lstore {k : Nat} {x : Int64} {ls1 : List Value} (hT : zT y pc = some (.lstore k, 2, a, b, w)) (h1 : (decide ((k : Nat) + 1 < ls.length) && zfree ls k) = true) (hs : (ls.set (k : Nat) (.long x)).set ((k : Nat) + 1) .null = ls1) : zr X y pc ls (.long x :: st) m = zr X y (pc + 2) ls1 st m := by
  subst hs
  refine zr_go (q := (pc + 2, (ls.set (k : Nat) (.long x)).set ((k : Nat) + 1) .null, st, m)) ?_
  rw [zact_eq hT]
  simp only [Bool.and_eq_true, decide_eq_true_eq] at h1
  show zstl (k : Nat) pc 2 ls (.long x :: st) m = _
  unfold zstl
  dsimp only
  rw [if_pos h1]
  rfl
theorem zr_iinc {k : Nat} {d : Int} {x z : Int32} {ls1 : List Value} (hT : zT y pc = some (.iinc k d, 3, a, b, w)) (hl : ls[k]? = some (.int x)) (h1 : zfree ls k = true) (hz : x + Int32.ofInt d = z) (hs : ls.set k (.int z) = ls1) : zr X y pc ls st m = zr X y (pc + 3) ls1 st m := by
  subst hs
  subst hz
  refine zr_go (q := (pc + 3, ls.set k (.int (x + Int32.ofInt d)), st, m)) ?_
  rw [zact_eq hT]
  show zinc k d pc ls st m = _
  unfold zinc
  rw [hl]
  dsimp only
  rw [if_pos h1]
  rfl
theorem zr_iconst {i : Int} {x : Int32} (hT : zT y pc = some (.iconst i, 1, a, b, w)) (hv : Int32.ofInt i = x) : zr X y pc ls st m = zr X y (pc + 1) ls (.int x :: st) m := by
  subst hv
  refine zr_go (q := (pc + 1, ls, .int (Int32.ofInt i) :: st, m)) ?_
  rw [zact_eq hT]
  rfl
theorem zr_bipush {i : Int} {x : Int32} (hT : zT y pc = some (.bipush i, 2, a, b, w)) (hv : (Int8.ofInt i).toInt32 = x) : zr X y pc ls st m = zr X y (pc + 2) ls (.int x :: st) m := by
  subst hv
  refine zr_go (q := (pc + 2, ls, .int ((Int8.ofInt i).toInt32) :: st, m)) ?_
  rw [zact_eq hT]
  rfl
theorem zr_sipush {i : Int} {x : Int32} (hT : zT y pc = some (.sipush i, 3, a, b, w)) (hv : (Int16.ofInt i).toInt32 = x) : zr X y pc ls st m = zr X y (pc + 3) ls (.int x :: st) m := by
  subst hv
  refine zr_go (q := (pc + 3, ls, .int ((Int16.ofInt i).toInt32) :: st, m)) ?_
  rw [zact_eq hT]
  rfl
theorem zr_lconst {i : Fin 2} {x : Int64} (hT : zT y pc = some (.lconst i, 1, a, b, w)) (hv : Int64.ofNat (i : Nat) = x) : zr X y pc ls st m = zr X y (pc + 1) ls (.long x :: st) m := by
  subst hv
  refine zr_go (q := (pc + 1, ls, .long (Int64.ofNat (i : Nat)) :: st, m)) ?_
  rw [zact_eq hT]
  rfl
theorem zr_ldc2 {i : Nat} {x : Int64} (hT : zT y pc = some (.ldc2_w i, 3, a, b, w)) (hv : Int64.ofNat a = x) : zr X y pc ls st m = zr X y (pc + 3) ls (.long x :: st) m := by
  subst hv
  refine zr_go (q := (pc + 3, ls, .long (Int64.ofNat a) :: st, m)) ?_
  rw [zact_eq hT]
  rfl
theorem zr_iadd {u v : Int32} (hT : zT y pc = some (.iadd, 1, a, b, w))  : zr X y pc ls (.int v :: .int u :: st) m = zr X y (pc + 1) ls (.int (u + v) :: st) m := by
  refine zr_go (q := (pc + 1, ls, .int (u + v) :: st, m)) ?_
  rw [zact_eq hT]
  rfl
theorem zr_isub {u v : Int32} (hT : zT y pc = some (.isub, 1, a, b, w))  : zr X y pc ls (.int v :: .int u :: st) m = zr X y (pc + 1) ls (.int (u - v) :: st) m := by
  refine zr_go (q := (pc + 1, ls, .int (u - v) :: st, m)) ?_
  rw [zact_eq hT]
  rfl
theorem zr_imul {u v : Int32} (hT : zT y pc = some (.imul, 1, a, b, w))  : zr X y pc ls (.int v :: .int u :: st) m = zr X y (pc + 1) ls (.int (u * v) :: st) m := by
  refine zr_go (q := (pc + 1, ls, .int (u * v) :: st, m)) ?_
  rw [zact_eq hT]
  rfl
theorem zr_iand {u v : Int32} (hT : zT y pc = some (.iand, 1, a, b, w))  : zr X y pc ls (.int v :: .int u :: st) m = zr X y (pc + 1) ls (.int (u &&& v) :: st) m := by
  refine zr_go (q := (pc + 1, ls, .int (u &&& v) :: st, m)) ?_
  rw [zact_eq hT]
  rfl
theorem zr_ixor {u v : Int32} (hT : zT y pc = some (.ixor, 1, a, b, w))  : zr X y pc ls (.int v :: .int u :: st) m = zr X y (pc + 1) ls (.int (u ^^^ v) :: st) m := by
  refine zr_go (q := (pc + 1, ls, .int (u ^^^ v) :: st, m)) ?_
  rw [zact_eq hT]
  rfl
theorem zr_idiv {u v : Int32} (hT : zT y pc = some (.idiv, 1, a, b, w)) (hv : v ≠ 0) : zr X y pc ls (.int v :: .int u :: st) m = zr X y (pc + 1) ls (.int (u / v) :: st) m := by
  refine zr_go (q := (pc + 1, ls, .int (u / v) :: st, m)) ?_
  rw [zact_eq hT]
  show (if v = 0 then none else zgo (pc + 1) ls (.int (u / v) :: st) m) = _
  rw [if_neg hv]
  rfl
theorem zr_irem {u v : Int32} (hT : zT y pc = some (.irem, 1, a, b, w)) (hv : v ≠ 0) : zr X y pc ls (.int v :: .int u :: st) m = zr X y (pc + 1) ls (.int (u - u / v * v) :: st) m := by
  refine zr_go (q := (pc + 1, ls, .int (u - u / v * v) :: st, m)) ?_
  rw [zact_eq hT]
  show (if v = 0 then none else zgo (pc + 1) ls (.int (u - u / v * v) :: st) m) = _
  rw [if_neg hv]
  rfl
theorem zr_i2l {u : Int32} (hT : zT y pc = some (.i2l, 1, a, b, w))  : zr X y pc ls (.int u :: st) m = zr X y (pc + 1) ls (.long u.toInt64 :: st) m := by
  refine zr_go (q := (pc + 1, ls, .long u.toInt64 :: st, m)) ?_
  rw [zact_eq hT]
  rfl
theorem zr_l2i {u : Int64} (hT : zT y pc = some (.l2i, 1, a, b, w))  : zr X y pc ls (.long u :: st) m = zr X y (pc + 1) ls (.int u.toInt32 :: st) m := by
  refine zr_go (q := (pc + 1, ls, .int u.toInt32 :: st, m)) ?_
  rw [zact_eq hT]
  rfl
theorem zr_land {u v : Int64} (hT : zT y pc = some (.land, 1, a, b, w))  : zr X y pc ls (.long v :: .long u :: st) m = zr X y (pc + 1) ls (.long (u &&& v) :: st) m := by
  refine zr_go (q := (pc + 1, ls, .long (u &&& v) :: st, m)) ?_
  rw [zact_eq hT]
  rfl
theorem zr_lor {u v : Int64} (hT : zT y pc = some (.lor, 1, a, b, w))  : zr X y pc ls (.long v :: .long u :: st) m = zr X y (pc + 1) ls (.long (u ||| v) :: st) m := by
  refine zr_go (q := (pc + 1, ls, .long (u ||| v) :: st, m)) ?_
  rw [zact_eq hT]
  rfl
theorem zr_lcmp {u v : Int64} (hT : zT y pc = some (.lcmp, 1, a, b, w))  : zr X y pc ls (.long v :: .long u :: st) m = zr X y (pc + 1) ls (.int (lg_cmp u v) :: st) m := by
  refine zr_go (q := (pc + 1, ls, .int (lg_cmp u v) :: st, m)) ?_
  rw [zact_eq hT]
  rfl
theorem zr_lshl {u : Int64} {v : Int32} (hT : zT y pc = some (.lshl, 1, a, b, w))  : zr X y pc ls (.int v :: .long u :: st) m = zr X y (pc + 1) ls (.long (u <<< (v.toInt64 &&& 63)) :: st) m := by
  refine zr_go (q := (pc + 1, ls, .long (u <<< (v.toInt64 &&& 63)) :: st, m)) ?_
  rw [zact_eq hT]
  rfl
theorem zr_lushr {u : Int64} {v : Int32} (hT : zT y pc = some (.lushr, 1, a, b, w))  : zr X y pc ls (.int v :: .long u :: st) m = zr X y (pc + 1) ls (.long ((u.toUInt64 >>> (v.toInt64.toUInt64 &&& Int64.toUInt64 63)).toInt64) :: st) m := by
  refine zr_go (q := (pc + 1, ls, .long ((u.toUInt64 >>> (v.toInt64.toUInt64 &&& Int64.toUInt64 63)).toInt64) :: st, m)) ?_
  rw [zact_eq hT]
  rfl
theorem zr_dup {v : Value} (hT : zT y pc = some (.dup, 1, a, b, w)) (hv : v.category = 1) : zr X y pc ls (v :: st) m = zr X y (pc + 1) ls (v :: v :: st) m := by
  refine zr_go (q := (pc + 1, ls, v :: v :: st, m)) ?_
  rw [zact_eq hT]
  show (if v.category = 1 then zgo (pc + 1) ls (v :: v :: st) m else none) = _
  rw [if_pos hv]
  rfl
theorem zr_dup2 {v v2 : Value} (hT : zT y pc = some (.dup2, 1, a, b, w)) (hv : v.category = 1 ∧ v2.category = 1) : zr X y pc ls (v :: v2 :: st) m = zr X y (pc + 1) ls (v :: v2 :: v :: v2 :: st) m := by
  refine zr_go (q := (pc + 1, ls, v :: v2 :: v :: v2 :: st, m)) ?_
  rw [zact_eq hT]
  show (if v.category = 1 ∧ v2.category = 1 then zgo (pc + 1) ls (v :: v2 :: v :: v2 :: st) m else none) = _
  rw [if_pos hv]
  rfl
theorem zr_pop {v : Value} (hT : zT y pc = some (.pop, 1, a, b, w)) (hv : v.category = 1) : zr X y pc ls (v :: st) m = zr X y (pc + 1) ls st m := by
  refine zr_go (q := (pc + 1, ls, st, m)) ?_
  rw [zact_eq hT]
  show (if v.category = 1 then zgo (pc + 1) ls st m else none) = _
  rw [if_pos hv]
  rfl
theorem zr_goto {off : Int} {tgt : Nat} (hT : zT y pc = some (.goto off, 3, a, b, w)) (ho : (pc : Int) + off = (tgt : Int)) : zr X y pc ls st m = zr X y tgt ls st m := by
  refine zr_go (q := (tgt, ls, st, m)) ?_
  rw [zact_eq hT]
  show (if 0 ≤ (pc : Int) + off then zgo ((pc : Int) + off).toNat ls st m else none) = _
  rw [ho, if_pos (Int.natCast_nonneg tgt)]
  rfl
theorem zr_if_eq {u : Int32} {off : Int} {tgt : Nat} (hT : zT y pc = some (.ifCond .eq off, 3, a, b, w)) (ho : (pc : Int) + off = (tgt : Int)) : zr X y pc ls (.int u :: st) m = if u = 0 then zr X y tgt ls st m else zr X y (pc + 3) ls st m := by
  have key : zact X y pc ls (.int u :: st) m = some (.inl (cond (zcmp .eq u 0) tgt (pc + 3), ls, st, m)) := by
    rw [zact_eq hT]
    show zbr pc ls m off (zcmp .eq u 0) st = _
    unfold zbr
    rw [ho, if_pos (Int.natCast_nonneg tgt)]
    rfl
  rw [zr_go key]
  by_cases h : u = 0
  · rw [if_pos h, show zcmp .eq u 0 = true from decide_eq_true h]
    rfl
  · rw [if_neg h, show zcmp .eq u 0 = false from decide_eq_false h]
    rfl
theorem zr_ic_eq {u v : Int32} {off : Int} {tgt : Nat} (hT : zT y pc = some (.if_icmp .eq off, 3, a, b, w)) (ho : (pc : Int) + off = (tgt : Int)) : zr X y pc ls (.int v :: .int u :: st) m = if u = v then zr X y tgt ls st m else zr X y (pc + 3) ls st m := by
  have key : zact X y pc ls (.int v :: .int u :: st) m = some (.inl (cond (zcmp .eq u v) tgt (pc + 3), ls, st, m)) := by
    rw [zact_eq hT]
    show zbr pc ls m off (zcmp .eq u v) st = _
    unfold zbr
    rw [ho, if_pos (Int.natCast_nonneg tgt)]
    rfl
  rw [zr_go key]
  by_cases h : u = v
  · rw [if_pos h, show zcmp .eq u v = true from decide_eq_true h]
    rfl
  · rw [if_neg h, show zcmp .eq u v = false from decide_eq_false h]
    rfl
theorem zr_if_ne {u : Int32} {off : Int} {tgt : Nat} (hT : zT y pc = some (.ifCond .ne off, 3, a, b, w)) (ho : (pc : Int) + off = (tgt : Int)) : zr X y pc ls (.int u :: st) m = if ¬ u = 0 then zr X y tgt ls st m else zr X y (pc + 3) ls st m := by
  have key : zact X y pc ls (.int u :: st) m = some (.inl (cond (zcmp .ne u 0) tgt (pc + 3), ls, st, m)) := by
    rw [zact_eq hT]
    show zbr pc ls m off (zcmp .ne u 0) st = _
    unfold zbr
    rw [ho, if_pos (Int.natCast_nonneg tgt)]
    rfl
  rw [zr_go key]
  by_cases h : ¬ u = 0
  · rw [if_pos h, show zcmp .ne u 0 = true from decide_eq_true h]
    rfl
  · rw [if_neg h, show zcmp .ne u 0 = false from decide_eq_false h]
    rfl
theorem zr_ic_ne {u v : Int32} {off : Int} {tgt : Nat} (hT : zT y pc = some (.if_icmp .ne off, 3, a, b, w)) (ho : (pc : Int) + off = (tgt : Int)) : zr X y pc ls (.int v :: .int u :: st) m = if ¬ u = v then zr X y tgt ls st m else zr X y (pc + 3) ls st m := by
  have key : zact X y pc ls (.int v :: .int u :: st) m = some (.inl (cond (zcmp .ne u v) tgt (pc + 3), ls, st, m)) := by
    rw [zact_eq hT]
    show zbr pc ls m off (zcmp .ne u v) st = _
    unfold zbr
    rw [ho, if_pos (Int.natCast_nonneg tgt)]
    rfl
  rw [zr_go key]
  by_cases h : ¬ u = v
  · rw [if_pos h, show zcmp .ne u v = true from decide_eq_true h]
    rfl
  · rw [if_neg h, show zcmp .ne u v = false from decide_eq_false h]
    rfl
theorem zr_if_lt {u : Int32} {off : Int} {tgt : Nat} (hT : zT y pc = some (.ifCond .lt off, 3, a, b, w)) (ho : (pc : Int) + off = (tgt : Int)) : zr X y pc ls (.int u :: st) m = if u < 0 then zr X y tgt ls st m else zr X y (pc + 3) ls st m := by
  have key : zact X y pc ls (.int u :: st) m = some (.inl (cond (zcmp .lt u 0) tgt (pc + 3), ls, st, m)) := by
    rw [zact_eq hT]
    show zbr pc ls m off (zcmp .lt u 0) st = _
    unfold zbr
    rw [ho, if_pos (Int.natCast_nonneg tgt)]
    rfl
  rw [zr_go key]
  by_cases h : u < 0
  · rw [if_pos h, show zcmp .lt u 0 = true from decide_eq_true h]
    rfl
  · rw [if_neg h, show zcmp .lt u 0 = false from decide_eq_false h]
    rfl
theorem zr_ic_lt {u v : Int32} {off : Int} {tgt : Nat} (hT : zT y pc = some (.if_icmp .lt off, 3, a, b, w)) (ho : (pc : Int) + off = (tgt : Int)) : zr X y pc ls (.int v :: .int u :: st) m = if u < v then zr X y tgt ls st m else zr X y (pc + 3) ls st m := by
  have key : zact X y pc ls (.int v :: .int u :: st) m = some (.inl (cond (zcmp .lt u v) tgt (pc + 3), ls, st, m)) := by
    rw [zact_eq hT]
    show zbr pc ls m off (zcmp .lt u v) st = _
    unfold zbr
    rw [ho, if_pos (Int.natCast_nonneg tgt)]
    rfl
  rw [zr_go key]
  by_cases h : u < v
  · rw [if_pos h, show zcmp .lt u v = true from decide_eq_true h]
    rfl
  · rw [if_neg h, show zcmp .lt u v = false from decide_eq_false h]
    rfl
theorem zr_if_ge {u : Int32} {off : Int} {tgt : Nat} (hT : zT y pc = some (.ifCond .ge off, 3, a, b, w)) (ho : (pc : Int) + off = (tgt : Int)) : zr X y pc ls (.int u :: st) m = if 0 ≤ u then zr X y tgt ls st m else zr X y (pc + 3) ls st m := by
  have key : zact X y pc ls (.int u :: st) m = some (.inl (cond (zcmp .ge u 0) tgt (pc + 3), ls, st, m)) := by
    rw [zact_eq hT]
    show zbr pc ls m off (zcmp .ge u 0) st = _
    unfold zbr
    rw [ho, if_pos (Int.natCast_nonneg tgt)]
    rfl
  rw [zr_go key]
  by_cases h : 0 ≤ u
  · rw [if_pos h, show zcmp .ge u 0 = true from decide_eq_true h]
    rfl
  · rw [if_neg h, show zcmp .ge u 0 = false from decide_eq_false h]
    rfl
theorem zr_ic_ge {u v : Int32} {off : Int} {tgt : Nat} (hT : zT y pc = some (.if_icmp .ge off, 3, a, b, w)) (ho : (pc : Int) + off = (tgt : Int)) : zr X y pc ls (.int v :: .int u :: st) m = if v ≤ u then zr X y tgt ls st m else zr X y (pc + 3) ls st m := by
  have key : zact X y pc ls (.int v :: .int u :: st) m = some (.inl (cond (zcmp .ge u v) tgt (pc + 3), ls, st, m)) := by
    rw [zact_eq hT]
    show zbr pc ls m off (zcmp .ge u v) st = _
    unfold zbr
    rw [ho, if_pos (Int.natCast_nonneg tgt)]
    rfl
  rw [zr_go key]
  by_cases h : v ≤ u
  · rw [if_pos h, show zcmp .ge u v = true from decide_eq_true h]
    rfl
  · rw [if_neg h, show zcmp .ge u v = false from decide_eq_false h]
    rfl
theorem zr_if_gt {u : Int32} {off : Int} {tgt : Nat} (hT : zT y pc = some (.ifCond .gt off, 3, a, b, w)) (ho : (pc : Int) + off = (tgt : Int)) : zr X y pc ls (.int u :: st) m = if 0 < u then zr X y tgt ls st m else zr X y (pc + 3) ls st m := by
  have key : zact X y pc ls (.int u :: st) m = some (.inl (cond (zcmp .gt u 0) tgt (pc + 3), ls, st, m)) := by
    rw [zact_eq hT]
    show zbr pc ls m off (zcmp .gt u 0) st = _
    unfold zbr
    rw [ho, if_pos (Int.natCast_nonneg tgt)]
    rfl
  rw [zr_go key]
  by_cases h : 0 < u
  · rw [if_pos h, show zcmp .gt u 0 = true from decide_eq_true h]
    rfl
  · rw [if_neg h, show zcmp .gt u 0 = false from decide_eq_false h]
    rfl
theorem zr_ic_gt {u v : Int32} {off : Int} {tgt : Nat} (hT : zT y pc = some (.if_icmp .gt off, 3, a, b, w)) (ho : (pc : Int) + off = (tgt : Int)) : zr X y pc ls (.int v :: .int u :: st) m = if v < u then zr X y tgt ls st m else zr X y (pc + 3) ls st m := by
  have key : zact X y pc ls (.int v :: .int u :: st) m = some (.inl (cond (zcmp .gt u v) tgt (pc + 3), ls, st, m)) := by
    rw [zact_eq hT]
    show zbr pc ls m off (zcmp .gt u v) st = _
    unfold zbr
    rw [ho, if_pos (Int.natCast_nonneg tgt)]
    rfl
  rw [zr_go key]
  by_cases h : v < u
  · rw [if_pos h, show zcmp .gt u v = true from decide_eq_true h]
    rfl
  · rw [if_neg h, show zcmp .gt u v = false from decide_eq_false h]
    rfl
theorem zr_if_le {u : Int32} {off : Int} {tgt : Nat} (hT : zT y pc = some (.ifCond .le off, 3, a, b, w)) (ho : (pc : Int) + off = (tgt : Int)) : zr X y pc ls (.int u :: st) m = if u ≤ 0 then zr X y tgt ls st m else zr X y (pc + 3) ls st m := by
  have key : zact X y pc ls (.int u :: st) m = some (.inl (cond (zcmp .le u 0) tgt (pc + 3), ls, st, m)) := by
    rw [zact_eq hT]
    show zbr pc ls m off (zcmp .le u 0) st = _
    unfold zbr
    rw [ho, if_pos (Int.natCast_nonneg tgt)]
    rfl
  rw [zr_go key]
  by_cases h : u ≤ 0
  · rw [if_pos h, show zcmp .le u 0 = true from decide_eq_true h]
    rfl
  · rw [if_neg h, show zcmp .le u 0 = false from decide_eq_false h]
    rfl
theorem zr_ic_le {u v : Int32} {off : Int} {tgt : Nat} (hT : zT y pc = some (.if_icmp .le off, 3, a, b, w)) (ho : (pc : Int) + off = (tgt : Int)) : zr X y pc ls (.int v :: .int u :: st) m = if u ≤ v then zr X y tgt ls st m else zr X y (pc + 3) ls st m := by
  have key : zact X y pc ls (.int v :: .int u :: st) m = some (.inl (cond (zcmp .le u v) tgt (pc + 3), ls, st, m)) := by
    rw [zact_eq hT]
    show zbr pc ls m off (zcmp .le u v) st = _
    unfold zbr
    rw [ho, if_pos (Int.natCast_nonneg tgt)]
    rfl
  rw [zr_go key]
  by_cases h : u ≤ v
  · rw [if_pos h, show zcmp .le u v = true from decide_eq_true h]
    rfl
  · rw [if_neg h, show zcmp .le u v = false from decide_eq_false h]
    rfl
theorem zr_getI {i t k c : Nat} (hT : zT y pc = some (.getfield i, 3, c, k, w)) (h : zfI t c k = true) : zr X y pc ls (.ref t :: st) (zk I) = zr X y (pc + 3) ls (.int (I t k) :: st) (zk I) := by
  refine zr_go (q := (pc + 3, ls, .int (I t k) :: st, zk I)) ?_
  rw [zact_eq hT]
  obtain ⟨h1, h2, h3, h4⟩ := of_decide_eq_true h
  show zget c k pc ls (.ref t :: st) (zk I) = _
  unfold zget
  dsimp only
  rw [if_pos ⟨h1, h2, h3⟩]
  split
  next e => exact absurd e h4
  next => rfl
theorem zr_getR {i t k u c : Nat} (hT : zT y pc = some (.getfield i, 3, c, k, w)) (h : zfR t c k u = true) : zr X y pc ls (.ref t :: st) (zk I) = zr X y (pc + 3) ls (.ref u :: st) (zk I) := by
  refine zr_go (q := (pc + 3, ls, .ref u :: st, zk I)) ?_
  rw [zact_eq hT]
  obtain ⟨h1, h2, h3, h4, h5, h6⟩ := of_decide_eq_true h
  show zget c k pc ls (.ref t :: st) (zk I) = _
  unfold zget
  dsimp only
  rw [if_pos ⟨h1, h2, h3⟩, h4]
  have h7 : zRf (zk I) t k = u := h5
  rw [h7, if_neg h6]
  rfl
theorem zr_putI {i t k c : Nat} {x : Int32} (hT : zT y pc = some (.putfield i, 3, c, k, w)) (h : zfI t c k = true) (hf : zFk c k = 0 ∨ zFk c k = 1 ∧ (x = 0 ∨ x = 1)) : zr X y pc ls (.int x :: .ref t :: st) (zk I) = zr X y (pc + 3) ls st (zk (zup I t (upd (I t) k x))) := by
  refine zr_go (q := (pc + 3, ls, st, zk (zup I t (upd (I t) k x)))) ?_
  rw [zact_eq hT]
  obtain ⟨h1, h2, h3, h4⟩ := of_decide_eq_true h
  show zput c k pc ls (.int x :: .ref t :: st) (zk I) = _
  unfold zput
  dsimp only
  rw [if_pos ⟨h1, h2, h3, hf⟩]
  rfl
theorem zr_iald {t j N : Nat} {i : Int32} (hT : zT y pc = some (.iaload, 1, a, b, w)) (h : zaI t 0 N = true) (hj : zx i = j) (hz : zin i N = true) : zr X y pc ls (.int i :: .ref t :: st) (zk I) = zr X y (pc + 1) ls (.int (I t j) :: st) (zk I) := by
  subst hj
  refine zr_go (q := (pc + 1, ls, .int (I t i.toNatClampNeg) :: st, zk I)) ?_
  rw [zact_eq hT]
  obtain ⟨h1, h2, h3⟩ := of_decide_eq_true h
  show ziald X pc ls (.int i :: .ref t :: st) (zk I) = _
  unfold ziald
  dsimp only
  have h4 : zLe (zk I) t = N := h3
  rw [if_neg h1, if_pos ⟨h2, by rw [h4]; exact hz⟩]
  rfl
theorem zr_bald {t j N : Nat} {i : Int32} (hT : zT y pc = some (.baload, 1, a, b, w)) (h : zaI t 1 N = true) (hj : zx i = j) (hz : zin i N = true) : zr X y pc ls (.int i :: .ref t :: st) (zk I) = zr X y (pc + 1) ls (.int (I t j) :: st) (zk I) := by
  subst hj
  refine zr_go (q := (pc + 1, ls, .int (I t i.toNatClampNeg) :: st, zk I)) ?_
  rw [zact_eq hT]
  obtain ⟨h1, h2, h3⟩ := of_decide_eq_true h
  show zbald pc ls (.int i :: .ref t :: st) (zk I) = _
  unfold zbald
  dsimp only
  have h4 : zLe (zk I) t = N := h3
  rw [if_pos ⟨h1, h2, by rw [h4]; exact hz⟩]
  rfl
theorem zr_aald {t u N : Nat} {i : Int32} (hT : zT y pc = some (.aaload, 1, a, b, w)) (h : zaI t 2 N = true) (hz : zin i N = true) (hu : (zR0.getD t []).getD (zx i) 0 = u) (hu0 : u ≠ 0) : zr X y pc ls (.int i :: .ref t :: st) (zk I) = zr X y (pc + 1) ls (.ref u :: st) (zk I) := by
  refine zr_go (q := (pc + 1, ls, .ref u :: st, zk I)) ?_
  rw [zact_eq hT]
  obtain ⟨h1, h2, h3⟩ := of_decide_eq_true h
  show zaald pc ls (.int i :: .ref t :: st) (zk I) = _
  unfold zaald
  dsimp only
  have h4 : zLe (zk I) t = N := h3
  have h5 : zRf (zk I) t i.toNatClampNeg = u := hu
  rw [if_pos ⟨h1, h2, by rw [h4]; exact hz, by rw [h5]; exact hu0⟩, h5]
  rfl
theorem zr_iast {t j N : Nat} {i x : Int32} (hT : zT y pc = some (.iastore, 1, a, b, w)) (h : zaI t 0 N = true) (hj : zx i = j) (hz : zin i N = true) : zr X y pc ls (.int x :: .int i :: .ref t :: st) (zk I) = zr X y (pc + 1) ls st (zk (zup I t (upd (I t) j x))) := by
  subst hj
  refine zr_go (q := (pc + 1, ls, st, zk (zup I t (upd (I t) i.toNatClampNeg x)))) ?_
  rw [zact_eq hT]
  obtain ⟨h1, h2, h3⟩ := of_decide_eq_true h
  show ziast pc ls (.int x :: .int i :: .ref t :: st) (zk I) = _
  unfold ziast
  dsimp only
  have h4 : zLe (zk I) t = N := h3
  rw [if_pos ⟨h1, h2, by rw [h4]; exact hz⟩]
  rfl
theorem zr_bast {t j N : Nat} {i x : Int32} (hT : zT y pc = some (.bastore, 1, a, b, w)) (h : zaI t 1 N = true) (hj : zx i = j) (hz : zin i N = true) (hx : x = 0 ∨ x = 1) : zr X y pc ls (.int x :: .int i :: .ref t :: st) (zk I) = zr X y (pc + 1) ls st (zk (zup I t (upd (I t) j x))) := by
  subst hj
  refine zr_go (q := (pc + 1, ls, st, zk (zup I t (upd (I t) i.toNatClampNeg x)))) ?_
  rw [zact_eq hT]
  obtain ⟨h1, h2, h3⟩ := of_decide_eq_true h
  show zbast pc ls (.int x :: .int i :: .ref t :: st) (zk I) = _
  unfold zbast
  dsimp only
  have h4 : zLe (zk I) t = N := h3
  rw [if_pos ⟨h1, h2, by rw [h4]; exact hz, hx⟩]
  rfl
theorem zr_alen {t N : Nat} {x : Int32} (hT : zT y pc = some (.arraylength, 1, a, b, w)) (h : (zaI t 0 N || zaI t 1 N || zaI t 2 N) = true) (hx : Int32.ofNat N = x) : zr X y pc ls (.ref t :: st) (zk I) = zr X y (pc + 1) ls (.int x :: st) (zk I) := by
  subst hx
  refine zr_go (q := (pc + 1, ls, .int (Int32.ofNat N) :: st, zk I)) ?_
  rw [zact_eq hT]
  show zalen X pc ls (.ref t :: st) (zk I) = _
  unfold zalen
  dsimp only
  have key : t ≠ 0 ∧ zKi (zk I) t < 3 ∧ zLe (zk I) t = N := by
    simp only [Bool.or_eq_true] at h
    rcases h with (h | h) | h
    all_goals
      obtain ⟨h1, h2, h3⟩ := of_decide_eq_true h
      refine ⟨h1, ?_, h3⟩
      show zK0.getD t 50 < 3
      omega
  rw [if_neg key.1, if_pos key.2.1, key.2.2]
  rfl
theorem zr_sld {j : Nat} {i : Int32} (hT : zT y pc = some (.iaload, 1, a, b, w)) (hj : zx i = j) (hz : zin i X.1 = true) : zr X y pc ls (.int i :: .ref 0 :: st) (zk I) = zr X y (pc + 1) ls (.int (X.2 j) :: st) (zk I) := by
  subst hj
  refine zr_go (q := (pc + 1, ls, .int (X.2 i.toNatClampNeg) :: st, zk I)) ?_
  rw [zact_eq hT]
  show ziald X pc ls (.int i :: .ref 0 :: st) (zk I) = _
  unfold ziald
  dsimp only
  rw [if_pos rfl, if_pos ⟨rfl, hz⟩]
  rfl
theorem zr_slen (hT : zT y pc = some (.arraylength, 1, a, b, w)) : zr X y pc ls (.ref 0 :: st) (zk I) = zr X y (pc + 1) ls (.int (Int32.ofNat X.1) :: st) (zk I) := by
  refine zr_go (q := (pc + 1, ls, .int (Int32.ofNat X.1) :: st, zk I)) ?_
  rw [zact_eq hT]
  rfl
theorem zr_acopy {i t d j k z N M : Nat} {sp dp c : Int32} (hT : zT y pc = some (.invokestatic i, 3, 1001, b, w)) (h : zaI t 0 N = true) (h' : zaI d 0 M = true) (h1 : ¬ sp < 0) (h2 : ¬ dp < 0) (h3 : ¬ c < 0) (hj : zx sp = j) (hk : zx dp = k) (hz : zx c = z) (h4 : j + z ≤ N) (h5 : k + z ≤ M) :
    zr X y pc ls [.int c, .int dp, .ref d, .int sp, .ref t] (zk I) = zr X y (pc + 3) ls [] (zk (zup I d (va_cpy (I t) (I d) j k z))) := by
  subst hj
  subst hk
  subst hz
  refine zr_go (q := (pc + 3, ls, [], zk (zup I d (va_cpy (I t) (I d) (zx sp) (zx dp) (zx c))))) ?_
  rw [zact_eq hT]
  obtain ⟨a1, a2, a3⟩ := of_decide_eq_true h
  obtain ⟨b1, b2, b3⟩ := of_decide_eq_true h'
  have e1 : zLe (zk I) t = N := a3
  have e2 : zLe (zk I) d = M := b3
  show (if (1001 : Nat) = 1001 then zacopy pc ls [.int c, .int dp, .ref d, .int sp, .ref t] (zk I) else if (1001 : Nat) = 1002 then zmin pc ls [.int c, .int dp, .ref d, .int sp, .ref t] (zk I) else zcall 1001 [.int c, .int dp, .ref d, .int sp, .ref t] (zk I)) = _
  rw [if_pos rfl]
  unfold zacopy
  dsimp only
  rw [if_pos ⟨a1, b1, a2, b2, h1, h2, h3, by rw [e1]; exact h4, by rw [e2]; exact h5, rfl⟩]
  rfl
theorem zr_min {i : Nat} {u v : Int32} (hT : zT y pc = some (.invokestatic i, 3, 1002, b, w)) (hs : decide ((st.map fun v => v.category).sum ≤ 8) = true) : zr X y pc ls (.int v :: .int u :: st) m = zr X y (pc + 3) ls (.int (if v < u then v else u) :: st) m := by
  refine zr_go (q := (pc + 3, ls, .int (if v < u then v else u) :: st, m)) ?_
  rw [zact_eq hT]
  show zmin pc ls (.int v :: .int u :: st) m = _
  unfold zmin
  dsimp only
  rw [if_pos (of_decide_eq_true hs)]
  rfl
theorem zr_iret {v : Int32} (hT : zT y pc = some (.ireturn, 1, a, b, w)) (hr : zRt y = some .int) : zr X y pc ls [.int v] m = some (some (.int v), m) := by
  refine zr_ret ?_
  rw [zact_eq hT]
  show zret y [.int v] m = _
  unfold zret
  rw [hr]
theorem zr_zret {v : Int32} (hT : zT y pc = some (.ireturn, 1, a, b, w)) (hr : zRt y = some .boolean) (hv : v = 0 ∨ v = 1) : zr X y pc ls [.int v] m = some (some (.int v), m) := by
  refine zr_ret ?_
  rw [zact_eq hT]
  show zret y [.int v] m = _
  unfold zret
  rw [hr]
  dsimp only
  rw [if_pos hv]
theorem zr_vret (hT : zT y pc = some (.return_, 1, a, b, w)) (hr : zRt y = none) : zr X y pc ls [] m = some (none, m) := by
  refine zr_ret ?_
  rw [zact_eq hT]
  show (if ([] : List Value) = [] ∧ zRt y = none then _ else none) = _
  rw [if_pos ⟨rfl, hr⟩]
/-- a call, on the memory that stands -/
def zcok (k : Nat) (st : List Value) : Bool := decide (zA k ≤ st.length ∧ ((st.drop (zA k)).map fun v => v.category).sum ≤ 8 ∧ k < 186 ∧ (zEn k (st.take (zA k)).reverse).length = zL k) && (zSt k || zrcv k st (zk fun _ _ => 0))
theorem zK0_pos : 0 < zK0.length := by decide +kernel
theorem zrcv_k {k : Nat} : zrcv k st (zk I) = zrcv k st (zk fun _ _ => 0) := by
  unfold zrcv
  split <;> rfl
theorem zcall_k {k : Nat} {As rest : List Value} (h : zcok k st = true) (h1 : (st.take (zA k)).reverse = As) (h2 : st.drop (zA k) = rest) : zcall k st (zk I) = some (.inr (.inr (k, As, rest))) := by
  unfold zcok at h
  simp only [Bool.and_eq_true, Bool.or_eq_true, decide_eq_true_eq] at h
  obtain ⟨⟨a1, a2, a3, a4⟩, a5⟩ := h
  unfold zcall
  rw [if_pos ⟨a1, a2, a3, zK0_pos, a4, by rw [zrcv_k]; exact a5⟩, h1, h2]
theorem zr_callv {i k : Nat} {As rest ls' : List Value} (hT : zT y pc = some (.invokevirtual i, 3, k, b, w)) (h : zcok k st = true) (h1 : (st.take (zA k)).reverse = As) (h2 : st.drop (zA k) = rest) (h3 : zEn k As = ls') : zr X y pc ls st (zk I) = zcb (zr X k 0 ls' [] (zk I)) (fun v m1 => zr X y (pc + 3) ls (v.toList ++ rest) m1) := by
  subst h3
  refine zr_cl ?_
  rw [zact_eq hT]
  exact zcall_k h h1 h2
theorem zr_calls {i k : Nat} {As rest ls' : List Value} (hT : zT y pc = some (.invokestatic i, 3, k, b, w)) (hk : (k != 1001 && k != 1002) = true) (h : zcok k st = true) (h1 : (st.take (zA k)).reverse = As) (h2 : st.drop (zA k) = rest) (h3 : zEn k As = ls') : zr X y pc ls st (zk I) = zcb (zr X k 0 ls' [] (zk I)) (fun v m1 => zr X y (pc + 3) ls (v.toList ++ rest) m1) := by
  subst h3
  refine zr_cl ?_
  rw [zact_eq hT]
  simp only [Bool.and_eq_true, bne_iff_ne] at hk
  show (if k = 1001 then _ else if k = 1002 then _ else zcall k st (zk I)) = _
  rw [if_neg hk.1, if_neg hk.2]
  exact zcall_k h h1 h2
theorem zr_tabI {d lo hi off : Int} {offs : Array Int} {len tgt : Nat} {x : Int32} (hT : zT y pc = some (.tableswitch d lo hi offs, len, a, b, w)) (h1 : ¬ (x.toInt < lo ∨ hi < x.toInt)) (h2 : offs[(x.toInt - lo).toNat]? = some off) (ho : (pc : Int) + off = (tgt : Int)) : zr X y pc ls (.int x :: st) m = zr X y tgt ls st m := by
  refine zr_go (q := (tgt, ls, st, m)) ?_
  rw [zact_eq hT]
  show (match (if x.toInt < lo ∨ hi < x.toInt then some d else offs[(x.toInt - lo).toNat]?) with | some off => if 0 ≤ (pc : Int) + off then zgo ((pc : Int) + off).toNat ls st m else none | none => none) = _
  rw [if_neg h1, h2]
  dsimp only
  rw [ho, if_pos (Int.natCast_nonneg tgt)]
  rfl
theorem zr_tabO {d lo hi : Int} {offs : Array Int} {len tgt : Nat} {x : Int32} (hT : zT y pc = some (.tableswitch d lo hi offs, len, a, b, w)) (h1 : x.toInt < lo ∨ hi < x.toInt) (ho : (pc : Int) + d = (tgt : Int)) : zr X y pc ls (.int x :: st) m = zr X y tgt ls st m := by
  refine zr_go (q := (tgt, ls, st, m)) ?_
  rw [zact_eq hT]
  show (match (if x.toInt < lo ∨ hi < x.toInt then some d else offs[(x.toInt - lo).toNat]?) with | some off => if 0 ≤ (pc : Int) + off then zgo ((pc : Int) + off).toNat ls st m else none | none => none) = _
  rw [if_pos h1]
  dsimp only
  rw [ho, if_pos (Int.natCast_nonneg tgt)]
  rfl
theorem zr_look {d : Int} {ps : Array (Int × Int)} {len tgt : Nat} {x : Int32} (hT : zT y pc = some (.lookupswitch d ps, len, a, b, w)) (hp : (ps.toList.zip (ps.toList.drop 1)).all (fun (a, next) => a.1 < next.1) = true) (ho : (pc : Int) + Op.lookupswitch.offset ps.toList d x.toInt = (tgt : Int)) : zr X y pc ls (.int x :: st) m = zr X y tgt ls st m := by
  refine zr_go (q := (tgt, ls, st, m)) ?_
  rw [zact_eq hT]
  show (if 0 ≤ (pc : Int) + Op.lookupswitch.offset ps.toList d x.toInt ∧ (ps.toList.zip (ps.toList.drop 1)).all (fun (a, next) => a.1 < next.1) = true then zgo ((pc : Int) + Op.lookupswitch.offset ps.toList d x.toInt).toNat ls st m else none) = _
  rw [if_pos ⟨by rw [ho]; exact Int.natCast_nonneg tgt, hp⟩, ho]
  rfl
end ZE
end
