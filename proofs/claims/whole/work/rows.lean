section
-- ===== PART A: goes FIRST, ahead of the names: the tables' words, and 'selects' of the private methods out of them =====
/-- a private method of a class that the tables say can be made, by its rows of tables_1 -/
def lw_okq (q : MethodName × Nat) : Prop := (q.1.cls ≠ "java/lang/invoke/MethodHandle" ∧ q.1.cls ≠ "java/lang/invoke/VarHandle") ∧ Cond.instantiable q.1.cls q.2 ∈ tables_1 ∧ Cond.privateMethod q.1 ∈ tables_1 ∧ Cond.instanceMethod q.1 ∈ tables_1
theorem lw_p0 : lw_okq (⟨"WhoBuiltSails", "toldOfPart", "(II)I"⟩, 8) := ⟨⟨by decide +kernel, by decide +kernel⟩, List.mem_of_getElem? (i := 15) (by decide +kernel), List.mem_of_getElem? (i := 198) (by decide +kernel), List.mem_of_getElem? (i := 199) (by decide +kernel)⟩
theorem lw_p1 : lw_okq (⟨"WhoBuiltSails", "toldOfWright", "(II)I"⟩, 8) := ⟨⟨by decide +kernel, by decide +kernel⟩, List.mem_of_getElem? (i := 15) (by decide +kernel), List.mem_of_getElem? (i := 217) (by decide +kernel), List.mem_of_getElem? (i := 218) (by decide +kernel)⟩
theorem lw_p2 : lw_okq (⟨"WhoBuiltSails$Ship", "telling", "(III)I"⟩, 12) := ⟨⟨by decide +kernel, by decide +kernel⟩, List.mem_of_getElem? (i := 83) (by decide +kernel), List.mem_of_getElem? (i := 229) (by decide +kernel), List.mem_of_getElem? (i := 230) (by decide +kernel)⟩
theorem lw_p3 : lw_okq (⟨"WhoBuiltSails$Reader", "next", "()V"⟩, 9) := ⟨⟨by decide +kernel, by decide +kernel⟩, List.mem_of_getElem? (i := 48) (by decide +kernel), List.mem_of_getElem? (i := 300) (by decide +kernel), List.mem_of_getElem? (i := 301) (by decide +kernel)⟩
theorem lw_p4 : lw_okq (⟨"WhoBuiltSails$Reader", "nextWord", "()V"⟩, 9) := ⟨⟨by decide +kernel, by decide +kernel⟩, List.mem_of_getElem? (i := 48) (by decide +kernel), List.mem_of_getElem? (i := 305) (by decide +kernel), List.mem_of_getElem? (i := 306) (by decide +kernel)⟩
theorem lw_p5 : lw_okq (⟨"WhoBuiltSails$Reader", "nextNumber", "()V"⟩, 9) := ⟨⟨by decide +kernel, by decide +kernel⟩, List.mem_of_getElem? (i := 48) (by decide +kernel), List.mem_of_getElem? (i := 358) (by decide +kernel), List.mem_of_getElem? (i := 359) (by decide +kernel)⟩
theorem lw_p6 : lw_okq (⟨"WhoBuiltSails$Reader", "needs", "(I)V"⟩, 9) := ⟨⟨by decide +kernel, by decide +kernel⟩, List.mem_of_getElem? (i := 48) (by decide +kernel), List.mem_of_getElem? (i := 365) (by decide +kernel), List.mem_of_getElem? (i := 366) (by decide +kernel)⟩
theorem lw_p7 : lw_okq (⟨"WhoBuiltSails$Reader", "fails", "()V"⟩, 9) := ⟨⟨by decide +kernel, by decide +kernel⟩, List.mem_of_getElem? (i := 48) (by decide +kernel), List.mem_of_getElem? (i := 369) (by decide +kernel), List.mem_of_getElem? (i := 370) (by decide +kernel)⟩
theorem lw_p8 : lw_okq (⟨"WhoBuiltSails$Reader", "readOr", "()V"⟩, 9) := ⟨⟨by decide +kernel, by decide +kernel⟩, List.mem_of_getElem? (i := 48) (by decide +kernel), List.mem_of_getElem? (i := 373) (by decide +kernel), List.mem_of_getElem? (i := 374) (by decide +kernel)⟩
theorem lw_p9 : lw_okq (⟨"WhoBuiltSails$Reader", "readAnd", "()V"⟩, 9) := ⟨⟨by decide +kernel, by decide +kernel⟩, List.mem_of_getElem? (i := 48) (by decide +kernel), List.mem_of_getElem? (i := 377) (by decide +kernel), List.mem_of_getElem? (i := 378) (by decide +kernel)⟩
theorem lw_p10 : lw_okq (⟨"WhoBuiltSails$Reader", "readNot", "()V"⟩, 9) := ⟨⟨by decide +kernel, by decide +kernel⟩, List.mem_of_getElem? (i := 48) (by decide +kernel), List.mem_of_getElem? (i := 381) (by decide +kernel), List.mem_of_getElem? (i := 382) (by decide +kernel)⟩
theorem lw_p11 : lw_okq (⟨"WhoBuiltSails$Reader", "readCompared", "()V"⟩, 9) := ⟨⟨by decide +kernel, by decide +kernel⟩, List.mem_of_getElem? (i := 48) (by decide +kernel), List.mem_of_getElem? (i := 385) (by decide +kernel), List.mem_of_getElem? (i := 386) (by decide +kernel)⟩
theorem lw_p12 : lw_okq (⟨"WhoBuiltSails$Reader", "readSum", "()V"⟩, 9) := ⟨⟨by decide +kernel, by decide +kernel⟩, List.mem_of_getElem? (i := 48) (by decide +kernel), List.mem_of_getElem? (i := 389) (by decide +kernel), List.mem_of_getElem? (i := 390) (by decide +kernel)⟩
theorem lw_p13 : lw_okq (⟨"WhoBuiltSails$Reader", "readTerm", "()V"⟩, 9) := ⟨⟨by decide +kernel, by decide +kernel⟩, List.mem_of_getElem? (i := 48) (by decide +kernel), List.mem_of_getElem? (i := 393) (by decide +kernel), List.mem_of_getElem? (i := 394) (by decide +kernel)⟩
theorem lw_p14 : lw_okq (⟨"WhoBuiltSails$Reader", "readOne", "()V"⟩, 9) := ⟨⟨by decide +kernel, by decide +kernel⟩, List.mem_of_getElem? (i := 48) (by decide +kernel), List.mem_of_getElem? (i := 397) (by decide +kernel), List.mem_of_getElem? (i := 398) (by decide +kernel)⟩
theorem lw_p15 : lw_okq (⟨"WhoBuiltSails$Reader", "readMinus", "()V"⟩, 9) := ⟨⟨by decide +kernel, by decide +kernel⟩, List.mem_of_getElem? (i := 48) (by decide +kernel), List.mem_of_getElem? (i := 405) (by decide +kernel), List.mem_of_getElem? (i := 406) (by decide +kernel)⟩
def lw_privs_1 : List (MethodName × Nat) := [(⟨"WhoBuiltSails", "toldOfPart", "(II)I"⟩, 8), (⟨"WhoBuiltSails", "toldOfWright", "(II)I"⟩, 8), (⟨"WhoBuiltSails$Ship", "telling", "(III)I"⟩, 12), (⟨"WhoBuiltSails$Reader", "next", "()V"⟩, 9), (⟨"WhoBuiltSails$Reader", "nextWord", "()V"⟩, 9), (⟨"WhoBuiltSails$Reader", "nextNumber", "()V"⟩, 9), (⟨"WhoBuiltSails$Reader", "needs", "(I)V"⟩, 9), (⟨"WhoBuiltSails$Reader", "fails", "()V"⟩, 9), (⟨"WhoBuiltSails$Reader", "readOr", "()V"⟩, 9), (⟨"WhoBuiltSails$Reader", "readAnd", "()V"⟩, 9), (⟨"WhoBuiltSails$Reader", "readNot", "()V"⟩, 9), (⟨"WhoBuiltSails$Reader", "readCompared", "()V"⟩, 9), (⟨"WhoBuiltSails$Reader", "readSum", "()V"⟩, 9), (⟨"WhoBuiltSails$Reader", "readTerm", "()V"⟩, 9), (⟨"WhoBuiltSails$Reader", "readOne", "()V"⟩, 9), (⟨"WhoBuiltSails$Reader", "readMinus", "()V"⟩, 9)]
theorem lw_r1 : ∀ q ∈ lw_privs_1, lw_okq q := List.forall_mem_cons.mpr ⟨lw_p0, List.forall_mem_cons.mpr ⟨lw_p1, List.forall_mem_cons.mpr ⟨lw_p2, List.forall_mem_cons.mpr ⟨lw_p3, List.forall_mem_cons.mpr ⟨lw_p4, List.forall_mem_cons.mpr ⟨lw_p5, List.forall_mem_cons.mpr ⟨lw_p6, List.forall_mem_cons.mpr ⟨lw_p7, List.forall_mem_cons.mpr ⟨lw_p8, List.forall_mem_cons.mpr ⟨lw_p9, List.forall_mem_cons.mpr ⟨lw_p10, List.forall_mem_cons.mpr ⟨lw_p11, List.forall_mem_cons.mpr ⟨lw_p12, List.forall_mem_cons.mpr ⟨lw_p13, List.forall_mem_cons.mpr ⟨lw_p14, List.forall_mem_cons.mpr ⟨lw_p15, fun _ h => absurd h List.not_mem_nil⟩⟩⟩⟩⟩⟩⟩⟩⟩⟩⟩⟩⟩⟩⟩⟩
theorem lw_p16 : lw_okq (⟨"WhoBuiltSails$Reader", "opens", "()Z"⟩, 9) := ⟨⟨by decide +kernel, by decide +kernel⟩, List.mem_of_getElem? (i := 48) (by decide +kernel), List.mem_of_getElem? (i := 409) (by decide +kernel), List.mem_of_getElem? (i := 410) (by decide +kernel)⟩
theorem lw_p17 : lw_okq (⟨"WhoBuiltSails$Reader", "readBracket", "()V"⟩, 9) := ⟨⟨by decide +kernel, by decide +kernel⟩, List.mem_of_getElem? (i := 48) (by decide +kernel), List.mem_of_getElem? (i := 413) (by decide +kernel), List.mem_of_getElem? (i := 414) (by decide +kernel)⟩
theorem lw_p18 : lw_okq (⟨"WhoBuiltSails", "isText", "(I)Z"⟩, 8) := ⟨⟨by decide +kernel, by decide +kernel⟩, List.mem_of_getElem? (i := 15) (by decide +kernel), List.mem_of_getElem? (i := 426) (by decide +kernel), List.mem_of_getElem? (i := 427) (by decide +kernel)⟩
theorem lw_p19 : lw_okq (⟨"WhoBuiltSails$Ship", "leastSound", "(I)I"⟩, 12) := ⟨⟨by decide +kernel, by decide +kernel⟩, List.mem_of_getElem? (i := 83) (by decide +kernel), List.mem_of_getElem? (i := 475) (by decide +kernel), List.mem_of_getElem? (i := 476) (by decide +kernel)⟩
theorem lw_p20 : lw_okq (⟨"WhoBuiltSails", "waterBy", "(III)I"⟩, 8) := ⟨⟨by decide +kernel, by decide +kernel⟩, List.mem_of_getElem? (i := 15) (by decide +kernel), List.mem_of_getElem? (i := 513) (by decide +kernel), List.mem_of_getElem? (i := 514) (by decide +kernel)⟩
theorem lw_p21 : lw_okq (⟨"WhoBuiltSails", "comesHomeWith", "(II)Z"⟩, 8) := ⟨⟨by decide +kernel, by decide +kernel⟩, List.mem_of_getElem? (i := 15) (by decide +kernel), List.mem_of_getElem? (i := 530) (by decide +kernel), List.mem_of_getElem? (i := 531) (by decide +kernel)⟩
theorem lw_p22 : lw_okq (⟨"WhoBuiltSails", "firstOtherwise", "(LWhoBuiltSails$Sheet;III)I"⟩, 8) := ⟨⟨by decide +kernel, by decide +kernel⟩, List.mem_of_getElem? (i := 15) (by decide +kernel), List.mem_of_getElem? (i := 557) (by decide +kernel), List.mem_of_getElem? (i := 558) (by decide +kernel)⟩
theorem lw_p23 : lw_okq (⟨"WhoBuiltSails", "bitsThatFit", "(LWhoBuiltSails$Sheet;III)I"⟩, 8) := ⟨⟨by decide +kernel, by decide +kernel⟩, List.mem_of_getElem? (i := 15) (by decide +kernel), List.mem_of_getElem? (i := 561) (by decide +kernel), List.mem_of_getElem? (i := 562) (by decide +kernel)⟩
theorem lw_p24 : lw_okq (⟨"WhoBuiltSails", "howManyFit", "(LWhoBuiltSails$Sheet;II)I"⟩, 8) := ⟨⟨by decide +kernel, by decide +kernel⟩, List.mem_of_getElem? (i := 15) (by decide +kernel), List.mem_of_getElem? (i := 565) (by decide +kernel), List.mem_of_getElem? (i := 566) (by decide +kernel)⟩
theorem lw_p25 : lw_okq (⟨"WhoBuiltSails", "leastThatFits", "(LWhoBuiltSails$Sheet;II)I"⟩, 8) := ⟨⟨by decide +kernel, by decide +kernel⟩, List.mem_of_getElem? (i := 15) (by decide +kernel), List.mem_of_getElem? (i := 569) (by decide +kernel), List.mem_of_getElem? (i := 570) (by decide +kernel)⟩
theorem lw_p26 : lw_okq (⟨"WhoBuiltSails", "waterDrawn", "(II)I"⟩, 8) := ⟨⟨by decide +kernel, by decide +kernel⟩, List.mem_of_getElem? (i := 15) (by decide +kernel), List.mem_of_getElem? (i := 596) (by decide +kernel), List.mem_of_getElem? (i := 597) (by decide +kernel)⟩
theorem lw_p27 : lw_okq (⟨"WhoBuiltSailsModel", "spell", "(IIIIIIIII)V"⟩, 46) := ⟨⟨by decide +kernel, by decide +kernel⟩, List.mem_of_getElem? (i := 642) (by decide +kernel), List.mem_of_getElem? (i := 648) (by decide +kernel), List.mem_of_getElem? (i := 649) (by decide +kernel)⟩
theorem lw_p28 : lw_okq (⟨"WhoBuiltSailsModel", "isOf", "(II)Z"⟩, 46) := ⟨⟨by decide +kernel, by decide +kernel⟩, List.mem_of_getElem? (i := 642) (by decide +kernel), List.mem_of_getElem? (i := 799) (by decide +kernel), List.mem_of_getElem? (i := 800) (by decide +kernel)⟩
theorem lw_p29 : lw_okq (⟨"WhoBuiltSailsModel", "isOne", "(I)Z"⟩, 46) := ⟨⟨by decide +kernel, by decide +kernel⟩, List.mem_of_getElem? (i := 642) (by decide +kernel), List.mem_of_getElem? (i := 807) (by decide +kernel), List.mem_of_getElem? (i := 808) (by decide +kernel)⟩
theorem lw_p30 : lw_okq (⟨"WhoBuiltSailsModel", "madeBy", "(I)I"⟩, 46) := ⟨⟨by decide +kernel, by decide +kernel⟩, List.mem_of_getElem? (i := 642) (by decide +kernel), List.mem_of_getElem? (i := 819) (by decide +kernel), List.mem_of_getElem? (i := 820) (by decide +kernel)⟩
theorem lw_p31 : lw_okq (⟨"WhoBuiltSailsModel", "pumpsOf", "(I)I"⟩, 46) := ⟨⟨by decide +kernel, by decide +kernel⟩, List.mem_of_getElem? (i := 642) (by decide +kernel), List.mem_of_getElem? (i := 823) (by decide +kernel), List.mem_of_getElem? (i := 824) (by decide +kernel)⟩
def lw_privs_2 : List (MethodName × Nat) := [(⟨"WhoBuiltSails$Reader", "opens", "()Z"⟩, 9), (⟨"WhoBuiltSails$Reader", "readBracket", "()V"⟩, 9), (⟨"WhoBuiltSails", "isText", "(I)Z"⟩, 8), (⟨"WhoBuiltSails$Ship", "leastSound", "(I)I"⟩, 12), (⟨"WhoBuiltSails", "waterBy", "(III)I"⟩, 8), (⟨"WhoBuiltSails", "comesHomeWith", "(II)Z"⟩, 8), (⟨"WhoBuiltSails", "firstOtherwise", "(LWhoBuiltSails$Sheet;III)I"⟩, 8), (⟨"WhoBuiltSails", "bitsThatFit", "(LWhoBuiltSails$Sheet;III)I"⟩, 8), (⟨"WhoBuiltSails", "howManyFit", "(LWhoBuiltSails$Sheet;II)I"⟩, 8), (⟨"WhoBuiltSails", "leastThatFits", "(LWhoBuiltSails$Sheet;II)I"⟩, 8), (⟨"WhoBuiltSails", "waterDrawn", "(II)I"⟩, 8), (⟨"WhoBuiltSailsModel", "spell", "(IIIIIIIII)V"⟩, 46), (⟨"WhoBuiltSailsModel", "isOf", "(II)Z"⟩, 46), (⟨"WhoBuiltSailsModel", "isOne", "(I)Z"⟩, 46), (⟨"WhoBuiltSailsModel", "madeBy", "(I)I"⟩, 46), (⟨"WhoBuiltSailsModel", "pumpsOf", "(I)I"⟩, 46)]
theorem lw_r2 : ∀ q ∈ lw_privs_2, lw_okq q := List.forall_mem_cons.mpr ⟨lw_p16, List.forall_mem_cons.mpr ⟨lw_p17, List.forall_mem_cons.mpr ⟨lw_p18, List.forall_mem_cons.mpr ⟨lw_p19, List.forall_mem_cons.mpr ⟨lw_p20, List.forall_mem_cons.mpr ⟨lw_p21, List.forall_mem_cons.mpr ⟨lw_p22, List.forall_mem_cons.mpr ⟨lw_p23, List.forall_mem_cons.mpr ⟨lw_p24, List.forall_mem_cons.mpr ⟨lw_p25, List.forall_mem_cons.mpr ⟨lw_p26, List.forall_mem_cons.mpr ⟨lw_p27, List.forall_mem_cons.mpr ⟨lw_p28, List.forall_mem_cons.mpr ⟨lw_p29, List.forall_mem_cons.mpr ⟨lw_p30, List.forall_mem_cons.mpr ⟨lw_p31, fun _ h => absurd h List.not_mem_nil⟩⟩⟩⟩⟩⟩⟩⟩⟩⟩⟩⟩⟩⟩⟩⟩
theorem lw_p32 : lw_okq (⟨"WhoBuiltSailsModel", "says", "(III)I"⟩, 46) := ⟨⟨by decide +kernel, by decide +kernel⟩, List.mem_of_getElem? (i := 642) (by decide +kernel), List.mem_of_getElem? (i := 827) (by decide +kernel), List.mem_of_getElem? (i := 828) (by decide +kernel)⟩
theorem lw_p33 : lw_okq (⟨"WhoBuiltSailsModel", "read", "(II)I"⟩, 46) := ⟨⟨by decide +kernel, by decide +kernel⟩, List.mem_of_getElem? (i := 642) (by decide +kernel), List.mem_of_getElem? (i := 831) (by decide +kernel), List.mem_of_getElem? (i := 832) (by decide +kernel)⟩
theorem lw_p34 : lw_okq (⟨"WhoBuiltSailsModel", "next", "()V"⟩, 46) := ⟨⟨by decide +kernel, by decide +kernel⟩, List.mem_of_getElem? (i := 642) (by decide +kernel), List.mem_of_getElem? (i := 835) (by decide +kernel), List.mem_of_getElem? (i := 836) (by decide +kernel)⟩
theorem lw_p35 : lw_okq (⟨"WhoBuiltSailsModel", "byteAt", "(I)I"⟩, 46) := ⟨⟨by decide +kernel, by decide +kernel⟩, List.mem_of_getElem? (i := 642) (by decide +kernel), List.mem_of_getElem? (i := 839) (by decide +kernel), List.mem_of_getElem? (i := 840) (by decide +kernel)⟩
theorem lw_p36 : lw_okq (⟨"WhoBuiltSailsModel", "isWord", "(IIIIIIII)Z"⟩, 46) := ⟨⟨by decide +kernel, by decide +kernel⟩, List.mem_of_getElem? (i := 642) (by decide +kernel), List.mem_of_getElem? (i := 848) (by decide +kernel), List.mem_of_getElem? (i := 849) (by decide +kernel)⟩
theorem lw_p37 : lw_okq (⟨"WhoBuiltSailsModel", "isLetter", "(II)Z"⟩, 46) := ⟨⟨by decide +kernel, by decide +kernel⟩, List.mem_of_getElem? (i := 642) (by decide +kernel), List.mem_of_getElem? (i := 852) (by decide +kernel), List.mem_of_getElem? (i := 853) (by decide +kernel)⟩
theorem lw_p38 : lw_okq (⟨"WhoBuiltSailsModel", "part", "(Z)I"⟩, 46) := ⟨⟨by decide +kernel, by decide +kernel⟩, List.mem_of_getElem? (i := 642) (by decide +kernel), List.mem_of_getElem? (i := 856) (by decide +kernel), List.mem_of_getElem? (i := 857) (by decide +kernel)⟩
theorem lw_p39 : lw_okq (⟨"WhoBuiltSailsModel", "fail", "()V"⟩, 46) := ⟨⟨by decide +kernel, by decide +kernel⟩, List.mem_of_getElem? (i := 642) (by decide +kernel), List.mem_of_getElem? (i := 860) (by decide +kernel), List.mem_of_getElem? (i := 861) (by decide +kernel)⟩
theorem lw_p40 : lw_okq (⟨"WhoBuiltSailsModel", "either", "()I"⟩, 46) := ⟨⟨by decide +kernel, by decide +kernel⟩, List.mem_of_getElem? (i := 642) (by decide +kernel), List.mem_of_getElem? (i := 864) (by decide +kernel), List.mem_of_getElem? (i := 865) (by decide +kernel)⟩
theorem lw_p41 : lw_okq (⟨"WhoBuiltSailsModel", "both", "()I"⟩, 46) := ⟨⟨by decide +kernel, by decide +kernel⟩, List.mem_of_getElem? (i := 642) (by decide +kernel), List.mem_of_getElem? (i := 868) (by decide +kernel), List.mem_of_getElem? (i := 869) (by decide +kernel)⟩
theorem lw_p42 : lw_okq (⟨"WhoBuiltSailsModel", "not", "()I"⟩, 46) := ⟨⟨by decide +kernel, by decide +kernel⟩, List.mem_of_getElem? (i := 642) (by decide +kernel), List.mem_of_getElem? (i := 872) (by decide +kernel), List.mem_of_getElem? (i := 873) (by decide +kernel)⟩
theorem lw_p43 : lw_okq (⟨"WhoBuiltSailsModel", "opens", "()Z"⟩, 46) := ⟨⟨by decide +kernel, by decide +kernel⟩, List.mem_of_getElem? (i := 642) (by decide +kernel), List.mem_of_getElem? (i := 876) (by decide +kernel), List.mem_of_getElem? (i := 877) (by decide +kernel)⟩
theorem lw_p44 : lw_okq (⟨"WhoBuiltSailsModel", "added", "()I"⟩, 46) := ⟨⟨by decide +kernel, by decide +kernel⟩, List.mem_of_getElem? (i := 642) (by decide +kernel), List.mem_of_getElem? (i := 880) (by decide +kernel), List.mem_of_getElem? (i := 881) (by decide +kernel)⟩
theorem lw_p45 : lw_okq (⟨"WhoBuiltSailsModel", "term", "()I"⟩, 46) := ⟨⟨by decide +kernel, by decide +kernel⟩, List.mem_of_getElem? (i := 642) (by decide +kernel), List.mem_of_getElem? (i := 884) (by decide +kernel), List.mem_of_getElem? (i := 885) (by decide +kernel)⟩
theorem lw_p46 : lw_okq (⟨"WhoBuiltSailsModel", "atom", "()I"⟩, 46) := ⟨⟨by decide +kernel, by decide +kernel⟩, List.mem_of_getElem? (i := 642) (by decide +kernel), List.mem_of_getElem? (i := 888) (by decide +kernel), List.mem_of_getElem? (i := 889) (by decide +kernel)⟩
theorem lw_p47 : lw_okq (⟨"WhoBuiltSailsModel", "isSign", "(I)Z"⟩, 46) := ⟨⟨by decide +kernel, by decide +kernel⟩, List.mem_of_getElem? (i := 642) (by decide +kernel), List.mem_of_getElem? (i := 892) (by decide +kernel), List.mem_of_getElem? (i := 893) (by decide +kernel)⟩
def lw_privs_3 : List (MethodName × Nat) := [(⟨"WhoBuiltSailsModel", "says", "(III)I"⟩, 46), (⟨"WhoBuiltSailsModel", "read", "(II)I"⟩, 46), (⟨"WhoBuiltSailsModel", "next", "()V"⟩, 46), (⟨"WhoBuiltSailsModel", "byteAt", "(I)I"⟩, 46), (⟨"WhoBuiltSailsModel", "isWord", "(IIIIIIII)Z"⟩, 46), (⟨"WhoBuiltSailsModel", "isLetter", "(II)Z"⟩, 46), (⟨"WhoBuiltSailsModel", "part", "(Z)I"⟩, 46), (⟨"WhoBuiltSailsModel", "fail", "()V"⟩, 46), (⟨"WhoBuiltSailsModel", "either", "()I"⟩, 46), (⟨"WhoBuiltSailsModel", "both", "()I"⟩, 46), (⟨"WhoBuiltSailsModel", "not", "()I"⟩, 46), (⟨"WhoBuiltSailsModel", "opens", "()Z"⟩, 46), (⟨"WhoBuiltSailsModel", "added", "()I"⟩, 46), (⟨"WhoBuiltSailsModel", "term", "()I"⟩, 46), (⟨"WhoBuiltSailsModel", "atom", "()I"⟩, 46), (⟨"WhoBuiltSailsModel", "isSign", "(I)Z"⟩, 46)]
theorem lw_r3 : ∀ q ∈ lw_privs_3, lw_okq q := List.forall_mem_cons.mpr ⟨lw_p32, List.forall_mem_cons.mpr ⟨lw_p33, List.forall_mem_cons.mpr ⟨lw_p34, List.forall_mem_cons.mpr ⟨lw_p35, List.forall_mem_cons.mpr ⟨lw_p36, List.forall_mem_cons.mpr ⟨lw_p37, List.forall_mem_cons.mpr ⟨lw_p38, List.forall_mem_cons.mpr ⟨lw_p39, List.forall_mem_cons.mpr ⟨lw_p40, List.forall_mem_cons.mpr ⟨lw_p41, List.forall_mem_cons.mpr ⟨lw_p42, List.forall_mem_cons.mpr ⟨lw_p43, List.forall_mem_cons.mpr ⟨lw_p44, List.forall_mem_cons.mpr ⟨lw_p45, List.forall_mem_cons.mpr ⟨lw_p46, List.forall_mem_cons.mpr ⟨lw_p47, fun _ h => absurd h List.not_mem_nil⟩⟩⟩⟩⟩⟩⟩⟩⟩⟩⟩⟩⟩⟩⟩⟩
theorem lw_p48 : lw_okq (⟨"WhoBuiltSailsModel", "name", "()I"⟩, 46) := ⟨⟨by decide +kernel, by decide +kernel⟩, List.mem_of_getElem? (i := 642) (by decide +kernel), List.mem_of_getElem? (i := 896) (by decide +kernel), List.mem_of_getElem? (i := 897) (by decide +kernel)⟩
theorem lw_p49 : lw_okq (⟨"WhoBuiltSailsModel", "whoIs", "(I)I"⟩, 46) := ⟨⟨by decide +kernel, by decide +kernel⟩, List.mem_of_getElem? (i := 642) (by decide +kernel), List.mem_of_getElem? (i := 905) (by decide +kernel), List.mem_of_getElem? (i := 906) (by decide +kernel)⟩
theorem lw_p50 : lw_okq (⟨"WhoBuiltSailsModel", "isAt", "(II)Z"⟩, 46) := ⟨⟨by decide +kernel, by decide +kernel⟩, List.mem_of_getElem? (i := 642) (by decide +kernel), List.mem_of_getElem? (i := 909) (by decide +kernel), List.mem_of_getElem? (i := 910) (by decide +kernel)⟩
theorem lw_p51 : lw_okq (⟨"WhoBuiltSailsModel", "leaksOf", "(I)I"⟩, 46) := ⟨⟨by decide +kernel, by decide +kernel⟩, List.mem_of_getElem? (i := 642) (by decide +kernel), List.mem_of_getElem? (i := 916) (by decide +kernel), List.mem_of_getElem? (i := 917) (by decide +kernel)⟩
theorem lw_p52 : lw_okq (⟨"WhoBuiltSailsModel", "lays", "(III)V"⟩, 46) := ⟨⟨by decide +kernel, by decide +kernel⟩, List.mem_of_getElem? (i := 642) (by decide +kernel), List.mem_of_getElem? (i := 923) (by decide +kernel), List.mem_of_getElem? (i := 924) (by decide +kernel)⟩
theorem lw_p53 : lw_okq (⟨"WhoBuiltSailsModel", "makesOf", "(II)I"⟩, 46) := ⟨⟨by decide +kernel, by decide +kernel⟩, List.mem_of_getElem? (i := 642) (by decide +kernel), List.mem_of_getElem? (i := 950) (by decide +kernel), List.mem_of_getElem? (i := 951) (by decide +kernel)⟩
theorem lw_p54 : lw_okq (⟨"WhoBuiltSailsModel", "mendsOf", "(II)I"⟩, 46) := ⟨⟨by decide +kernel, by decide +kernel⟩, List.mem_of_getElem? (i := 642) (by decide +kernel), List.mem_of_getElem? (i := 954) (by decide +kernel), List.mem_of_getElem? (i := 955) (by decide +kernel)⟩
theorem lw_p55 : lw_okq (⟨"WhoBuiltSailsModel", "built", "(II)I"⟩, 46) := ⟨⟨by decide +kernel, by decide +kernel⟩, List.mem_of_getElem? (i := 642) (by decide +kernel), List.mem_of_getElem? (i := 962) (by decide +kernel), List.mem_of_getElem? (i := 963) (by decide +kernel)⟩
theorem lw_p56 : lw_okq (⟨"WhoBuiltSailsModel", "binds", "()V"⟩, 46) := ⟨⟨by decide +kernel, by decide +kernel⟩, List.mem_of_getElem? (i := 642) (by decide +kernel), List.mem_of_getElem? (i := 970) (by decide +kernel), List.mem_of_getElem? (i := 971) (by decide +kernel)⟩
theorem lw_p57 : lw_okq (⟨"WhoBuiltSailsModel", "passes", "()V"⟩, 46) := ⟨⟨by decide +kernel, by decide +kernel⟩, List.mem_of_getElem? (i := 642) (by decide +kernel), List.mem_of_getElem? (i := 982) (by decide +kernel), List.mem_of_getElem? (i := 983) (by decide +kernel)⟩
theorem lw_p58 : lw_okq (⟨"WhoBuiltSailsModel", "leaksAll", "()I"⟩, 46) := ⟨⟨by decide +kernel, by decide +kernel⟩, List.mem_of_getElem? (i := 642) (by decide +kernel), List.mem_of_getElem? (i := 986) (by decide +kernel), List.mem_of_getElem? (i := 987) (by decide +kernel)⟩
theorem lw_p59 : lw_okq (⟨"WhoBuiltSailsModel", "works", "(I)V"⟩, 46) := ⟨⟨by decide +kernel, by decide +kernel⟩, List.mem_of_getElem? (i := 642) (by decide +kernel), List.mem_of_getElem? (i := 990) (by decide +kernel), List.mem_of_getElem? (i := 991) (by decide +kernel)⟩
theorem lw_p60 : lw_okq (⟨"WhoBuiltSailsModel", "laysAside", "()V"⟩, 46) := ⟨⟨by decide +kernel, by decide +kernel⟩, List.mem_of_getElem? (i := 642) (by decide +kernel), List.mem_of_getElem? (i := 1001) (by decide +kernel), List.mem_of_getElem? (i := 1002) (by decide +kernel)⟩
theorem lw_p61 : lw_okq (⟨"WhoBuiltSailsModel", "sails", "(I)V"⟩, 46) := ⟨⟨by decide +kernel, by decide +kernel⟩, List.mem_of_getElem? (i := 642) (by decide +kernel), List.mem_of_getElem? (i := 1005) (by decide +kernel), List.mem_of_getElem? (i := 1006) (by decide +kernel)⟩
theorem lw_p62 : lw_okq (⟨"WhoBuiltSailsModel", "laysBack", "()V"⟩, 46) := ⟨⟨by decide +kernel, by decide +kernel⟩, List.mem_of_getElem? (i := 642) (by decide +kernel), List.mem_of_getElem? (i := 1009) (by decide +kernel), List.mem_of_getElem? (i := 1010) (by decide +kernel)⟩
theorem lw_p63 : lw_okq (⟨"WhoBuiltSailsModel", "tries", "(III)V"⟩, 46) := ⟨⟨by decide +kernel, by decide +kernel⟩, List.mem_of_getElem? (i := 642) (by decide +kernel), List.mem_of_getElem? (i := 1022) (by decide +kernel), List.mem_of_getElem? (i := 1023) (by decide +kernel)⟩
def lw_privs_4 : List (MethodName × Nat) := [(⟨"WhoBuiltSailsModel", "name", "()I"⟩, 46), (⟨"WhoBuiltSailsModel", "whoIs", "(I)I"⟩, 46), (⟨"WhoBuiltSailsModel", "isAt", "(II)Z"⟩, 46), (⟨"WhoBuiltSailsModel", "leaksOf", "(I)I"⟩, 46), (⟨"WhoBuiltSailsModel", "lays", "(III)V"⟩, 46), (⟨"WhoBuiltSailsModel", "makesOf", "(II)I"⟩, 46), (⟨"WhoBuiltSailsModel", "mendsOf", "(II)I"⟩, 46), (⟨"WhoBuiltSailsModel", "built", "(II)I"⟩, 46), (⟨"WhoBuiltSailsModel", "binds", "()V"⟩, 46), (⟨"WhoBuiltSailsModel", "passes", "()V"⟩, 46), (⟨"WhoBuiltSailsModel", "leaksAll", "()I"⟩, 46), (⟨"WhoBuiltSailsModel", "works", "(I)V"⟩, 46), (⟨"WhoBuiltSailsModel", "laysAside", "()V"⟩, 46), (⟨"WhoBuiltSailsModel", "sails", "(I)V"⟩, 46), (⟨"WhoBuiltSailsModel", "laysBack", "()V"⟩, 46), (⟨"WhoBuiltSailsModel", "tries", "(III)V"⟩, 46)]
theorem lw_r4 : ∀ q ∈ lw_privs_4, lw_okq q := List.forall_mem_cons.mpr ⟨lw_p48, List.forall_mem_cons.mpr ⟨lw_p49, List.forall_mem_cons.mpr ⟨lw_p50, List.forall_mem_cons.mpr ⟨lw_p51, List.forall_mem_cons.mpr ⟨lw_p52, List.forall_mem_cons.mpr ⟨lw_p53, List.forall_mem_cons.mpr ⟨lw_p54, List.forall_mem_cons.mpr ⟨lw_p55, List.forall_mem_cons.mpr ⟨lw_p56, List.forall_mem_cons.mpr ⟨lw_p57, List.forall_mem_cons.mpr ⟨lw_p58, List.forall_mem_cons.mpr ⟨lw_p59, List.forall_mem_cons.mpr ⟨lw_p60, List.forall_mem_cons.mpr ⟨lw_p61, List.forall_mem_cons.mpr ⟨lw_p62, List.forall_mem_cons.mpr ⟨lw_p63, fun _ h => absurd h List.not_mem_nil⟩⟩⟩⟩⟩⟩⟩⟩⟩⟩⟩⟩⟩⟩⟩⟩
theorem lw_p64 : lw_okq (⟨"WhoBuiltSailsModel", "waterBehind", "(I)I"⟩, 46) := ⟨⟨by decide +kernel, by decide +kernel⟩, List.mem_of_getElem? (i := 642) (by decide +kernel), List.mem_of_getElem? (i := 1030) (by decide +kernel), List.mem_of_getElem? (i := 1031) (by decide +kernel)⟩
theorem lw_p65 : lw_okq (⟨"WhoBuiltSailsModel", "goers", "(I)I"⟩, 46) := ⟨⟨by decide +kernel, by decide +kernel⟩, List.mem_of_getElem? (i := 642) (by decide +kernel), List.mem_of_getElem? (i := 1038) (by decide +kernel), List.mem_of_getElem? (i := 1039) (by decide +kernel)⟩
theorem lw_p66 : lw_okq (⟨"WhoBuiltSailsModel", "placed", "(II)V"⟩, 46) := ⟨⟨by decide +kernel, by decide +kernel⟩, List.mem_of_getElem? (i := 642) (by decide +kernel), List.mem_of_getElem? (i := 1042) (by decide +kernel), List.mem_of_getElem? (i := 1043) (by decide +kernel)⟩
theorem lw_p67 : lw_okq (⟨"WhoBuiltSailsModel", "firstOther", "(I)I"⟩, 46) := ⟨⟨by decide +kernel, by decide +kernel⟩, List.mem_of_getElem? (i := 642) (by decide +kernel), List.mem_of_getElem? (i := 1067) (by decide +kernel), List.mem_of_getElem? (i := 1068) (by decide +kernel)⟩
theorem lw_p68 : lw_okq (⟨"WhoBuiltSailsModel", "soundSet", "(I)I"⟩, 46) := ⟨⟨by decide +kernel, by decide +kernel⟩, List.mem_of_getElem? (i := 642) (by decide +kernel), List.mem_of_getElem? (i := 1071) (by decide +kernel), List.mem_of_getElem? (i := 1072) (by decide +kernel)⟩
theorem lw_p69 : lw_okq (⟨"WhoBuiltSailsModel", "waterDrawn", "(II)I"⟩, 46) := ⟨⟨by decide +kernel, by decide +kernel⟩, List.mem_of_getElem? (i := 642) (by decide +kernel), List.mem_of_getElem? (i := 1088) (by decide +kernel), List.mem_of_getElem? (i := 1089) (by decide +kernel)⟩
theorem lw_p70 : lw_okq (⟨"WhoBuiltSailsModel", "madeMany", "()I"⟩, 46) := ⟨⟨by decide +kernel, by decide +kernel⟩, List.mem_of_getElem? (i := 642) (by decide +kernel), List.mem_of_getElem? (i := 1109) (by decide +kernel), List.mem_of_getElem? (i := 1110) (by decide +kernel)⟩
def lw_privs_5 : List (MethodName × Nat) := [(⟨"WhoBuiltSailsModel", "waterBehind", "(I)I"⟩, 46), (⟨"WhoBuiltSailsModel", "goers", "(I)I"⟩, 46), (⟨"WhoBuiltSailsModel", "placed", "(II)V"⟩, 46), (⟨"WhoBuiltSailsModel", "firstOther", "(I)I"⟩, 46), (⟨"WhoBuiltSailsModel", "soundSet", "(I)I"⟩, 46), (⟨"WhoBuiltSailsModel", "waterDrawn", "(II)I"⟩, 46), (⟨"WhoBuiltSailsModel", "madeMany", "()I"⟩, 46)]
theorem lw_r5 : ∀ q ∈ lw_privs_5, lw_okq q := List.forall_mem_cons.mpr ⟨lw_p64, List.forall_mem_cons.mpr ⟨lw_p65, List.forall_mem_cons.mpr ⟨lw_p66, List.forall_mem_cons.mpr ⟨lw_p67, List.forall_mem_cons.mpr ⟨lw_p68, List.forall_mem_cons.mpr ⟨lw_p69, List.forall_mem_cons.mpr ⟨lw_p70, fun _ h => absurd h List.not_mem_nil⟩⟩⟩⟩⟩⟩⟩
def lw_privs : List (MethodName × Nat) := lw_privs_1 ++ (lw_privs_2 ++ (lw_privs_3 ++ (lw_privs_4 ++ (lw_privs_5))))
def lw_tbl : List Cond := k2_sels lw_privs ++ tables_1
theorem lw_privs_ok : ∀ q ∈ lw_privs, lw_okq q := by
  show ∀ q ∈ lw_privs_1 ++ (lw_privs_2 ++ (lw_privs_3 ++ (lw_privs_4 ++ (lw_privs_5)))), lw_okq q
  exact List.forall_mem_append.mpr ⟨lw_r1, List.forall_mem_append.mpr ⟨lw_r2, List.forall_mem_append.mpr ⟨lw_r3, List.forall_mem_append.mpr ⟨lw_r4, lw_r5⟩⟩⟩⟩
-- ===== end of PART A; then your names; then what follows =====
end
section
def RX0 : String := "WhoBuiltSails$Reader"
def TX0 : u_T := fun k => match k with
  | 0 => ("WhoBuiltSails$Reader", "bytes", "[I", true)
  | 1 => ("WhoBuiltSails$Reader", "size", "I", false)
  | 2 => ("WhoBuiltSails$Reader", "at", "I", false)
  | 3 => ("WhoBuiltSails$Reader", "token", "I", false)
  | 4 => ("WhoBuiltSails$Reader", "place", "I", false)
  | 5 => ("WhoBuiltSails$Reader", "number", "I", false)
  | 6 => ("WhoBuiltSails$Reader", "open", "I", false)
  | 7 => ("WhoBuiltSails$Reader", "fault", "I", false)
  | _ => ("WhoBuiltSails$Reader", "text", "LWhoBuiltSails$Text;", false)
def tyX0 : Nat → FieldType := fun k => match k with
  | 0 => .array .int
  | 1 => .int
  | 2 => .int
  | 3 => .int
  | 4 => .int
  | 5 => .int
  | 6 => .int
  | 7 => .int
  | _ => .object "WhoBuiltSails$Text"
abbrev wsX00 : List Cond := u_ws RX0 TX0 9
theorem nmX0 : ∀ a, a < 9 → ∀ b, b < 9 → a ≠ b → (TX0 a).2.1 ≠ (TX0 b).2.1 := by decide +kernel
theorem tyX0_ok : ∀ k, k < 9 → parseFieldDescriptor (TX0 k).2.2.1 = some (tyX0 k) := by decide +kernel
abbrev cX0_init : ByteArray := prog_2_method_1_code
def yX0_init : MethodName := ⟨RX0, "<init>", "()V"⟩
abbrev cX0_takes : ByteArray := prog_2_method_2_code
def yX0_takes : MethodName := ⟨RX0, "takes", "(I)Z"⟩
abbrev cX0_reads : ByteArray := prog_2_method_3_code
def yX0_reads : MethodName := ⟨RX0, "reads", "(LWhoBuiltSails$Text;)I"⟩
abbrev cX0_fails : ByteArray := prog_2_method_4_code
def yX0_fails : MethodName := ⟨RX0, "fails", "()V"⟩
abbrev cX0_needs : ByteArray := prog_2_method_5_code
def yX0_needs : MethodName := ⟨RX0, "needs", "(I)V"⟩
abbrev cX0_readOr : ByteArray := prog_2_method_6_code
def yX0_readOr : MethodName := ⟨RX0, "readOr", "()V"⟩
abbrev cX0_readAnd : ByteArray := prog_2_method_7_code
def yX0_readAnd : MethodName := ⟨RX0, "readAnd", "()V"⟩
abbrev cX0_readNot : ByteArray := prog_2_method_8_code
def yX0_readNot : MethodName := ⟨RX0, "readNot", "()V"⟩
abbrev cX0_readCompared : ByteArray := prog_2_method_9_code
def yX0_readCompared : MethodName := ⟨RX0, "readCompared", "()V"⟩
abbrev cX0_readSum : ByteArray := prog_2_method_10_code
def yX0_readSum : MethodName := ⟨RX0, "readSum", "()V"⟩
abbrev cX0_readTerm : ByteArray := prog_2_method_11_code
def yX0_readTerm : MethodName := ⟨RX0, "readTerm", "()V"⟩
abbrev cX0_readOne : ByteArray := prog_2_method_12_code
def yX0_readOne : MethodName := ⟨RX0, "readOne", "()V"⟩
abbrev cX0_readMinus : ByteArray := prog_2_method_13_code
def yX0_readMinus : MethodName := ⟨RX0, "readMinus", "()V"⟩
abbrev cX0_readBracket : ByteArray := prog_2_method_14_code
def yX0_readBracket : MethodName := ⟨RX0, "readBracket", "()V"⟩
abbrev cX0_opens : ByteArray := prog_2_method_15_code
def yX0_opens : MethodName := ⟨RX0, "opens", "()Z"⟩
abbrev cX0_next : ByteArray := prog_2_method_16_code
def yX0_next : MethodName := ⟨RX0, "next", "()V"⟩
abbrev cX0_isSign : ByteArray := prog_2_method_17_code
def yX0_isSign : MethodName := ⟨RX0, "isSign", "(I)Z"⟩
abbrev cX0_nextNumber : ByteArray := prog_2_method_18_code
def yX0_nextNumber : MethodName := ⟨RX0, "nextNumber", "()V"⟩
abbrev cX0_nextWord : ByteArray := prog_2_method_19_code
def yX0_nextWord : MethodName := ⟨RX0, "nextWord", "()V"⟩
def RX1 : String := "WhoBuiltSails$Sheet"
def TX1 : u_T := fun k => match k with
  | 0 => ("WhoBuiltSails$Sheet", "sort", "I", false)
  | 1 => ("WhoBuiltSails$Sheet", "size", "I", false)
  | _ => ("WhoBuiltSails$Sheet", "items", "[I", true)
def tyX1 : Nat → FieldType := fun k => match k with
  | 0 => .int
  | 1 => .int
  | _ => .array .int
abbrev wsX10 : List Cond := u_ws RX1 TX1 3
theorem nmX1 : ∀ a, a < 3 → ∀ b, b < 3 → a ≠ b → (TX1 a).2.1 ≠ (TX1 b).2.1 := by decide +kernel
theorem tyX1_ok : ∀ k, k < 3 → parseFieldDescriptor (TX1 k).2.2.1 = some (tyX1 k) := by decide +kernel
abbrev cX1_init : ByteArray := prog_3_method_1_code
def yX1_init : MethodName := ⟨RX1, "<init>", "()V"⟩
abbrev cX1_isMissing : ByteArray := prog_3_method_2_code
def yX1_isMissing : MethodName := ⟨RX1, "isMissing", "()Z"⟩
abbrev cX1_becomes : ByteArray := prog_3_method_3_code
def yX1_becomes : MethodName := ⟨RX1, "becomes", "(II)V"⟩
abbrev cX1_holds : ByteArray := prog_3_method_4_code
def yX1_holds : MethodName := ⟨RX1, "holds", "(II)Z"⟩
abbrev cX1_put : ByteArray := prog_3_method_5_code
def yX1_put : MethodName := ⟨RX1, "put", "(II)V"⟩
def RX2 : String := "WhoBuiltSails$Ship"
def TX2 : u_T := fun k => match k with
  | 0 => ("WhoBuiltSails$Ship", "maker", "[I", true)
  | 1 => ("WhoBuiltSails$Ship", "sound", "[I", true)
  | 2 => ("WhoBuiltSails$Ship", "wrights", "I", false)
  | 3 => ("WhoBuiltSails$Ship", "kind", "[I", true)
  | 4 => ("WhoBuiltSails$Ship", "number", "[I", true)
  | 5 => ("WhoBuiltSails$Ship", "skill", "[I", true)
  | 6 => ("WhoBuiltSails$Ship", "place", "[I", true)
  | 7 => ("WhoBuiltSails$Ship", "day", "I", false)
  | 8 => ("WhoBuiltSails$Ship", "sea", "I", false)
  | 9 => ("WhoBuiltSails$Ship", "water", "I", false)
  | 10 => ("WhoBuiltSails$Ship", "rule", "LWhoBuiltSails$Text;", false)
  | _ => ("WhoBuiltSails$Ship", "named", "[I", true)
def tyX2 : Nat → FieldType := fun k => match k with
  | 0 => .array .int
  | 1 => .array .int
  | 2 => .int
  | 3 => .array .int
  | 4 => .array .int
  | 5 => .array .int
  | 6 => .array .int
  | 7 => .int
  | 8 => .int
  | 9 => .int
  | 10 => .object "WhoBuiltSails$Text"
  | _ => .array .int
abbrev wsX20 : List Cond := u_ws RX2 TX2 12
theorem nmX2 : ∀ a, a < 12 → ∀ b, b < 12 → a ≠ b → (TX2 a).2.1 ≠ (TX2 b).2.1 := by decide +kernel
theorem tyX2_ok : ∀ k, k < 12 → parseFieldDescriptor (TX2 k).2.2.1 = some (tyX2 k) := by decide +kernel
abbrev cX2_init : ByteArray := prog_4_method_1_code
def yX2_init : MethodName := ⟨RX2, "<init>", "(LWhoBuiltSails$Text;)V"⟩
abbrev cX2_becomes : ByteArray := prog_4_method_2_code
def yX2_becomes : MethodName := ⟨RX2, "becomes", "(LWhoBuiltSails$Ship;)V"⟩
abbrev cX2_has : ByteArray := prog_4_method_3_code
def yX2_has : MethodName := ⟨RX2, "has", "(I)Z"⟩
abbrev cX2_isDown : ByteArray := prog_4_method_4_code
def yX2_isDown : MethodName := ⟨RX2, "isDown", "()Z"⟩
abbrev cX2_comes : ByteArray := prog_4_method_5_code
def yX2_comes : MethodName := ⟨RX2, "comes", "(III)I"⟩
abbrev cX2_who : ByteArray := prog_4_method_6_code
def yX2_who : MethodName := ⟨RX2, "who", "(I)I"⟩
abbrev cX2_allMove : ByteArray := prog_4_method_7_code
def yX2_allMove : MethodName := ⟨RX2, "allMove", "(II)V"⟩
abbrev cX2_madeBy : ByteArray := prog_4_method_8_code
def yX2_madeBy : MethodName := ⟨RX2, "madeBy", "(I)I"⟩
abbrev cX2_partsMade : ByteArray := prog_4_method_9_code
def yX2_partsMade : MethodName := ⟨RX2, "partsMade", "()I"⟩
abbrev cX2_nextUnmade : ByteArray := prog_4_method_10_code
def yX2_nextUnmade : MethodName := ⟨RX2, "nextUnmade", "(I)I"⟩
abbrev cX2_leastSound : ByteArray := prog_4_method_11_code
def yX2_leastSound : MethodName := ⟨RX2, "leastSound", "(I)I"⟩
abbrev cX2_leaks : ByteArray := prog_4_method_12_code
def yX2_leaks : MethodName := ⟨RX2, "leaks", "(I)I"⟩
abbrev cX2_allLeak : ByteArray := prog_4_method_13_code
def yX2_allLeak : MethodName := ⟨RX2, "allLeak", "()I"⟩
abbrev cX2_telling : ByteArray := prog_4_method_14_code
def yX2_telling : MethodName := ⟨RX2, "telling", "(III)I"⟩
abbrev cX2_makes : ByteArray := prog_4_method_15_code
def yX2_makes : MethodName := ⟨RX2, "makes", "(II)I"⟩
abbrev cX2_mends : ByteArray := prog_4_method_16_code
def yX2_mends : MethodName := ⟨RX2, "mends", "(II)I"⟩
abbrev cX2_pumps : ByteArray := prog_4_method_17_code
def yX2_pumps : MethodName := ⟨RX2, "pumps", "(I)I"⟩
abbrev cX2_bounded : ByteArray := prog_4_method_18_code
def yX2_bounded : MethodName := ⟨RX2, "bounded", "(I)I"⟩
abbrev cX2_build : ByteArray := prog_4_method_19_code
def yX2_build : MethodName := ⟨RX2, "build", "(II)V"⟩
abbrev cX2_bind : ByteArray := prog_4_method_20_code
def yX2_bind : MethodName := ⟨RX2, "bind", "()V"⟩
abbrev cX2_passDay : ByteArray := prog_4_method_21_code
def yX2_passDay : MethodName := ⟨RX2, "passDay", "()V"⟩
abbrev cX2_pass : ByteArray := prog_4_method_22_code
def yX2_pass : MethodName := ⟨RX2, "pass", "(I)V"⟩
def RX3 : String := "WhoBuiltSails$Text"
def TX3 : u_T := fun k => match k with
  | 0 => ("WhoBuiltSails$Text", "which", "I", true)
  | 1 => ("WhoBuiltSails$Text", "steps", "[I", true)
  | 2 => ("WhoBuiltSails$Text", "ends", "[I", true)
  | 3 => ("WhoBuiltSails$Text", "size", "I", false)
  | _ => ("WhoBuiltSails$Text", "waiting", "[I", true)
def tyX3 : Nat → FieldType := fun k => match k with
  | 0 => .int
  | 1 => .array .int
  | 2 => .array .int
  | 3 => .int
  | _ => .array .int
abbrev wsX30 : List Cond := u_ws RX3 TX3 5
theorem nmX3 : ∀ a, a < 5 → ∀ b, b < 5 → a ≠ b → (TX3 a).2.1 ≠ (TX3 b).2.1 := by decide +kernel
theorem tyX3_ok : ∀ k, k < 5 → parseFieldDescriptor (TX3 k).2.2.1 = some (tyX3 k) := by decide +kernel
abbrev cX3_init : ByteArray := prog_5_method_1_code
def yX3_init : MethodName := ⟨RX3, "<init>", "(I)V"⟩
abbrev cX3_clear : ByteArray := prog_5_method_2_code
def yX3_clear : MethodName := ⟨RX3, "clear", "()V"⟩
abbrev cX3_add : ByteArray := prog_5_method_3_code
def yX3_add : MethodName := ⟨RX3, "add", "(I)V"⟩
abbrev cX3_endHere : ByteArray := prog_5_method_4_code
def yX3_endHere : MethodName := ⟨RX3, "endHere", "(I)V"⟩
abbrev cX3_value : ByteArray := prog_5_method_5_code
def yX3_value : MethodName := ⟨RX3, "value", "(I[I)I"⟩
abbrev cX3_joined : ByteArray := prog_5_method_6_code
def yX3_joined : MethodName := ⟨RX3, "joined", "(III)I"⟩
def RX4 : String := "WhoBuiltSails"
def TX4 : u_T := fun k => match k with
  | 0 => ("WhoBuiltSails", "texts", "[LWhoBuiltSails$Text;", true)
  | 1 => ("WhoBuiltSails", "textCount", "I", false)
  | 2 => ("WhoBuiltSails", "tape", "LWhoBuiltSails$Reader;", true)
  | 3 => ("WhoBuiltSails", "ship", "LWhoBuiltSails$Ship;", true)
  | 4 => ("WhoBuiltSails", "thought", "LWhoBuiltSails$Ship;", true)
  | 5 => ("WhoBuiltSails", "kept", "LWhoBuiltSails$Ship;", true)
  | 6 => ("WhoBuiltSails", "isKept", "Z", false)
  | _ => ("WhoBuiltSails", "sheets", "[LWhoBuiltSails$Sheet;", true)
def tyX4 : Nat → FieldType := fun k => match k with
  | 0 => .array (.object "WhoBuiltSails$Text")
  | 1 => .int
  | 2 => .object "WhoBuiltSails$Reader"
  | 3 => .object "WhoBuiltSails$Ship"
  | 4 => .object "WhoBuiltSails$Ship"
  | 5 => .object "WhoBuiltSails$Ship"
  | 6 => .boolean
  | _ => .array (.object "WhoBuiltSails$Sheet")
abbrev wsX40 : List Cond := u_ws RX4 TX4 8
theorem nmX4 : ∀ a, a < 8 → ∀ b, b < 8 → a ≠ b → (TX4 a).2.1 ≠ (TX4 b).2.1 := by decide +kernel
theorem tyX4_ok : ∀ k, k < 8 → parseFieldDescriptor (TX4 k).2.2.1 = some (tyX4 k) := by decide +kernel
abbrev cX4_init : ByteArray := prog_1_method_1_code
def yX4_init : MethodName := ⟨RX4, "<init>", "()V"⟩
abbrev cX4_set : ByteArray := prog_1_method_2_code
def yX4_set : MethodName := ⟨RX4, "set", "(III)I"⟩
abbrev cX4_wright : ByteArray := prog_1_method_3_code
def yX4_wright : MethodName := ⟨RX4, "wright", "(III)I"⟩
abbrev cX4_told : ByteArray := prog_1_method_4_code
def yX4_told : MethodName := ⟨RX4, "told", "(II)I"⟩
abbrev cX4_toldOfPart : ByteArray := prog_1_method_5_code
def yX4_toldOfPart : MethodName := ⟨RX4, "toldOfPart", "(II)I"⟩
abbrev cX4_toldOfWright : ByteArray := prog_1_method_6_code
def yX4_toldOfWright : MethodName := ⟨RX4, "toldOfWright", "(II)I"⟩
abbrev cX4_asks : ByteArray := prog_1_method_7_code
def yX4_asks : MethodName := ⟨RX4, "asks", "(III)I"⟩
abbrev cX4_feed : ByteArray := prog_1_method_8_code
def yX4_feed : MethodName := ⟨RX4, "feed", "(I)I"⟩
abbrev cX4_text : ByteArray := prog_1_method_9_code
def yX4_text : MethodName := ⟨RX4, "text", "()I"⟩
abbrev cX4_force : ByteArray := prog_1_method_10_code
def yX4_force : MethodName := ⟨RX4, "force", "(I)I"⟩
abbrev cX4_builds : ByteArray := prog_1_method_11_code
def yX4_builds : MethodName := ⟨RX4, "builds", "(II)I"⟩
abbrev cX4_bound : ByteArray := prog_1_method_12_code
def yX4_bound : MethodName := ⟨RX4, "bound", "()I"⟩
abbrev cX4_home : ByteArray := prog_1_method_13_code
def yX4_home : MethodName := ⟨RX4, "home", "()I"⟩
abbrev cX4_day : ByteArray := prog_1_method_14_code
def yX4_day : MethodName := ⟨RX4, "day", "()I"⟩
abbrev cX4_run : ByteArray := prog_1_method_15_code
def yX4_run : MethodName := ⟨RX4, "run", "(II)I"⟩
abbrev cX4_down : ByteArray := prog_1_method_16_code
def yX4_down : MethodName := ⟨RX4, "down", "()I"⟩
abbrev cX4_yard : ByteArray := prog_1_method_17_code
def yX4_yard : MethodName := ⟨RX4, "yard", "(II)I"⟩
abbrev cX4_waterBy : ByteArray := prog_1_method_18_code
def yX4_waterBy : MethodName := ⟨RX4, "waterBy", "(III)I"⟩
abbrev cX4_stands : ByteArray := prog_1_method_19_code
def yX4_stands : MethodName := ⟨RX4, "stands", "(I)I"⟩
abbrev cX4_go : ByteArray := prog_1_method_20_code
def yX4_go : MethodName := ⟨RX4, "go", "(II)I"⟩
abbrev cX4_comesHomeWith : ByteArray := prog_1_method_21_code
def yX4_comesHomeWith : MethodName := ⟨RX4, "comesHomeWith", "(II)Z"⟩
abbrev cX4_worst : ByteArray := prog_1_method_22_code
def yX4_worst : MethodName := ⟨RX4, "worst", "()I"⟩
abbrev cX4_mean : ByteArray := prog_1_method_23_code
def yX4_mean : MethodName := ⟨RX4, "mean", "(I)J"⟩
abbrev cX4_tells : ByteArray := prog_1_method_24_code
def yX4_tells : MethodName := ⟨RX4, "tells", "(III)I"⟩
abbrev cX4_firstOtherwise : ByteArray := prog_1_method_25_code
def yX4_firstOtherwise : MethodName := ⟨RX4, "firstOtherwise", "(LWhoBuiltSails$Sheet;III)I"⟩
abbrev cX4_bitsThatFit : ByteArray := prog_1_method_26_code
def yX4_bitsThatFit : MethodName := ⟨RX4, "bitsThatFit", "(LWhoBuiltSails$Sheet;III)I"⟩
abbrev cX4_howManyFit : ByteArray := prog_1_method_27_code
def yX4_howManyFit : MethodName := ⟨RX4, "howManyFit", "(LWhoBuiltSails$Sheet;II)I"⟩
abbrev cX4_leastThatFits : ByteArray := prog_1_method_28_code
def yX4_leastThatFits : MethodName := ⟨RX4, "leastThatFits", "(LWhoBuiltSails$Sheet;II)I"⟩
abbrev cX4_film : ByteArray := prog_1_method_29_code
def yX4_film : MethodName := ⟨RX4, "film", "(II)I"⟩
abbrev cX4_drawn : ByteArray := prog_1_method_30_code
def yX4_drawn : MethodName := ⟨RX4, "drawn", "(II)I"⟩
abbrev cX4_waterDrawn : ByteArray := prog_1_method_31_code
def yX4_waterDrawn : MethodName := ⟨RX4, "waterDrawn", "(II)I"⟩
abbrev cX4_chance : ByteArray := prog_1_method_32_code
def yX4_chance : MethodName := ⟨RX4, "chance", "(III)J"⟩
abbrev cX4_image : ByteArray := prog_1_method_33_code
def yX4_image : MethodName := ⟨RX4, "image", "()I"⟩
abbrev cX4_back : ByteArray := prog_1_method_34_code
def yX4_back : MethodName := ⟨RX4, "back", "()I"⟩
abbrev cX4_count : ByteArray := prog_1_method_35_code
def yX4_count : MethodName := ⟨RX4, "count", "(I)I"⟩
abbrev cX4_sheet : ByteArray := prog_1_method_36_code
def yX4_sheet : MethodName := ⟨RX4, "sheet", "(III)I"⟩
abbrev cX4_cell : ByteArray := prog_1_method_37_code
def yX4_cell : MethodName := ⟨RX4, "cell", "(III)I"⟩
abbrev cX4_copy : ByteArray := prog_1_method_38_code
def yX4_copy : MethodName := ⟨RX4, "copy", "(IIIII)I"⟩
abbrev cX4_gang : ByteArray := prog_1_method_39_code
def yX4_gang : MethodName := ⟨RX4, "gang", "(IIII)I"⟩
abbrev cX4_taken : ByteArray := prog_1_method_40_code
def yX4_taken : MethodName := ⟨RX4, "taken", "(II)I"⟩
abbrev cX4_within : ByteArray := prog_1_method_41_code
def yX4_within : MethodName := ⟨RX4, "within", "(III)Z"⟩
abbrev cX4_isPart : ByteArray := prog_1_method_42_code
def yX4_isPart : MethodName := ⟨RX4, "isPart", "(I)Z"⟩
abbrev cX4_isUnder : ByteArray := prog_1_method_43_code
def yX4_isUnder : MethodName := ⟨RX4, "isUnder", "(I)Z"⟩
abbrev cX4_isSheet : ByteArray := prog_1_method_44_code
def yX4_isSheet : MethodName := ⟨RX4, "isSheet", "(I)Z"⟩
abbrev cX4_isText : ByteArray := prog_1_method_45_code
def yX4_isText : MethodName := ⟨RX4, "isText", "(I)Z"⟩
abbrev cX4_lowestTerms : ByteArray := prog_1_method_46_code
def yX4_lowestTerms : MethodName := ⟨RX4, "lowestTerms", "(III)J"⟩
def RX5 : String := "WhoBuiltSailsModel"
def TX5 : u_T := fun k => match k with
  | 0 => ("WhoBuiltSailsModel", "thrown", "I", false)
  | 1 => ("WhoBuiltSailsModel", "texts", "[I", true)
  | 2 => ("WhoBuiltSailsModel", "textSize", "[I", true)
  | 3 => ("WhoBuiltSailsModel", "textCount", "I", false)
  | 4 => ("WhoBuiltSailsModel", "rule", "I", false)
  | 5 => ("WhoBuiltSailsModel", "tape", "[I", true)
  | 6 => ("WhoBuiltSailsModel", "taped", "I", false)
  | 7 => ("WhoBuiltSailsModel", "dayNow", "I", false)
  | 8 => ("WhoBuiltSailsModel", "sea", "I", false)
  | 9 => ("WhoBuiltSailsModel", "water", "I", false)
  | 10 => ("WhoBuiltSailsModel", "by", "[I", true)
  | 11 => ("WhoBuiltSailsModel", "sound", "[I", true)
  | 12 => ("WhoBuiltSailsModel", "rows", "[I", true)
  | 13 => ("WhoBuiltSailsModel", "many", "I", false)
  | 14 => ("WhoBuiltSailsModel", "ofSkill", "I", false)
  | 15 => ("WhoBuiltSailsModel", "ofSound", "I", false)
  | 16 => ("WhoBuiltSailsModel", "ofNumber", "I", false)
  | 17 => ("WhoBuiltSailsModel", "ofDay", "I", false)
  | 18 => ("WhoBuiltSailsModel", "ofWater", "I", false)
  | 19 => ("WhoBuiltSailsModel", "ofPart", "I", false)
  | 20 => ("WhoBuiltSailsModel", "from", "I", false)
  | 21 => ("WhoBuiltSailsModel", "size", "I", false)
  | 22 => ("WhoBuiltSailsModel", "here", "I", false)
  | 23 => ("WhoBuiltSailsModel", "token", "I", false)
  | 24 => ("WhoBuiltSailsModel", "tokenAt", "I", false)
  | 25 => ("WhoBuiltSailsModel", "tokenWorth", "J", false)
  | 26 => ("WhoBuiltSailsModel", "open", "I", false)
  | 27 => ("WhoBuiltSailsModel", "bad", "Z", false)
  | 28 => ("WhoBuiltSailsModel", "fault", "I", false)
  | 29 => ("WhoBuiltSailsModel", "was", "[I", true)
  | 30 => ("WhoBuiltSailsModel", "bare", "[I", true)
  | 31 => ("WhoBuiltSailsModel", "bareMany", "I", false)
  | 32 => ("WhoBuiltSailsModel", "bestRow", "I", false)
  | 33 => ("WhoBuiltSailsModel", "bestWater", "I", false)
  | 34 => ("WhoBuiltSailsModel", "rowsKept", "[I", true)
  | 35 => ("WhoBuiltSailsModel", "byKept", "[I", true)
  | 36 => ("WhoBuiltSailsModel", "soundKept", "[I", true)
  | 37 => ("WhoBuiltSailsModel", "manyKept", "I", false)
  | 38 => ("WhoBuiltSailsModel", "dayKept", "I", false)
  | 39 => ("WhoBuiltSailsModel", "seaKept", "I", false)
  | 40 => ("WhoBuiltSailsModel", "waterKept", "I", false)
  | 41 => ("WhoBuiltSailsModel", "ruleKept", "I", false)
  | 42 => ("WhoBuiltSailsModel", "isThere", "[Z", true)
  | 43 => ("WhoBuiltSailsModel", "sorts", "[I", true)
  | 44 => ("WhoBuiltSailsModel", "sheetSize", "[I", true)
  | _ => ("WhoBuiltSailsModel", "items", "[I", true)
def tyX5 : Nat → FieldType := fun k => match k with
  | 0 => .int
  | 1 => .array .int
  | 2 => .array .int
  | 3 => .int
  | 4 => .int
  | 5 => .array .int
  | 6 => .int
  | 7 => .int
  | 8 => .int
  | 9 => .int
  | 10 => .array .int
  | 11 => .array .int
  | 12 => .array .int
  | 13 => .int
  | 14 => .int
  | 15 => .int
  | 16 => .int
  | 17 => .int
  | 18 => .int
  | 19 => .int
  | 20 => .int
  | 21 => .int
  | 22 => .int
  | 23 => .int
  | 24 => .int
  | 25 => .long
  | 26 => .int
  | 27 => .boolean
  | 28 => .int
  | 29 => .array .int
  | 30 => .array .int
  | 31 => .int
  | 32 => .int
  | 33 => .int
  | 34 => .array .int
  | 35 => .array .int
  | 36 => .array .int
  | 37 => .int
  | 38 => .int
  | 39 => .int
  | 40 => .int
  | 41 => .int
  | 42 => .array .boolean
  | 43 => .array .int
  | 44 => .array .int
  | _ => .array .int
abbrev wsX50 : List Cond := u_ws RX5 TX5 46
theorem nmX5 : ∀ a, a < 46 → ∀ b, b < 46 → a ≠ b → (TX5 a).2.1 ≠ (TX5 b).2.1 := by decide +kernel
theorem tyX5_ok : ∀ k, k < 46 → parseFieldDescriptor (TX5 k).2.2.1 = some (tyX5 k) := by decide +kernel
abbrev cX5_in : ByteArray := prog_7_method_2_code
def yX5_in : MethodName := ⟨RX5, "in", "(JJJ)Z"⟩
abbrev cX5_within : ByteArray := prog_7_method_3_code
def yX5_within : MethodName := ⟨RX5, "within", "(III)I"⟩
abbrev cX5_init : ByteArray := prog_7_method_4_code
def yX5_init : MethodName := ⟨RX5, "<init>", "()V"⟩
abbrev cX5_spell : ByteArray := prog_7_method_5_code
def yX5_spell : MethodName := ⟨RX5, "spell", "(IIIIIIIII)V"⟩
abbrev cX5_isOne : ByteArray := prog_7_method_6_code
def yX5_isOne : MethodName := ⟨RX5, "isOne", "(I)Z"⟩
abbrev cX5_isPart : ByteArray := prog_7_method_7_code
def yX5_isPart : MethodName := ⟨RX5, "isPart", "(I)Z"⟩
abbrev cX5_isUnder : ByteArray := prog_7_method_8_code
def yX5_isUnder : MethodName := ⟨RX5, "isUnder", "(I)Z"⟩
abbrev cX5_isOf : ByteArray := prog_7_method_9_code
def yX5_isOf : MethodName := ⟨RX5, "isOf", "(II)Z"⟩
abbrev cX5_mostOf : ByteArray := prog_7_method_10_code
def yX5_mostOf : MethodName := ⟨RX5, "mostOf", "(I)I"⟩
abbrev cX5_set : ByteArray := prog_7_method_11_code
def yX5_set : MethodName := ⟨RX5, "set", "(III)I"⟩
abbrev cX5_lays : ByteArray := prog_7_method_12_code
def yX5_lays : MethodName := ⟨RX5, "lays", "(III)V"⟩
abbrev cX5_wright : ByteArray := prog_7_method_13_code
def yX5_wright : MethodName := ⟨RX5, "wright", "(III)I"⟩
abbrev cX5_told : ByteArray := prog_7_method_14_code
def yX5_told : MethodName := ⟨RX5, "told", "(II)I"⟩
abbrev cX5_madeBy : ByteArray := prog_7_method_15_code
def yX5_madeBy : MethodName := ⟨RX5, "madeBy", "(I)I"⟩
abbrev cX5_bitsOf : ByteArray := prog_7_method_16_code
def yX5_bitsOf : MethodName := ⟨RX5, "bitsOf", "(I)I"⟩
abbrev cX5_isAt : ByteArray := prog_7_method_17_code
def yX5_isAt : MethodName := ⟨RX5, "isAt", "(II)Z"⟩
abbrev cX5_whoIs : ByteArray := prog_7_method_18_code
def yX5_whoIs : MethodName := ⟨RX5, "whoIs", "(I)I"⟩
abbrev cX5_feed : ByteArray := prog_7_method_19_code
def yX5_feed : MethodName := ⟨RX5, "feed", "(I)I"⟩
abbrev cX5_byteAt : ByteArray := prog_7_method_20_code
def yX5_byteAt : MethodName := ⟨RX5, "byteAt", "(I)I"⟩
abbrev cX5_next : ByteArray := prog_7_method_21_code
def yX5_next : MethodName := ⟨RX5, "next", "()V"⟩
abbrev cX5_fail : ByteArray := prog_7_method_22_code
def yX5_fail : MethodName := ⟨RX5, "fail", "()V"⟩
abbrev cX5_isLetter : ByteArray := prog_7_method_23_code
def yX5_isLetter : MethodName := ⟨RX5, "isLetter", "(II)Z"⟩
abbrev cX5_isWord : ByteArray := prog_7_method_24_code
def yX5_isWord : MethodName := ⟨RX5, "isWord", "(IIIIIIII)Z"⟩
abbrev cX5_isSign : ByteArray := prog_7_method_25_code
def yX5_isSign : MethodName := ⟨RX5, "isSign", "(I)Z"⟩
abbrev cX5_opens : ByteArray := prog_7_method_26_code
def yX5_opens : MethodName := ⟨RX5, "opens", "()Z"⟩
abbrev cX5_name : ByteArray := prog_7_method_27_code
def yX5_name : MethodName := ⟨RX5, "name", "()I"⟩
abbrev cX5_atom : ByteArray := prog_7_method_28_code
def yX5_atom : MethodName := ⟨RX5, "atom", "()I"⟩
abbrev cX5_term : ByteArray := prog_7_method_29_code
def yX5_term : MethodName := ⟨RX5, "term", "()I"⟩
abbrev cX5_added : ByteArray := prog_7_method_30_code
def yX5_added : MethodName := ⟨RX5, "added", "()I"⟩
abbrev cX5_not : ByteArray := prog_7_method_31_code
def yX5_not : MethodName := ⟨RX5, "not", "()I"⟩
abbrev cX5_both : ByteArray := prog_7_method_32_code
def yX5_both : MethodName := ⟨RX5, "both", "()I"⟩
abbrev cX5_either : ByteArray := prog_7_method_33_code
def yX5_either : MethodName := ⟨RX5, "either", "()I"⟩
abbrev cX5_part : ByteArray := prog_7_method_34_code
def yX5_part : MethodName := ⟨RX5, "part", "(Z)I"⟩
abbrev cX5_read : ByteArray := prog_7_method_35_code
def yX5_read : MethodName := ⟨RX5, "read", "(II)I"⟩
abbrev cX5_text : ByteArray := prog_7_method_36_code
def yX5_text : MethodName := ⟨RX5, "text", "()I"⟩
abbrev cX5_force : ByteArray := prog_7_method_37_code
def yX5_force : MethodName := ⟨RX5, "force", "(I)I"⟩
abbrev cX5_says : ByteArray := prog_7_method_38_code
def yX5_says : MethodName := ⟨RX5, "says", "(III)I"⟩
abbrev cX5_makesOf : ByteArray := prog_7_method_39_code
def yX5_makesOf : MethodName := ⟨RX5, "makesOf", "(II)I"⟩
abbrev cX5_mendsOf : ByteArray := prog_7_method_40_code
def yX5_mendsOf : MethodName := ⟨RX5, "mendsOf", "(II)I"⟩
abbrev cX5_pumpsOf : ByteArray := prog_7_method_41_code
def yX5_pumpsOf : MethodName := ⟨RX5, "pumpsOf", "(I)I"⟩
abbrev cX5_asks : ByteArray := prog_7_method_42_code
def yX5_asks : MethodName := ⟨RX5, "asks", "(III)I"⟩
abbrev cX5_built : ByteArray := prog_7_method_43_code
def yX5_built : MethodName := ⟨RX5, "built", "(II)I"⟩
abbrev cX5_builds : ByteArray := prog_7_method_44_code
def yX5_builds : MethodName := ⟨RX5, "builds", "(II)I"⟩
abbrev cX5_binds : ByteArray := prog_7_method_45_code
def yX5_binds : MethodName := ⟨RX5, "binds", "()V"⟩
abbrev cX5_bound : ByteArray := prog_7_method_46_code
def yX5_bound : MethodName := ⟨RX5, "bound", "()I"⟩
abbrev cX5_home : ByteArray := prog_7_method_47_code
def yX5_home : MethodName := ⟨RX5, "home", "()I"⟩
abbrev cX5_leaksOf : ByteArray := prog_7_method_48_code
def yX5_leaksOf : MethodName := ⟨RX5, "leaksOf", "(I)I"⟩
abbrev cX5_leaksAll : ByteArray := prog_7_method_49_code
def yX5_leaksAll : MethodName := ⟨RX5, "leaksAll", "()I"⟩
abbrev cX5_works : ByteArray := prog_7_method_50_code
def yX5_works : MethodName := ⟨RX5, "works", "(I)V"⟩
abbrev cX5_passes : ByteArray := prog_7_method_51_code
def yX5_passes : MethodName := ⟨RX5, "passes", "()V"⟩
abbrev cX5_day : ByteArray := prog_7_method_52_code
def yX5_day : MethodName := ⟨RX5, "day", "()I"⟩
abbrev cX5_laysAside : ByteArray := prog_7_method_53_code
def yX5_laysAside : MethodName := ⟨RX5, "laysAside", "()V"⟩
abbrev cX5_laysBack : ByteArray := prog_7_method_54_code
def yX5_laysBack : MethodName := ⟨RX5, "laysBack", "()V"⟩
abbrev cX5_sails : ByteArray := prog_7_method_55_code
def yX5_sails : MethodName := ⟨RX5, "sails", "(I)V"⟩
abbrev cX5_waterBehind : ByteArray := prog_7_method_56_code
def yX5_waterBehind : MethodName := ⟨RX5, "waterBehind", "(I)I"⟩
abbrev cX5_run : ByteArray := prog_7_method_57_code
def yX5_run : MethodName := ⟨RX5, "run", "(II)I"⟩
abbrev cX5_down : ByteArray := prog_7_method_58_code
def yX5_down : MethodName := ⟨RX5, "down", "()I"⟩
abbrev cX5_tries : ByteArray := prog_7_method_59_code
def yX5_tries : MethodName := ⟨RX5, "tries", "(III)V"⟩
abbrev cX5_yard : ByteArray := prog_7_method_60_code
def yX5_yard : MethodName := ⟨RX5, "yard", "(II)I"⟩
abbrev cX5_stands : ByteArray := prog_7_method_61_code
def yX5_stands : MethodName := ⟨RX5, "stands", "(I)I"⟩
abbrev cX5_goers : ByteArray := prog_7_method_62_code
def yX5_goers : MethodName := ⟨RX5, "goers", "(I)I"⟩
abbrev cX5_placed : ByteArray := prog_7_method_63_code
def yX5_placed : MethodName := ⟨RX5, "placed", "(II)V"⟩
abbrev cX5_go : ByteArray := prog_7_method_64_code
def yX5_go : MethodName := ⟨RX5, "go", "(II)I"⟩
abbrev cX5_worst : ByteArray := prog_7_method_65_code
def yX5_worst : MethodName := ⟨RX5, "worst", "()I"⟩
abbrev cX5_lowest : ByteArray := prog_7_method_66_code
def yX5_lowest : MethodName := ⟨RX5, "lowest", "(JJI)J"⟩
abbrev cX5_mean : ByteArray := prog_7_method_67_code
def yX5_mean : MethodName := ⟨RX5, "mean", "(I)J"⟩
abbrev cX5_firstOther : ByteArray := prog_7_method_68_code
def yX5_firstOther : MethodName := ⟨RX5, "firstOther", "(I)I"⟩
abbrev cX5_soundSet : ByteArray := prog_7_method_69_code
def yX5_soundSet : MethodName := ⟨RX5, "soundSet", "(I)I"⟩
abbrev cX5_tells : ByteArray := prog_7_method_70_code
def yX5_tells : MethodName := ⟨RX5, "tells", "(III)I"⟩
abbrev cX5_film : ByteArray := prog_7_method_71_code
def yX5_film : MethodName := ⟨RX5, "film", "(II)I"⟩
abbrev cX5_waterDrawn : ByteArray := prog_7_method_72_code
def yX5_waterDrawn : MethodName := ⟨RX5, "waterDrawn", "(II)I"⟩
abbrev cX5_drawn : ByteArray := prog_7_method_73_code
def yX5_drawn : MethodName := ⟨RX5, "drawn", "(II)I"⟩
abbrev cX5_chance : ByteArray := prog_7_method_74_code
def yX5_chance : MethodName := ⟨RX5, "chance", "(III)J"⟩
abbrev cX5_image : ByteArray := prog_7_method_75_code
def yX5_image : MethodName := ⟨RX5, "image", "()I"⟩
abbrev cX5_back : ByteArray := prog_7_method_76_code
def yX5_back : MethodName := ⟨RX5, "back", "()I"⟩
abbrev cX5_madeMany : ByteArray := prog_7_method_77_code
def yX5_madeMany : MethodName := ⟨RX5, "madeMany", "()I"⟩
abbrev cX5_count : ByteArray := prog_7_method_78_code
def yX5_count : MethodName := ⟨RX5, "count", "(I)I"⟩
abbrev cX5_isSheet : ByteArray := prog_7_method_79_code
def yX5_isSheet : MethodName := ⟨RX5, "isSheet", "(I)Z"⟩
abbrev cX5_sheet : ByteArray := prog_7_method_80_code
def yX5_sheet : MethodName := ⟨RX5, "sheet", "(III)I"⟩
abbrev cX5_cell : ByteArray := prog_7_method_81_code
def yX5_cell : MethodName := ⟨RX5, "cell", "(III)I"⟩
abbrev cX5_copy : ByteArray := prog_7_method_82_code
def yX5_copy : MethodName := ⟨RX5, "copy", "(IIIII)I"⟩
abbrev cX5_gang : ByteArray := prog_7_method_83_code
def yX5_gang : MethodName := ⟨RX5, "gang", "(IIII)I"⟩
abbrev cX5_over : ByteArray := prog_7_method_84_code
def yX5_over : MethodName := ⟨RX5, "over", "(I)I"⟩
abbrev cX5_taken : ByteArray := prog_7_method_85_code
def yX5_taken : MethodName := ⟨RX5, "taken", "(II)I"⟩
def RJ6 : String := "java/lang/Integer"
abbrev cJ6_bitCount_0f7a4 : ByteArray := prog_8_method_49_code
def yJ6_bitCount_0f7a4 : MethodName := ⟨RJ6, "bitCount", "(I)I"⟩
def RJ9 : String := "java/lang/Math"
abbrev cJ9_max_7cf53 : ByteArray := prog_9_method_65_code
def yJ9_max_7cf53 : MethodName := ⟨RJ9, "max", "(II)I"⟩
abbrev cJ9_min_7cf53 : ByteArray := prog_9_method_69_code
def yJ9_min_7cf53 : MethodName := ⟨RJ9, "min", "(II)I"⟩
def RJ0 : String := "java/lang/String"
abbrev cJ0_length_8abf5 : ByteArray := prog_10_method_54_code
def yJ0_length_8abf5 : MethodName := ⟨RJ0, "length", "()I"⟩
abbrev cJ0_charAt_5068e : ByteArray := prog_10_method_56_code
def yJ0_charAt_5068e : MethodName := ⟨RJ0, "charAt", "(I)C"⟩
abbrev cJ0_coder_7d493 : ByteArray := prog_10_method_152_code
def yJ0_coder_7d493 : MethodName := ⟨RJ0, "coder", "()B"⟩
abbrev cJ0_isLatin1_aae02 : ByteArray := prog_10_method_154_code
def yJ0_isLatin1_aae02 : MethodName := ⟨RJ0, "isLatin1", "()Z"⟩
abbrev cJ0_checkIndex_df160 : ByteArray := prog_10_method_155_code
def yJ0_checkIndex_df160 : MethodName := ⟨RJ0, "checkIndex", "(II)V"⟩
def RJ1 : String := "java/lang/StringLatin1"
abbrev cJ1_charAt_3b067 : ByteArray := prog_11_method_2_code
def yJ1_charAt_3b067 : MethodName := ⟨RJ1, "charAt", "([BI)C"⟩
def RJ2 : String := "java/lang/StringUTF16"
abbrev cJ2_getChar_3b067 : ByteArray := prog_12_method_5_code
def yJ2_getChar_3b067 : MethodName := ⟨RJ2, "getChar", "([BI)C"⟩
abbrev cJ2_length_9d52b : ByteArray := prog_12_method_6_code
def yJ2_length_9d52b : MethodName := ⟨RJ2, "length", "([B)I"⟩
abbrev cJ2_charAt_3b067 : ByteArray := prog_12_method_83_code
def yJ2_charAt_3b067 : MethodName := ⟨RJ2, "charAt", "([BI)C"⟩
abbrev cJ2_checkIndex_2214a : ByteArray := prog_12_method_91_code
def yJ2_checkIndex_2214a : MethodName := ⟨RJ2, "checkIndex", "(I[B)V"⟩
def RJ10 : String := "java/lang/System"
def RJ3 : String := "jdk/internal/util/Preconditions"
abbrev cJ3_checkIndex_8e157 : ByteArray := prog_14_method_11_code
def yJ3_checkIndex_8e157 : MethodName := ⟨RJ3, "checkIndex", "(IILjava/util/function/BiFunction;)I"⟩
def RL : String := "WhoBuiltSailsLaw"
abbrev cL_law : ByteArray := code
def yL_law : MethodName := ⟨RL, "law", "([I)Z"⟩
abbrev vwCl : List vw_C := [(RX0, TX0, 9), (RX1, TX1, 3), (RX2, TX2, 12), (RX3, TX3, 5), (RX4, TX4, 8), (RX5, TX5, 46)]
end
section
theorem dX0_init_0 : decode cX0_init 0 = .ok (.aload_n 0, 1) := by decide +kernel
theorem dX0_init_1 : decode cX0_init 1 = .ok (.invokespecial 3, 3) := by decide +kernel
theorem dX0_init_4 : decode cX0_init 4 = .ok (.aload_n 0, 1) := by decide +kernel
theorem dX0_init_5 : decode cX0_init 5 = .ok (.sipush 160, 3) := by decide +kernel
theorem dX0_init_8 : decode cX0_init 8 = .ok (.newarray .int, 2) := by decide +kernel
theorem dX0_init_10 : decode cX0_init 10 = .ok (.putfield 9, 3) := by decide +kernel
theorem dX0_init_13 : decode cX0_init 13 = .ok (.return_, 1) := by decide +kernel
theorem dX0_takes_0 : decode cX0_takes 0 = .ok (.aload_n 0, 1) := by decide +kernel
theorem dX0_takes_1 : decode cX0_takes 1 = .ok (.getfield 15, 3) := by decide +kernel
theorem dX0_takes_4 : decode cX0_takes 4 = .ok (.sipush 160, 3) := by decide +kernel
theorem dX0_takes_7 : decode cX0_takes 7 = .ok (.if_icmp .lt 5, 3) := by decide +kernel
theorem dX0_takes_10 : decode cX0_takes 10 = .ok (.iconst 0, 1) := by decide +kernel
theorem dX0_takes_11 : decode cX0_takes 11 = .ok (.ireturn, 1) := by decide +kernel
theorem dX0_takes_12 : decode cX0_takes 12 = .ok (.aload_n 0, 1) := by decide +kernel
theorem dX0_takes_13 : decode cX0_takes 13 = .ok (.getfield 9, 3) := by decide +kernel
theorem dX0_takes_16 : decode cX0_takes 16 = .ok (.aload_n 0, 1) := by decide +kernel
theorem dX0_takes_17 : decode cX0_takes 17 = .ok (.getfield 15, 3) := by decide +kernel
theorem dX0_takes_20 : decode cX0_takes 20 = .ok (.iload_n 1, 1) := by decide +kernel
theorem dX0_takes_21 : decode cX0_takes 21 = .ok (.iastore, 1) := by decide +kernel
theorem dX0_takes_22 : decode cX0_takes 22 = .ok (.aload_n 0, 1) := by decide +kernel
theorem dX0_takes_23 : decode cX0_takes 23 = .ok (.dup, 1) := by decide +kernel
theorem dX0_takes_24 : decode cX0_takes 24 = .ok (.getfield 15, 3) := by decide +kernel
theorem dX0_takes_27 : decode cX0_takes 27 = .ok (.iconst 1, 1) := by decide +kernel
theorem dX0_takes_28 : decode cX0_takes 28 = .ok (.iadd, 1) := by decide +kernel
theorem dX0_takes_29 : decode cX0_takes 29 = .ok (.putfield 15, 3) := by decide +kernel
theorem dX0_takes_32 : decode cX0_takes 32 = .ok (.iconst 1, 1) := by decide +kernel
theorem dX0_takes_33 : decode cX0_takes 33 = .ok (.ireturn, 1) := by decide +kernel
theorem dX0_reads_0 : decode cX0_reads 0 = .ok (.aload_n 0, 1) := by decide +kernel
theorem dX0_reads_1 : decode cX0_reads 1 = .ok (.aload_n 1, 1) := by decide +kernel
theorem dX0_reads_2 : decode cX0_reads 2 = .ok (.putfield 19, 3) := by decide +kernel
theorem dX0_reads_5 : decode cX0_reads 5 = .ok (.aload_n 0, 1) := by decide +kernel
theorem dX0_reads_6 : decode cX0_reads 6 = .ok (.getfield 19, 3) := by decide +kernel
theorem dX0_reads_9 : decode cX0_reads 9 = .ok (.invokevirtual 23, 3) := by decide +kernel
theorem dX0_reads_12 : decode cX0_reads 12 = .ok (.aload_n 0, 1) := by decide +kernel
theorem dX0_reads_13 : decode cX0_reads 13 = .ok (.iconst 0, 1) := by decide +kernel
theorem dX0_reads_14 : decode cX0_reads 14 = .ok (.putfield 28, 3) := by decide +kernel
theorem dX0_reads_17 : decode cX0_reads 17 = .ok (.aload_n 0, 1) := by decide +kernel
theorem dX0_reads_18 : decode cX0_reads 18 = .ok (.iconst 0, 1) := by decide +kernel
theorem dX0_reads_19 : decode cX0_reads 19 = .ok (.putfield 31, 3) := by decide +kernel
theorem dX0_reads_22 : decode cX0_reads 22 = .ok (.aload_n 0, 1) := by decide +kernel
theorem dX0_reads_23 : decode cX0_reads 23 = .ok (.iconst (-1), 1) := by decide +kernel
theorem dX0_reads_24 : decode cX0_reads 24 = .ok (.putfield 34, 3) := by decide +kernel
theorem dX0_reads_27 : decode cX0_reads 27 = .ok (.aload_n 0, 1) := by decide +kernel
theorem dX0_reads_28 : decode cX0_reads 28 = .ok (.invokevirtual 37, 3) := by decide +kernel
theorem dX0_reads_31 : decode cX0_reads 31 = .ok (.iconst 0, 1) := by decide +kernel
theorem dX0_reads_32 : decode cX0_reads 32 = .ok (.istore_n 2, 1) := by decide +kernel
theorem dX0_reads_33 : decode cX0_reads 33 = .ok (.iload_n 2, 1) := by decide +kernel
theorem dX0_reads_34 : decode cX0_reads 34 = .ok (.iconst 2, 1) := by decide +kernel
theorem dX0_reads_35 : decode cX0_reads 35 = .ok (.if_icmp .gt 35, 3) := by decide +kernel
theorem dX0_reads_38 : decode cX0_reads 38 = .ok (.aload_n 0, 1) := by decide +kernel
theorem dX0_reads_39 : decode cX0_reads 39 = .ok (.bipush 6, 2) := by decide +kernel
theorem dX0_reads_41 : decode cX0_reads 41 = .ok (.iload_n 2, 1) := by decide +kernel
theorem dX0_reads_42 : decode cX0_reads 42 = .ok (.iadd, 1) := by decide +kernel
theorem dX0_reads_43 : decode cX0_reads 43 = .ok (.invokevirtual 40, 3) := by decide +kernel
theorem dX0_reads_46 : decode cX0_reads 46 = .ok (.aload_n 0, 1) := by decide +kernel
theorem dX0_reads_47 : decode cX0_reads 47 = .ok (.invokevirtual 44, 3) := by decide +kernel
theorem dX0_reads_50 : decode cX0_reads 50 = .ok (.aload_n 0, 1) := by decide +kernel
theorem dX0_reads_51 : decode cX0_reads 51 = .ok (.bipush 59, 2) := by decide +kernel
theorem dX0_reads_53 : decode cX0_reads 53 = .ok (.invokevirtual 40, 3) := by decide +kernel
theorem dX0_reads_56 : decode cX0_reads 56 = .ok (.aload_n 0, 1) := by decide +kernel
theorem dX0_reads_57 : decode cX0_reads 57 = .ok (.getfield 19, 3) := by decide +kernel
theorem dX0_reads_60 : decode cX0_reads 60 = .ok (.iload_n 2, 1) := by decide +kernel
theorem dX0_reads_61 : decode cX0_reads 61 = .ok (.invokevirtual 47, 3) := by decide +kernel
theorem dX0_reads_64 : decode cX0_reads 64 = .ok (.iinc 2 1, 3) := by decide +kernel
theorem dX0_reads_67 : decode cX0_reads 67 = .ok (.goto (-34), 3) := by decide +kernel
theorem dX0_reads_70 : decode cX0_reads 70 = .ok (.aload_n 0, 1) := by decide +kernel
theorem dX0_reads_71 : decode cX0_reads 71 = .ok (.getfield 50, 3) := by decide +kernel
theorem dX0_reads_74 : decode cX0_reads 74 = .ok (.bipush 13, 2) := by decide +kernel
theorem dX0_reads_76 : decode cX0_reads 76 = .ok (.if_icmp .eq 7, 3) := by decide +kernel
theorem dX0_reads_79 : decode cX0_reads 79 = .ok (.aload_n 0, 1) := by decide +kernel
theorem dX0_reads_80 : decode cX0_reads 80 = .ok (.invokevirtual 53, 3) := by decide +kernel
theorem dX0_reads_83 : decode cX0_reads 83 = .ok (.aload_n 0, 1) := by decide +kernel
theorem dX0_reads_84 : decode cX0_reads 84 = .ok (.getfield 34, 3) := by decide +kernel
theorem dX0_reads_87 : decode cX0_reads 87 = .ok (.ireturn, 1) := by decide +kernel
theorem dX0_fails_0 : decode cX0_fails 0 = .ok (.aload_n 0, 1) := by decide +kernel
theorem dX0_fails_1 : decode cX0_fails 1 = .ok (.getfield 34, 3) := by decide +kernel
theorem dX0_fails_4 : decode cX0_fails 4 = .ok (.iconst (-1), 1) := by decide +kernel
theorem dX0_fails_5 : decode cX0_fails 5 = .ok (.if_icmp .ne 11, 3) := by decide +kernel
theorem dX0_fails_8 : decode cX0_fails 8 = .ok (.aload_n 0, 1) := by decide +kernel
theorem dX0_fails_9 : decode cX0_fails 9 = .ok (.aload_n 0, 1) := by decide +kernel
theorem dX0_fails_10 : decode cX0_fails 10 = .ok (.getfield 56, 3) := by decide +kernel
theorem dX0_fails_13 : decode cX0_fails 13 = .ok (.putfield 34, 3) := by decide +kernel
theorem dX0_fails_16 : decode cX0_fails 16 = .ok (.aload_n 0, 1) := by decide +kernel
theorem dX0_fails_17 : decode cX0_fails 17 = .ok (.bipush 14, 2) := by decide +kernel
theorem dX0_fails_19 : decode cX0_fails 19 = .ok (.putfield 50, 3) := by decide +kernel
theorem dX0_fails_22 : decode cX0_fails 22 = .ok (.return_, 1) := by decide +kernel
theorem dX0_needs_0 : decode cX0_needs 0 = .ok (.aload_n 0, 1) := by decide +kernel
theorem dX0_needs_1 : decode cX0_needs 1 = .ok (.getfield 50, 3) := by decide +kernel
theorem dX0_needs_4 : decode cX0_needs 4 = .ok (.iload_n 1, 1) := by decide +kernel
theorem dX0_needs_5 : decode cX0_needs 5 = .ok (.if_icmp .ne 10, 3) := by decide +kernel
theorem dX0_needs_8 : decode cX0_needs 8 = .ok (.aload_n 0, 1) := by decide +kernel
theorem dX0_needs_9 : decode cX0_needs 9 = .ok (.invokevirtual 37, 3) := by decide +kernel
theorem dX0_needs_12 : decode cX0_needs 12 = .ok (.goto 7, 3) := by decide +kernel
theorem dX0_needs_15 : decode cX0_needs 15 = .ok (.aload_n 0, 1) := by decide +kernel
theorem dX0_needs_16 : decode cX0_needs 16 = .ok (.invokevirtual 53, 3) := by decide +kernel
theorem dX0_needs_19 : decode cX0_needs 19 = .ok (.return_, 1) := by decide +kernel
theorem dX0_readOr_0 : decode cX0_readOr 0 = .ok (.aload_n 0, 1) := by decide +kernel
theorem dX0_readOr_1 : decode cX0_readOr 1 = .ok (.invokevirtual 59, 3) := by decide +kernel
theorem dX0_readOr_4 : decode cX0_readOr 4 = .ok (.iconst 0, 1) := by decide +kernel
theorem dX0_readOr_5 : decode cX0_readOr 5 = .ok (.istore_n 1, 1) := by decide +kernel
theorem dX0_readOr_6 : decode cX0_readOr 6 = .ok (.iload_n 1, 1) := by decide +kernel
theorem dX0_readOr_7 : decode cX0_readOr 7 = .ok (.sipush 160, 3) := by decide +kernel
theorem dX0_readOr_10 : decode cX0_readOr 10 = .ok (.if_icmp .ge 35, 3) := by decide +kernel
theorem dX0_readOr_13 : decode cX0_readOr 13 = .ok (.aload_n 0, 1) := by decide +kernel
theorem dX0_readOr_14 : decode cX0_readOr 14 = .ok (.getfield 50, 3) := by decide +kernel
theorem dX0_readOr_17 : decode cX0_readOr 17 = .ok (.bipush 9, 2) := by decide +kernel
theorem dX0_readOr_19 : decode cX0_readOr 19 = .ok (.if_icmp .ne 26, 3) := by decide +kernel
theorem dX0_readOr_22 : decode cX0_readOr 22 = .ok (.aload_n 0, 1) := by decide +kernel
theorem dX0_readOr_23 : decode cX0_readOr 23 = .ok (.invokevirtual 37, 3) := by decide +kernel
theorem dX0_readOr_26 : decode cX0_readOr 26 = .ok (.aload_n 0, 1) := by decide +kernel
theorem dX0_readOr_27 : decode cX0_readOr 27 = .ok (.invokevirtual 59, 3) := by decide +kernel
theorem dX0_readOr_30 : decode cX0_readOr 30 = .ok (.aload_n 0, 1) := by decide +kernel
theorem dX0_readOr_31 : decode cX0_readOr 31 = .ok (.getfield 19, 3) := by decide +kernel
theorem dX0_readOr_34 : decode cX0_readOr 34 = .ok (.bipush (-7), 2) := by decide +kernel
theorem dX0_readOr_36 : decode cX0_readOr 36 = .ok (.invokevirtual 62, 3) := by decide +kernel
theorem dX0_readOr_39 : decode cX0_readOr 39 = .ok (.iinc 1 1, 3) := by decide +kernel
theorem dX0_readOr_42 : decode cX0_readOr 42 = .ok (.goto (-36), 3) := by decide +kernel
theorem dX0_readOr_45 : decode cX0_readOr 45 = .ok (.return_, 1) := by decide +kernel
theorem dX0_readAnd_0 : decode cX0_readAnd 0 = .ok (.aload_n 0, 1) := by decide +kernel
theorem dX0_readAnd_1 : decode cX0_readAnd 1 = .ok (.invokevirtual 65, 3) := by decide +kernel
theorem dX0_readAnd_4 : decode cX0_readAnd 4 = .ok (.iconst 0, 1) := by decide +kernel
theorem dX0_readAnd_5 : decode cX0_readAnd 5 = .ok (.istore_n 1, 1) := by decide +kernel
theorem dX0_readAnd_6 : decode cX0_readAnd 6 = .ok (.iload_n 1, 1) := by decide +kernel
theorem dX0_readAnd_7 : decode cX0_readAnd 7 = .ok (.sipush 160, 3) := by decide +kernel
theorem dX0_readAnd_10 : decode cX0_readAnd 10 = .ok (.if_icmp .ge 35, 3) := by decide +kernel
theorem dX0_readAnd_13 : decode cX0_readAnd 13 = .ok (.aload_n 0, 1) := by decide +kernel
theorem dX0_readAnd_14 : decode cX0_readAnd 14 = .ok (.getfield 50, 3) := by decide +kernel
theorem dX0_readAnd_17 : decode cX0_readAnd 17 = .ok (.bipush 10, 2) := by decide +kernel
theorem dX0_readAnd_19 : decode cX0_readAnd 19 = .ok (.if_icmp .ne 26, 3) := by decide +kernel
theorem dX0_readAnd_22 : decode cX0_readAnd 22 = .ok (.aload_n 0, 1) := by decide +kernel
theorem dX0_readAnd_23 : decode cX0_readAnd 23 = .ok (.invokevirtual 37, 3) := by decide +kernel
theorem dX0_readAnd_26 : decode cX0_readAnd 26 = .ok (.aload_n 0, 1) := by decide +kernel
theorem dX0_readAnd_27 : decode cX0_readAnd 27 = .ok (.invokevirtual 65, 3) := by decide +kernel
theorem dX0_readAnd_30 : decode cX0_readAnd 30 = .ok (.aload_n 0, 1) := by decide +kernel
theorem dX0_readAnd_31 : decode cX0_readAnd 31 = .ok (.getfield 19, 3) := by decide +kernel
theorem dX0_readAnd_34 : decode cX0_readAnd 34 = .ok (.bipush (-8), 2) := by decide +kernel
theorem dX0_readAnd_36 : decode cX0_readAnd 36 = .ok (.invokevirtual 62, 3) := by decide +kernel
theorem dX0_readAnd_39 : decode cX0_readAnd 39 = .ok (.iinc 1 1, 3) := by decide +kernel
theorem dX0_readAnd_42 : decode cX0_readAnd 42 = .ok (.goto (-36), 3) := by decide +kernel
theorem dX0_readAnd_45 : decode cX0_readAnd 45 = .ok (.return_, 1) := by decide +kernel
theorem dX0_readNot_0 : decode cX0_readNot 0 = .ok (.aload_n 0, 1) := by decide +kernel
theorem dX0_readNot_1 : decode cX0_readNot 1 = .ok (.getfield 50, 3) := by decide +kernel
theorem dX0_readNot_4 : decode cX0_readNot 4 = .ok (.bipush 11, 2) := by decide +kernel
theorem dX0_readNot_6 : decode cX0_readNot 6 = .ok (.if_icmp .eq 10, 3) := by decide +kernel
theorem dX0_readNot_9 : decode cX0_readNot 9 = .ok (.aload_n 0, 1) := by decide +kernel
theorem dX0_readNot_10 : decode cX0_readNot 10 = .ok (.invokevirtual 68, 3) := by decide +kernel
theorem dX0_readNot_13 : decode cX0_readNot 13 = .ok (.goto 41, 3) := by decide +kernel
theorem dX0_readNot_16 : decode cX0_readNot 16 = .ok (.aload_n 0, 1) := by decide +kernel
theorem dX0_readNot_17 : decode cX0_readNot 17 = .ok (.invokevirtual 71, 3) := by decide +kernel
theorem dX0_readNot_20 : decode cX0_readNot 20 = .ok (.ifCond .eq 34, 3) := by decide +kernel
theorem dX0_readNot_23 : decode cX0_readNot 23 = .ok (.aload_n 0, 1) := by decide +kernel
theorem dX0_readNot_24 : decode cX0_readNot 24 = .ok (.invokevirtual 65, 3) := by decide +kernel
theorem dX0_readNot_27 : decode cX0_readNot 27 = .ok (.aload_n 0, 1) := by decide +kernel
theorem dX0_readNot_28 : decode cX0_readNot 28 = .ok (.getfield 19, 3) := by decide +kernel
theorem dX0_readNot_31 : decode cX0_readNot 31 = .ok (.iconst 0, 1) := by decide +kernel
theorem dX0_readNot_32 : decode cX0_readNot 32 = .ok (.invokevirtual 62, 3) := by decide +kernel
theorem dX0_readNot_35 : decode cX0_readNot 35 = .ok (.aload_n 0, 1) := by decide +kernel
theorem dX0_readNot_36 : decode cX0_readNot 36 = .ok (.getfield 19, 3) := by decide +kernel
theorem dX0_readNot_39 : decode cX0_readNot 39 = .ok (.bipush (-10), 2) := by decide +kernel
theorem dX0_readNot_41 : decode cX0_readNot 41 = .ok (.invokevirtual 62, 3) := by decide +kernel
theorem dX0_readNot_44 : decode cX0_readNot 44 = .ok (.aload_n 0, 1) := by decide +kernel
theorem dX0_readNot_45 : decode cX0_readNot 45 = .ok (.dup, 1) := by decide +kernel
theorem dX0_readNot_46 : decode cX0_readNot 46 = .ok (.getfield 31, 3) := by decide +kernel
theorem dX0_readNot_49 : decode cX0_readNot 49 = .ok (.iconst 1, 1) := by decide +kernel
theorem dX0_readNot_50 : decode cX0_readNot 50 = .ok (.isub, 1) := by decide +kernel
theorem dX0_readNot_51 : decode cX0_readNot 51 = .ok (.putfield 31, 3) := by decide +kernel
theorem dX0_readNot_54 : decode cX0_readNot 54 = .ok (.return_, 1) := by decide +kernel
theorem dX0_readCompared_0 : decode cX0_readCompared 0 = .ok (.aload_n 0, 1) := by decide +kernel
theorem dX0_readCompared_1 : decode cX0_readCompared 1 = .ok (.invokevirtual 75, 3) := by decide +kernel
theorem dX0_readCompared_4 : decode cX0_readCompared 4 = .ok (.aload_n 0, 1) := by decide +kernel
theorem dX0_readCompared_5 : decode cX0_readCompared 5 = .ok (.getfield 50, 3) := by decide +kernel
theorem dX0_readCompared_8 : decode cX0_readCompared 8 = .ok (.bipush 60, 2) := by decide +kernel
theorem dX0_readCompared_10 : decode cX0_readCompared 10 = .ok (.if_icmp .eq 12, 3) := by decide +kernel
theorem dX0_readCompared_13 : decode cX0_readCompared 13 = .ok (.aload_n 0, 1) := by decide +kernel
theorem dX0_readCompared_14 : decode cX0_readCompared 14 = .ok (.getfield 50, 3) := by decide +kernel
theorem dX0_readCompared_17 : decode cX0_readCompared 17 = .ok (.bipush 61, 2) := by decide +kernel
theorem dX0_readCompared_19 : decode cX0_readCompared 19 = .ok (.if_icmp .ne 36, 3) := by decide +kernel
theorem dX0_readCompared_22 : decode cX0_readCompared 22 = .ok (.aload_n 0, 1) := by decide +kernel
theorem dX0_readCompared_23 : decode cX0_readCompared 23 = .ok (.getfield 50, 3) := by decide +kernel
theorem dX0_readCompared_26 : decode cX0_readCompared 26 = .ok (.bipush 60, 2) := by decide +kernel
theorem dX0_readCompared_28 : decode cX0_readCompared 28 = .ok (.if_icmp .ne 8, 3) := by decide +kernel
theorem dX0_readCompared_31 : decode cX0_readCompared 31 = .ok (.bipush (-9), 2) := by decide +kernel
theorem dX0_readCompared_33 : decode cX0_readCompared 33 = .ok (.goto 5, 3) := by decide +kernel
theorem dX0_readCompared_36 : decode cX0_readCompared 36 = .ok (.bipush (-10), 2) := by decide +kernel
theorem dX0_readCompared_38 : decode cX0_readCompared 38 = .ok (.istore_n 1, 1) := by decide +kernel
theorem dX0_readCompared_39 : decode cX0_readCompared 39 = .ok (.aload_n 0, 1) := by decide +kernel
theorem dX0_readCompared_40 : decode cX0_readCompared 40 = .ok (.invokevirtual 37, 3) := by decide +kernel
theorem dX0_readCompared_43 : decode cX0_readCompared 43 = .ok (.aload_n 0, 1) := by decide +kernel
theorem dX0_readCompared_44 : decode cX0_readCompared 44 = .ok (.invokevirtual 75, 3) := by decide +kernel
theorem dX0_readCompared_47 : decode cX0_readCompared 47 = .ok (.aload_n 0, 1) := by decide +kernel
theorem dX0_readCompared_48 : decode cX0_readCompared 48 = .ok (.getfield 19, 3) := by decide +kernel
theorem dX0_readCompared_51 : decode cX0_readCompared 51 = .ok (.iload_n 1, 1) := by decide +kernel
theorem dX0_readCompared_52 : decode cX0_readCompared 52 = .ok (.invokevirtual 62, 3) := by decide +kernel
theorem dX0_readCompared_55 : decode cX0_readCompared 55 = .ok (.return_, 1) := by decide +kernel
theorem dX0_readSum_0 : decode cX0_readSum 0 = .ok (.aload_n 0, 1) := by decide +kernel
theorem dX0_readSum_1 : decode cX0_readSum 1 = .ok (.invokevirtual 78, 3) := by decide +kernel
theorem dX0_readSum_4 : decode cX0_readSum 4 = .ok (.iconst 0, 1) := by decide +kernel
theorem dX0_readSum_5 : decode cX0_readSum 5 = .ok (.istore_n 1, 1) := by decide +kernel
theorem dX0_readSum_6 : decode cX0_readSum 6 = .ok (.iload_n 1, 1) := by decide +kernel
theorem dX0_readSum_7 : decode cX0_readSum 7 = .ok (.sipush 160, 3) := by decide +kernel
theorem dX0_readSum_10 : decode cX0_readSum 10 = .ok (.if_icmp .ge 60, 3) := by decide +kernel
theorem dX0_readSum_13 : decode cX0_readSum 13 = .ok (.aload_n 0, 1) := by decide +kernel
theorem dX0_readSum_14 : decode cX0_readSum 14 = .ok (.getfield 50, 3) := by decide +kernel
theorem dX0_readSum_17 : decode cX0_readSum 17 = .ok (.bipush 43, 2) := by decide +kernel
theorem dX0_readSum_19 : decode cX0_readSum 19 = .ok (.if_icmp .eq 12, 3) := by decide +kernel
theorem dX0_readSum_22 : decode cX0_readSum 22 = .ok (.aload_n 0, 1) := by decide +kernel
theorem dX0_readSum_23 : decode cX0_readSum 23 = .ok (.getfield 50, 3) := by decide +kernel
theorem dX0_readSum_26 : decode cX0_readSum 26 = .ok (.bipush 45, 2) := by decide +kernel
theorem dX0_readSum_28 : decode cX0_readSum 28 = .ok (.if_icmp .ne 42, 3) := by decide +kernel
theorem dX0_readSum_31 : decode cX0_readSum 31 = .ok (.aload_n 0, 1) := by decide +kernel
theorem dX0_readSum_32 : decode cX0_readSum 32 = .ok (.getfield 50, 3) := by decide +kernel
theorem dX0_readSum_35 : decode cX0_readSum 35 = .ok (.bipush 43, 2) := by decide +kernel
theorem dX0_readSum_37 : decode cX0_readSum 37 = .ok (.if_icmp .ne 8, 3) := by decide +kernel
theorem dX0_readSum_40 : decode cX0_readSum 40 = .ok (.bipush (-11), 2) := by decide +kernel
theorem dX0_readSum_42 : decode cX0_readSum 42 = .ok (.goto 5, 3) := by decide +kernel
theorem dX0_readSum_45 : decode cX0_readSum 45 = .ok (.bipush (-12), 2) := by decide +kernel
theorem dX0_readSum_47 : decode cX0_readSum 47 = .ok (.istore_n 2, 1) := by decide +kernel
theorem dX0_readSum_48 : decode cX0_readSum 48 = .ok (.aload_n 0, 1) := by decide +kernel
theorem dX0_readSum_49 : decode cX0_readSum 49 = .ok (.invokevirtual 37, 3) := by decide +kernel
theorem dX0_readSum_52 : decode cX0_readSum 52 = .ok (.aload_n 0, 1) := by decide +kernel
theorem dX0_readSum_53 : decode cX0_readSum 53 = .ok (.invokevirtual 78, 3) := by decide +kernel
theorem dX0_readSum_56 : decode cX0_readSum 56 = .ok (.aload_n 0, 1) := by decide +kernel
theorem dX0_readSum_57 : decode cX0_readSum 57 = .ok (.getfield 19, 3) := by decide +kernel
theorem dX0_readSum_60 : decode cX0_readSum 60 = .ok (.iload_n 2, 1) := by decide +kernel
theorem dX0_readSum_61 : decode cX0_readSum 61 = .ok (.invokevirtual 62, 3) := by decide +kernel
theorem dX0_readSum_64 : decode cX0_readSum 64 = .ok (.iinc 1 1, 3) := by decide +kernel
theorem dX0_readSum_67 : decode cX0_readSum 67 = .ok (.goto (-61), 3) := by decide +kernel
theorem dX0_readSum_70 : decode cX0_readSum 70 = .ok (.return_, 1) := by decide +kernel
theorem dX0_readTerm_0 : decode cX0_readTerm 0 = .ok (.aload_n 0, 1) := by decide +kernel
theorem dX0_readTerm_1 : decode cX0_readTerm 1 = .ok (.invokevirtual 81, 3) := by decide +kernel
theorem dX0_readTerm_4 : decode cX0_readTerm 4 = .ok (.iconst 0, 1) := by decide +kernel
theorem dX0_readTerm_5 : decode cX0_readTerm 5 = .ok (.istore_n 1, 1) := by decide +kernel
theorem dX0_readTerm_6 : decode cX0_readTerm 6 = .ok (.iload_n 1, 1) := by decide +kernel
theorem dX0_readTerm_7 : decode cX0_readTerm 7 = .ok (.sipush 160, 3) := by decide +kernel
theorem dX0_readTerm_10 : decode cX0_readTerm 10 = .ok (.if_icmp .ge 35, 3) := by decide +kernel
theorem dX0_readTerm_13 : decode cX0_readTerm 13 = .ok (.aload_n 0, 1) := by decide +kernel
theorem dX0_readTerm_14 : decode cX0_readTerm 14 = .ok (.getfield 50, 3) := by decide +kernel
theorem dX0_readTerm_17 : decode cX0_readTerm 17 = .ok (.bipush 42, 2) := by decide +kernel
theorem dX0_readTerm_19 : decode cX0_readTerm 19 = .ok (.if_icmp .ne 26, 3) := by decide +kernel
theorem dX0_readTerm_22 : decode cX0_readTerm 22 = .ok (.aload_n 0, 1) := by decide +kernel
theorem dX0_readTerm_23 : decode cX0_readTerm 23 = .ok (.invokevirtual 37, 3) := by decide +kernel
theorem dX0_readTerm_26 : decode cX0_readTerm 26 = .ok (.aload_n 0, 1) := by decide +kernel
theorem dX0_readTerm_27 : decode cX0_readTerm 27 = .ok (.invokevirtual 81, 3) := by decide +kernel
theorem dX0_readTerm_30 : decode cX0_readTerm 30 = .ok (.aload_n 0, 1) := by decide +kernel
theorem dX0_readTerm_31 : decode cX0_readTerm 31 = .ok (.getfield 19, 3) := by decide +kernel
theorem dX0_readTerm_34 : decode cX0_readTerm 34 = .ok (.bipush (-13), 2) := by decide +kernel
theorem dX0_readTerm_36 : decode cX0_readTerm 36 = .ok (.invokevirtual 62, 3) := by decide +kernel
theorem dX0_readTerm_39 : decode cX0_readTerm 39 = .ok (.iinc 1 1, 3) := by decide +kernel
theorem dX0_readTerm_42 : decode cX0_readTerm 42 = .ok (.goto (-36), 3) := by decide +kernel
theorem dX0_readTerm_45 : decode cX0_readTerm 45 = .ok (.return_, 1) := by decide +kernel
theorem dX0_readOne_0 : decode cX0_readOne 0 = .ok (.aload_n 0, 1) := by decide +kernel
theorem dX0_readOne_1 : decode cX0_readOne 1 = .ok (.getfield 50, 3) := by decide +kernel
theorem dX0_readOne_4 : decode cX0_readOne 4 = .ok (.bipush 12, 2) := by decide +kernel
theorem dX0_readOne_6 : decode cX0_readOne 6 = .ok (.if_icmp .ne 21, 3) := by decide +kernel
theorem dX0_readOne_9 : decode cX0_readOne 9 = .ok (.aload_n 0, 1) := by decide +kernel
theorem dX0_readOne_10 : decode cX0_readOne 10 = .ok (.getfield 19, 3) := by decide +kernel
theorem dX0_readOne_13 : decode cX0_readOne 13 = .ok (.aload_n 0, 1) := by decide +kernel
theorem dX0_readOne_14 : decode cX0_readOne 14 = .ok (.getfield 84, 3) := by decide +kernel
theorem dX0_readOne_17 : decode cX0_readOne 17 = .ok (.invokevirtual 62, 3) := by decide +kernel
theorem dX0_readOne_20 : decode cX0_readOne 20 = .ok (.aload_n 0, 1) := by decide +kernel
theorem dX0_readOne_21 : decode cX0_readOne 21 = .ok (.invokevirtual 37, 3) := by decide +kernel
theorem dX0_readOne_24 : decode cX0_readOne 24 = .ok (.goto 71, 3) := by decide +kernel
theorem dX0_readOne_27 : decode cX0_readOne 27 = .ok (.aload_n 0, 1) := by decide +kernel
theorem dX0_readOne_28 : decode cX0_readOne 28 = .ok (.getfield 50, 3) := by decide +kernel
theorem dX0_readOne_31 : decode cX0_readOne 31 = .ok (.iconst 0, 1) := by decide +kernel
theorem dX0_readOne_32 : decode cX0_readOne 32 = .ok (.iconst 5, 1) := by decide +kernel
theorem dX0_readOne_33 : decode cX0_readOne 33 = .ok (.invokestatic 87, 3) := by decide +kernel
theorem dX0_readOne_36 : decode cX0_readOne 36 = .ok (.ifCond .eq 23, 3) := by decide +kernel
theorem dX0_readOne_39 : decode cX0_readOne 39 = .ok (.aload_n 0, 1) := by decide +kernel
theorem dX0_readOne_40 : decode cX0_readOne 40 = .ok (.getfield 19, 3) := by decide +kernel
theorem dX0_readOne_43 : decode cX0_readOne 43 = .ok (.iconst (-1), 1) := by decide +kernel
theorem dX0_readOne_44 : decode cX0_readOne 44 = .ok (.aload_n 0, 1) := by decide +kernel
theorem dX0_readOne_45 : decode cX0_readOne 45 = .ok (.getfield 50, 3) := by decide +kernel
theorem dX0_readOne_48 : decode cX0_readOne 48 = .ok (.isub, 1) := by decide +kernel
theorem dX0_readOne_49 : decode cX0_readOne 49 = .ok (.invokevirtual 62, 3) := by decide +kernel
theorem dX0_readOne_52 : decode cX0_readOne 52 = .ok (.aload_n 0, 1) := by decide +kernel
theorem dX0_readOne_53 : decode cX0_readOne 53 = .ok (.invokevirtual 37, 3) := by decide +kernel
theorem dX0_readOne_56 : decode cX0_readOne 56 = .ok (.goto 39, 3) := by decide +kernel
theorem dX0_readOne_59 : decode cX0_readOne 59 = .ok (.aload_n 0, 1) := by decide +kernel
theorem dX0_readOne_60 : decode cX0_readOne 60 = .ok (.getfield 50, 3) := by decide +kernel
theorem dX0_readOne_63 : decode cX0_readOne 63 = .ok (.bipush 45, 2) := by decide +kernel
theorem dX0_readOne_65 : decode cX0_readOne 65 = .ok (.if_icmp .ne 10, 3) := by decide +kernel
theorem dX0_readOne_68 : decode cX0_readOne 68 = .ok (.aload_n 0, 1) := by decide +kernel
theorem dX0_readOne_69 : decode cX0_readOne 69 = .ok (.invokevirtual 91, 3) := by decide +kernel
theorem dX0_readOne_72 : decode cX0_readOne 72 = .ok (.goto 23, 3) := by decide +kernel
theorem dX0_readOne_75 : decode cX0_readOne 75 = .ok (.aload_n 0, 1) := by decide +kernel
theorem dX0_readOne_76 : decode cX0_readOne 76 = .ok (.getfield 50, 3) := by decide +kernel
theorem dX0_readOne_79 : decode cX0_readOne 79 = .ok (.bipush 40, 2) := by decide +kernel
theorem dX0_readOne_81 : decode cX0_readOne 81 = .ok (.if_icmp .ne 10, 3) := by decide +kernel
theorem dX0_readOne_84 : decode cX0_readOne 84 = .ok (.aload_n 0, 1) := by decide +kernel
theorem dX0_readOne_85 : decode cX0_readOne 85 = .ok (.invokevirtual 94, 3) := by decide +kernel
theorem dX0_readOne_88 : decode cX0_readOne 88 = .ok (.goto 7, 3) := by decide +kernel
theorem dX0_readOne_91 : decode cX0_readOne 91 = .ok (.aload_n 0, 1) := by decide +kernel
theorem dX0_readOne_92 : decode cX0_readOne 92 = .ok (.invokevirtual 53, 3) := by decide +kernel
theorem dX0_readOne_95 : decode cX0_readOne 95 = .ok (.return_, 1) := by decide +kernel
theorem dX0_readMinus_0 : decode cX0_readMinus 0 = .ok (.aload_n 0, 1) := by decide +kernel
theorem dX0_readMinus_1 : decode cX0_readMinus 1 = .ok (.invokevirtual 71, 3) := by decide +kernel
theorem dX0_readMinus_4 : decode cX0_readMinus 4 = .ok (.ifCond .eq 34, 3) := by decide +kernel
theorem dX0_readMinus_7 : decode cX0_readMinus 7 = .ok (.aload_n 0, 1) := by decide +kernel
theorem dX0_readMinus_8 : decode cX0_readMinus 8 = .ok (.getfield 19, 3) := by decide +kernel
theorem dX0_readMinus_11 : decode cX0_readMinus 11 = .ok (.iconst 0, 1) := by decide +kernel
theorem dX0_readMinus_12 : decode cX0_readMinus 12 = .ok (.invokevirtual 62, 3) := by decide +kernel
theorem dX0_readMinus_15 : decode cX0_readMinus 15 = .ok (.aload_n 0, 1) := by decide +kernel
theorem dX0_readMinus_16 : decode cX0_readMinus 16 = .ok (.invokevirtual 81, 3) := by decide +kernel
theorem dX0_readMinus_19 : decode cX0_readMinus 19 = .ok (.aload_n 0, 1) := by decide +kernel
theorem dX0_readMinus_20 : decode cX0_readMinus 20 = .ok (.getfield 19, 3) := by decide +kernel
theorem dX0_readMinus_23 : decode cX0_readMinus 23 = .ok (.bipush (-12), 2) := by decide +kernel
theorem dX0_readMinus_25 : decode cX0_readMinus 25 = .ok (.invokevirtual 62, 3) := by decide +kernel
theorem dX0_readMinus_28 : decode cX0_readMinus 28 = .ok (.aload_n 0, 1) := by decide +kernel
theorem dX0_readMinus_29 : decode cX0_readMinus 29 = .ok (.dup, 1) := by decide +kernel
theorem dX0_readMinus_30 : decode cX0_readMinus 30 = .ok (.getfield 31, 3) := by decide +kernel
theorem dX0_readMinus_33 : decode cX0_readMinus 33 = .ok (.iconst 1, 1) := by decide +kernel
theorem dX0_readMinus_34 : decode cX0_readMinus 34 = .ok (.isub, 1) := by decide +kernel
theorem dX0_readMinus_35 : decode cX0_readMinus 35 = .ok (.putfield 31, 3) := by decide +kernel
theorem dX0_readMinus_38 : decode cX0_readMinus 38 = .ok (.return_, 1) := by decide +kernel
theorem dX0_readBracket_0 : decode cX0_readBracket 0 = .ok (.aload_n 0, 1) := by decide +kernel
theorem dX0_readBracket_1 : decode cX0_readBracket 1 = .ok (.invokevirtual 71, 3) := by decide +kernel
theorem dX0_readBracket_4 : decode cX0_readBracket 4 = .ok (.ifCond .eq 23, 3) := by decide +kernel
theorem dX0_readBracket_7 : decode cX0_readBracket 7 = .ok (.aload_n 0, 1) := by decide +kernel
theorem dX0_readBracket_8 : decode cX0_readBracket 8 = .ok (.invokevirtual 44, 3) := by decide +kernel
theorem dX0_readBracket_11 : decode cX0_readBracket 11 = .ok (.aload_n 0, 1) := by decide +kernel
theorem dX0_readBracket_12 : decode cX0_readBracket 12 = .ok (.bipush 41, 2) := by decide +kernel
theorem dX0_readBracket_14 : decode cX0_readBracket 14 = .ok (.invokevirtual 40, 3) := by decide +kernel
theorem dX0_readBracket_17 : decode cX0_readBracket 17 = .ok (.aload_n 0, 1) := by decide +kernel
theorem dX0_readBracket_18 : decode cX0_readBracket 18 = .ok (.dup, 1) := by decide +kernel
theorem dX0_readBracket_19 : decode cX0_readBracket 19 = .ok (.getfield 31, 3) := by decide +kernel
theorem dX0_readBracket_22 : decode cX0_readBracket 22 = .ok (.iconst 1, 1) := by decide +kernel
theorem dX0_readBracket_23 : decode cX0_readBracket 23 = .ok (.isub, 1) := by decide +kernel
theorem dX0_readBracket_24 : decode cX0_readBracket 24 = .ok (.putfield 31, 3) := by decide +kernel
theorem dX0_readBracket_27 : decode cX0_readBracket 27 = .ok (.return_, 1) := by decide +kernel
theorem dX0_opens_0 : decode cX0_opens 0 = .ok (.aload_n 0, 1) := by decide +kernel
theorem dX0_opens_1 : decode cX0_opens 1 = .ok (.getfield 31, 3) := by decide +kernel
theorem dX0_opens_4 : decode cX0_opens 4 = .ok (.iconst 5, 1) := by decide +kernel
theorem dX0_opens_5 : decode cX0_opens 5 = .ok (.if_icmp .lt 9, 3) := by decide +kernel
theorem dX0_opens_8 : decode cX0_opens 8 = .ok (.aload_n 0, 1) := by decide +kernel
theorem dX0_opens_9 : decode cX0_opens 9 = .ok (.invokevirtual 53, 3) := by decide +kernel
theorem dX0_opens_12 : decode cX0_opens 12 = .ok (.iconst 0, 1) := by decide +kernel
theorem dX0_opens_13 : decode cX0_opens 13 = .ok (.ireturn, 1) := by decide +kernel
theorem dX0_opens_14 : decode cX0_opens 14 = .ok (.aload_n 0, 1) := by decide +kernel
theorem dX0_opens_15 : decode cX0_opens 15 = .ok (.dup, 1) := by decide +kernel
theorem dX0_opens_16 : decode cX0_opens 16 = .ok (.getfield 31, 3) := by decide +kernel
theorem dX0_opens_19 : decode cX0_opens 19 = .ok (.iconst 1, 1) := by decide +kernel
theorem dX0_opens_20 : decode cX0_opens 20 = .ok (.iadd, 1) := by decide +kernel
theorem dX0_opens_21 : decode cX0_opens 21 = .ok (.putfield 31, 3) := by decide +kernel
theorem dX0_opens_24 : decode cX0_opens 24 = .ok (.aload_n 0, 1) := by decide +kernel
theorem dX0_opens_25 : decode cX0_opens 25 = .ok (.invokevirtual 37, 3) := by decide +kernel
theorem dX0_opens_28 : decode cX0_opens 28 = .ok (.iconst 1, 1) := by decide +kernel
theorem dX0_opens_29 : decode cX0_opens 29 = .ok (.ireturn, 1) := by decide +kernel
theorem dX0_next_0 : decode cX0_next 0 = .ok (.aload_n 0, 1) := by decide +kernel
theorem dX0_next_1 : decode cX0_next 1 = .ok (.getfield 28, 3) := by decide +kernel
theorem dX0_next_4 : decode cX0_next 4 = .ok (.aload_n 0, 1) := by decide +kernel
theorem dX0_next_5 : decode cX0_next 5 = .ok (.getfield 15, 3) := by decide +kernel
theorem dX0_next_8 : decode cX0_next 8 = .ok (.if_icmp .ge 44, 3) := by decide +kernel
theorem dX0_next_11 : decode cX0_next 11 = .ok (.aload_n 0, 1) := by decide +kernel
theorem dX0_next_12 : decode cX0_next 12 = .ok (.getfield 9, 3) := by decide +kernel
theorem dX0_next_15 : decode cX0_next 15 = .ok (.aload_n 0, 1) := by decide +kernel
theorem dX0_next_16 : decode cX0_next 16 = .ok (.getfield 28, 3) := by decide +kernel
theorem dX0_next_19 : decode cX0_next 19 = .ok (.iaload, 1) := by decide +kernel
theorem dX0_next_20 : decode cX0_next 20 = .ok (.bipush 32, 2) := by decide +kernel
theorem dX0_next_22 : decode cX0_next 22 = .ok (.if_icmp .eq 17, 3) := by decide +kernel
theorem dX0_next_25 : decode cX0_next 25 = .ok (.aload_n 0, 1) := by decide +kernel
theorem dX0_next_26 : decode cX0_next 26 = .ok (.getfield 9, 3) := by decide +kernel
theorem dX0_next_29 : decode cX0_next 29 = .ok (.aload_n 0, 1) := by decide +kernel
theorem dX0_next_30 : decode cX0_next 30 = .ok (.getfield 28, 3) := by decide +kernel
theorem dX0_next_33 : decode cX0_next 33 = .ok (.iaload, 1) := by decide +kernel
theorem dX0_next_34 : decode cX0_next 34 = .ok (.bipush 10, 2) := by decide +kernel
theorem dX0_next_36 : decode cX0_next 36 = .ok (.if_icmp .ne 16, 3) := by decide +kernel
theorem dX0_next_39 : decode cX0_next 39 = .ok (.aload_n 0, 1) := by decide +kernel
theorem dX0_next_40 : decode cX0_next 40 = .ok (.dup, 1) := by decide +kernel
theorem dX0_next_41 : decode cX0_next 41 = .ok (.getfield 28, 3) := by decide +kernel
theorem dX0_next_44 : decode cX0_next 44 = .ok (.iconst 1, 1) := by decide +kernel
theorem dX0_next_45 : decode cX0_next 45 = .ok (.iadd, 1) := by decide +kernel
theorem dX0_next_46 : decode cX0_next 46 = .ok (.putfield 28, 3) := by decide +kernel
theorem dX0_next_49 : decode cX0_next 49 = .ok (.goto (-49), 3) := by decide +kernel
theorem dX0_next_52 : decode cX0_next 52 = .ok (.aload_n 0, 1) := by decide +kernel
theorem dX0_next_53 : decode cX0_next 53 = .ok (.aload_n 0, 1) := by decide +kernel
theorem dX0_next_54 : decode cX0_next 54 = .ok (.getfield 28, 3) := by decide +kernel
theorem dX0_next_57 : decode cX0_next 57 = .ok (.putfield 56, 3) := by decide +kernel
theorem dX0_next_60 : decode cX0_next 60 = .ok (.aload_n 0, 1) := by decide +kernel
theorem dX0_next_61 : decode cX0_next 61 = .ok (.getfield 28, 3) := by decide +kernel
theorem dX0_next_64 : decode cX0_next 64 = .ok (.aload_n 0, 1) := by decide +kernel
theorem dX0_next_65 : decode cX0_next 65 = .ok (.getfield 15, 3) := by decide +kernel
theorem dX0_next_68 : decode cX0_next 68 = .ok (.if_icmp .lt 12, 3) := by decide +kernel
theorem dX0_next_71 : decode cX0_next 71 = .ok (.aload_n 0, 1) := by decide +kernel
theorem dX0_next_72 : decode cX0_next 72 = .ok (.bipush 13, 2) := by decide +kernel
theorem dX0_next_74 : decode cX0_next 74 = .ok (.putfield 50, 3) := by decide +kernel
theorem dX0_next_77 : decode cX0_next 77 = .ok (.goto 98, 3) := by decide +kernel
theorem dX0_next_80 : decode cX0_next 80 = .ok (.aload_n 0, 1) := by decide +kernel
theorem dX0_next_81 : decode cX0_next 81 = .ok (.getfield 9, 3) := by decide +kernel
theorem dX0_next_84 : decode cX0_next 84 = .ok (.aload_n 0, 1) := by decide +kernel
theorem dX0_next_85 : decode cX0_next 85 = .ok (.getfield 28, 3) := by decide +kernel
theorem dX0_next_88 : decode cX0_next 88 = .ok (.iaload, 1) := by decide +kernel
theorem dX0_next_89 : decode cX0_next 89 = .ok (.bipush 97, 2) := by decide +kernel
theorem dX0_next_91 : decode cX0_next 91 = .ok (.bipush 122, 2) := by decide +kernel
theorem dX0_next_93 : decode cX0_next 93 = .ok (.invokestatic 87, 3) := by decide +kernel
theorem dX0_next_96 : decode cX0_next 96 = .ok (.ifCond .eq 10, 3) := by decide +kernel
theorem dX0_next_99 : decode cX0_next 99 = .ok (.aload_n 0, 1) := by decide +kernel
theorem dX0_next_100 : decode cX0_next 100 = .ok (.invokevirtual 97, 3) := by decide +kernel
theorem dX0_next_103 : decode cX0_next 103 = .ok (.goto 72, 3) := by decide +kernel
theorem dX0_next_106 : decode cX0_next 106 = .ok (.aload_n 0, 1) := by decide +kernel
theorem dX0_next_107 : decode cX0_next 107 = .ok (.getfield 9, 3) := by decide +kernel
theorem dX0_next_110 : decode cX0_next 110 = .ok (.aload_n 0, 1) := by decide +kernel
theorem dX0_next_111 : decode cX0_next 111 = .ok (.getfield 28, 3) := by decide +kernel
theorem dX0_next_114 : decode cX0_next 114 = .ok (.iaload, 1) := by decide +kernel
theorem dX0_next_115 : decode cX0_next 115 = .ok (.bipush 48, 2) := by decide +kernel
theorem dX0_next_117 : decode cX0_next 117 = .ok (.bipush 57, 2) := by decide +kernel
theorem dX0_next_119 : decode cX0_next 119 = .ok (.invokestatic 87, 3) := by decide +kernel
theorem dX0_next_122 : decode cX0_next 122 = .ok (.ifCond .eq 10, 3) := by decide +kernel
theorem dX0_next_125 : decode cX0_next 125 = .ok (.aload_n 0, 1) := by decide +kernel
theorem dX0_next_126 : decode cX0_next 126 = .ok (.invokevirtual 100, 3) := by decide +kernel
theorem dX0_next_129 : decode cX0_next 129 = .ok (.goto 46, 3) := by decide +kernel
theorem dX0_next_132 : decode cX0_next 132 = .ok (.aload_n 0, 1) := by decide +kernel
theorem dX0_next_133 : decode cX0_next 133 = .ok (.aload_n 0, 1) := by decide +kernel
theorem dX0_next_134 : decode cX0_next 134 = .ok (.getfield 9, 3) := by decide +kernel
theorem dX0_next_137 : decode cX0_next 137 = .ok (.aload_n 0, 1) := by decide +kernel
theorem dX0_next_138 : decode cX0_next 138 = .ok (.getfield 28, 3) := by decide +kernel
theorem dX0_next_141 : decode cX0_next 141 = .ok (.iaload, 1) := by decide +kernel
theorem dX0_next_142 : decode cX0_next 142 = .ok (.invokestatic 103, 3) := by decide +kernel
theorem dX0_next_145 : decode cX0_next 145 = .ok (.ifCond .eq 15, 3) := by decide +kernel
theorem dX0_next_148 : decode cX0_next 148 = .ok (.aload_n 0, 1) := by decide +kernel
theorem dX0_next_149 : decode cX0_next 149 = .ok (.getfield 9, 3) := by decide +kernel
theorem dX0_next_152 : decode cX0_next 152 = .ok (.aload_n 0, 1) := by decide +kernel
theorem dX0_next_153 : decode cX0_next 153 = .ok (.getfield 28, 3) := by decide +kernel
theorem dX0_next_156 : decode cX0_next 156 = .ok (.iaload, 1) := by decide +kernel
theorem dX0_next_157 : decode cX0_next 157 = .ok (.goto 5, 3) := by decide +kernel
theorem dX0_next_160 : decode cX0_next 160 = .ok (.bipush 14, 2) := by decide +kernel
theorem dX0_next_162 : decode cX0_next 162 = .ok (.putfield 50, 3) := by decide +kernel
theorem dX0_next_165 : decode cX0_next 165 = .ok (.aload_n 0, 1) := by decide +kernel
theorem dX0_next_166 : decode cX0_next 166 = .ok (.dup, 1) := by decide +kernel
theorem dX0_next_167 : decode cX0_next 167 = .ok (.getfield 28, 3) := by decide +kernel
theorem dX0_next_170 : decode cX0_next 170 = .ok (.iconst 1, 1) := by decide +kernel
theorem dX0_next_171 : decode cX0_next 171 = .ok (.iadd, 1) := by decide +kernel
theorem dX0_next_172 : decode cX0_next 172 = .ok (.putfield 28, 3) := by decide +kernel
theorem dX0_next_175 : decode cX0_next 175 = .ok (.return_, 1) := by decide +kernel
theorem dX0_isSign_0 : decode cX0_isSign 0 = .ok (.iload_n 0, 1) := by decide +kernel
theorem dX0_isSign_1 : decode cX0_isSign 1 = .ok (.bipush 40, 2) := by decide +kernel
theorem dX0_isSign_3 : decode cX0_isSign 3 = .ok (.bipush 43, 2) := by decide +kernel
theorem dX0_isSign_5 : decode cX0_isSign 5 = .ok (.invokestatic 87, 3) := by decide +kernel
theorem dX0_isSign_8 : decode cX0_isSign 8 = .ok (.ifCond .ne 20, 3) := by decide +kernel
theorem dX0_isSign_11 : decode cX0_isSign 11 = .ok (.iload_n 0, 1) := by decide +kernel
theorem dX0_isSign_12 : decode cX0_isSign 12 = .ok (.bipush 45, 2) := by decide +kernel
theorem dX0_isSign_14 : decode cX0_isSign 14 = .ok (.if_icmp .eq 14, 3) := by decide +kernel
theorem dX0_isSign_17 : decode cX0_isSign 17 = .ok (.iload_n 0, 1) := by decide +kernel
theorem dX0_isSign_18 : decode cX0_isSign 18 = .ok (.bipush 59, 2) := by decide +kernel
theorem dX0_isSign_20 : decode cX0_isSign 20 = .ok (.bipush 61, 2) := by decide +kernel
theorem dX0_isSign_22 : decode cX0_isSign 22 = .ok (.invokestatic 87, 3) := by decide +kernel
theorem dX0_isSign_25 : decode cX0_isSign 25 = .ok (.ifCond .eq 7, 3) := by decide +kernel
theorem dX0_isSign_28 : decode cX0_isSign 28 = .ok (.iconst 1, 1) := by decide +kernel
theorem dX0_isSign_29 : decode cX0_isSign 29 = .ok (.goto 4, 3) := by decide +kernel
theorem dX0_isSign_32 : decode cX0_isSign 32 = .ok (.iconst 0, 1) := by decide +kernel
theorem dX0_isSign_33 : decode cX0_isSign 33 = .ok (.ireturn, 1) := by decide +kernel
theorem dX0_nextNumber_0 : decode cX0_nextNumber 0 = .ok (.aload_n 0, 1) := by decide +kernel
theorem dX0_nextNumber_1 : decode cX0_nextNumber 1 = .ok (.iconst 0, 1) := by decide +kernel
theorem dX0_nextNumber_2 : decode cX0_nextNumber 2 = .ok (.putfield 84, 3) := by decide +kernel
theorem dX0_nextNumber_5 : decode cX0_nextNumber 5 = .ok (.aload_n 0, 1) := by decide +kernel
theorem dX0_nextNumber_6 : decode cX0_nextNumber 6 = .ok (.getfield 28, 3) := by decide +kernel
theorem dX0_nextNumber_9 : decode cX0_nextNumber 9 = .ok (.aload_n 0, 1) := by decide +kernel
theorem dX0_nextNumber_10 : decode cX0_nextNumber 10 = .ok (.getfield 15, 3) := by decide +kernel
theorem dX0_nextNumber_13 : decode cX0_nextNumber 13 = .ok (.if_icmp .ge 72, 3) := by decide +kernel
theorem dX0_nextNumber_16 : decode cX0_nextNumber 16 = .ok (.aload_n 0, 1) := by decide +kernel
theorem dX0_nextNumber_17 : decode cX0_nextNumber 17 = .ok (.getfield 9, 3) := by decide +kernel
theorem dX0_nextNumber_20 : decode cX0_nextNumber 20 = .ok (.aload_n 0, 1) := by decide +kernel
theorem dX0_nextNumber_21 : decode cX0_nextNumber 21 = .ok (.getfield 28, 3) := by decide +kernel
theorem dX0_nextNumber_24 : decode cX0_nextNumber 24 = .ok (.iaload, 1) := by decide +kernel
theorem dX0_nextNumber_25 : decode cX0_nextNumber 25 = .ok (.bipush 48, 2) := by decide +kernel
theorem dX0_nextNumber_27 : decode cX0_nextNumber 27 = .ok (.bipush 57, 2) := by decide +kernel
theorem dX0_nextNumber_29 : decode cX0_nextNumber 29 = .ok (.invokestatic 87, 3) := by decide +kernel
theorem dX0_nextNumber_32 : decode cX0_nextNumber 32 = .ok (.ifCond .eq 53, 3) := by decide +kernel
theorem dX0_nextNumber_35 : decode cX0_nextNumber 35 = .ok (.aload_n 0, 1) := by decide +kernel
theorem dX0_nextNumber_36 : decode cX0_nextNumber 36 = .ok (.getfield 28, 3) := by decide +kernel
theorem dX0_nextNumber_39 : decode cX0_nextNumber 39 = .ok (.aload_n 0, 1) := by decide +kernel
theorem dX0_nextNumber_40 : decode cX0_nextNumber 40 = .ok (.getfield 56, 3) := by decide +kernel
theorem dX0_nextNumber_43 : decode cX0_nextNumber 43 = .ok (.isub, 1) := by decide +kernel
theorem dX0_nextNumber_44 : decode cX0_nextNumber 44 = .ok (.iconst 4, 1) := by decide +kernel
theorem dX0_nextNumber_45 : decode cX0_nextNumber 45 = .ok (.if_icmp .ge 27, 3) := by decide +kernel
theorem dX0_nextNumber_48 : decode cX0_nextNumber 48 = .ok (.aload_n 0, 1) := by decide +kernel
theorem dX0_nextNumber_49 : decode cX0_nextNumber 49 = .ok (.aload_n 0, 1) := by decide +kernel
theorem dX0_nextNumber_50 : decode cX0_nextNumber 50 = .ok (.getfield 84, 3) := by decide +kernel
theorem dX0_nextNumber_53 : decode cX0_nextNumber 53 = .ok (.bipush 10, 2) := by decide +kernel
theorem dX0_nextNumber_55 : decode cX0_nextNumber 55 = .ok (.imul, 1) := by decide +kernel
theorem dX0_nextNumber_56 : decode cX0_nextNumber 56 = .ok (.aload_n 0, 1) := by decide +kernel
theorem dX0_nextNumber_57 : decode cX0_nextNumber 57 = .ok (.getfield 9, 3) := by decide +kernel
theorem dX0_nextNumber_60 : decode cX0_nextNumber 60 = .ok (.aload_n 0, 1) := by decide +kernel
theorem dX0_nextNumber_61 : decode cX0_nextNumber 61 = .ok (.getfield 28, 3) := by decide +kernel
theorem dX0_nextNumber_64 : decode cX0_nextNumber 64 = .ok (.iaload, 1) := by decide +kernel
theorem dX0_nextNumber_65 : decode cX0_nextNumber 65 = .ok (.iadd, 1) := by decide +kernel
theorem dX0_nextNumber_66 : decode cX0_nextNumber 66 = .ok (.bipush 48, 2) := by decide +kernel
theorem dX0_nextNumber_68 : decode cX0_nextNumber 68 = .ok (.isub, 1) := by decide +kernel
theorem dX0_nextNumber_69 : decode cX0_nextNumber 69 = .ok (.putfield 84, 3) := by decide +kernel
theorem dX0_nextNumber_72 : decode cX0_nextNumber 72 = .ok (.aload_n 0, 1) := by decide +kernel
theorem dX0_nextNumber_73 : decode cX0_nextNumber 73 = .ok (.dup, 1) := by decide +kernel
theorem dX0_nextNumber_74 : decode cX0_nextNumber 74 = .ok (.getfield 28, 3) := by decide +kernel
theorem dX0_nextNumber_77 : decode cX0_nextNumber 77 = .ok (.iconst 1, 1) := by decide +kernel
theorem dX0_nextNumber_78 : decode cX0_nextNumber 78 = .ok (.iadd, 1) := by decide +kernel
theorem dX0_nextNumber_79 : decode cX0_nextNumber 79 = .ok (.putfield 28, 3) := by decide +kernel
theorem dX0_nextNumber_82 : decode cX0_nextNumber 82 = .ok (.goto (-77), 3) := by decide +kernel
theorem dX0_nextNumber_85 : decode cX0_nextNumber 85 = .ok (.aload_n 0, 1) := by decide +kernel
theorem dX0_nextNumber_86 : decode cX0_nextNumber 86 = .ok (.aload_n 0, 1) := by decide +kernel
theorem dX0_nextNumber_87 : decode cX0_nextNumber 87 = .ok (.getfield 28, 3) := by decide +kernel
theorem dX0_nextNumber_90 : decode cX0_nextNumber 90 = .ok (.aload_n 0, 1) := by decide +kernel
theorem dX0_nextNumber_91 : decode cX0_nextNumber 91 = .ok (.getfield 56, 3) := by decide +kernel
theorem dX0_nextNumber_94 : decode cX0_nextNumber 94 = .ok (.isub, 1) := by decide +kernel
theorem dX0_nextNumber_95 : decode cX0_nextNumber 95 = .ok (.iconst 4, 1) := by decide +kernel
theorem dX0_nextNumber_96 : decode cX0_nextNumber 96 = .ok (.if_icmp .le 8, 3) := by decide +kernel
theorem dX0_nextNumber_99 : decode cX0_nextNumber 99 = .ok (.bipush 14, 2) := by decide +kernel
theorem dX0_nextNumber_101 : decode cX0_nextNumber 101 = .ok (.goto 5, 3) := by decide +kernel
theorem dX0_nextNumber_104 : decode cX0_nextNumber 104 = .ok (.bipush 12, 2) := by decide +kernel
theorem dX0_nextNumber_106 : decode cX0_nextNumber 106 = .ok (.putfield 50, 3) := by decide +kernel
theorem dX0_nextNumber_109 : decode cX0_nextNumber 109 = .ok (.return_, 1) := by decide +kernel
theorem dX0_nextWord_0 : decode cX0_nextWord 0 = .ok (.aload_n 0, 1) := by decide +kernel
theorem dX0_nextWord_1 : decode cX0_nextWord 1 = .ok (.getfield 28, 3) := by decide +kernel
theorem dX0_nextWord_4 : decode cX0_nextWord 4 = .ok (.aload_n 0, 1) := by decide +kernel
theorem dX0_nextWord_5 : decode cX0_nextWord 5 = .ok (.getfield 15, 3) := by decide +kernel
theorem dX0_nextWord_8 : decode cX0_nextWord 8 = .ok (.if_icmp .ge 35, 3) := by decide +kernel
theorem dX0_nextWord_11 : decode cX0_nextWord 11 = .ok (.aload_n 0, 1) := by decide +kernel
theorem dX0_nextWord_12 : decode cX0_nextWord 12 = .ok (.getfield 9, 3) := by decide +kernel
theorem dX0_nextWord_15 : decode cX0_nextWord 15 = .ok (.aload_n 0, 1) := by decide +kernel
theorem dX0_nextWord_16 : decode cX0_nextWord 16 = .ok (.getfield 28, 3) := by decide +kernel
theorem dX0_nextWord_19 : decode cX0_nextWord 19 = .ok (.iaload, 1) := by decide +kernel
theorem dX0_nextWord_20 : decode cX0_nextWord 20 = .ok (.bipush 97, 2) := by decide +kernel
theorem dX0_nextWord_22 : decode cX0_nextWord 22 = .ok (.bipush 122, 2) := by decide +kernel
theorem dX0_nextWord_24 : decode cX0_nextWord 24 = .ok (.invokestatic 87, 3) := by decide +kernel
theorem dX0_nextWord_27 : decode cX0_nextWord 27 = .ok (.ifCond .eq 16, 3) := by decide +kernel
theorem dX0_nextWord_30 : decode cX0_nextWord 30 = .ok (.aload_n 0, 1) := by decide +kernel
theorem dX0_nextWord_31 : decode cX0_nextWord 31 = .ok (.dup, 1) := by decide +kernel
theorem dX0_nextWord_32 : decode cX0_nextWord 32 = .ok (.getfield 28, 3) := by decide +kernel
theorem dX0_nextWord_35 : decode cX0_nextWord 35 = .ok (.iconst 1, 1) := by decide +kernel
theorem dX0_nextWord_36 : decode cX0_nextWord 36 = .ok (.iadd, 1) := by decide +kernel
theorem dX0_nextWord_37 : decode cX0_nextWord 37 = .ok (.putfield 28, 3) := by decide +kernel
theorem dX0_nextWord_40 : decode cX0_nextWord 40 = .ok (.goto (-40), 3) := by decide +kernel
theorem dX0_nextWord_43 : decode cX0_nextWord 43 = .ok (.aload_n 0, 1) := by decide +kernel
theorem dX0_nextWord_44 : decode cX0_nextWord 44 = .ok (.bipush 14, 2) := by decide +kernel
theorem dX0_nextWord_46 : decode cX0_nextWord 46 = .ok (.putfield 50, 3) := by decide +kernel
theorem dX0_nextWord_49 : decode cX0_nextWord 49 = .ok (.iconst 0, 1) := by decide +kernel
theorem dX0_nextWord_50 : decode cX0_nextWord 50 = .ok (.istore_n 1, 1) := by decide +kernel
theorem dX0_nextWord_51 : decode cX0_nextWord 51 = .ok (.aload_n 0, 1) := by decide +kernel
theorem dX0_nextWord_52 : decode cX0_nextWord 52 = .ok (.getfield 56, 3) := by decide +kernel
theorem dX0_nextWord_55 : decode cX0_nextWord 55 = .ok (.istore_n 2, 1) := by decide +kernel
theorem dX0_nextWord_56 : decode cX0_nextWord 56 = .ok (.iconst 1, 1) := by decide +kernel
theorem dX0_nextWord_57 : decode cX0_nextWord 57 = .ok (.istore_n 3, 1) := by decide +kernel
theorem dX0_nextWord_58 : decode cX0_nextWord 58 = .ok (.iconst 0, 1) := by decide +kernel
theorem dX0_nextWord_59 : decode cX0_nextWord 59 = .ok (.istore 4, 2) := by decide +kernel
theorem dX0_nextWord_61 : decode cX0_nextWord 61 = .ok (.iload 4, 2) := by decide +kernel
theorem dX0_nextWord_63 : decode cX0_nextWord 63 = .ok (.ldc 107, 2) := by decide +kernel
theorem dX0_nextWord_65 : decode cX0_nextWord 65 = .ok (.invokevirtual 109, 3) := by decide +kernel
theorem dX0_nextWord_68 : decode cX0_nextWord 68 = .ok (.if_icmp .ge 88, 3) := by decide +kernel
theorem dX0_nextWord_71 : decode cX0_nextWord 71 = .ok (.ldc 107, 2) := by decide +kernel
theorem dX0_nextWord_73 : decode cX0_nextWord 73 = .ok (.iload 4, 2) := by decide +kernel
theorem dX0_nextWord_75 : decode cX0_nextWord 75 = .ok (.invokevirtual 115, 3) := by decide +kernel
theorem dX0_nextWord_78 : decode cX0_nextWord 78 = .ok (.bipush 32, 2) := by decide +kernel
theorem dX0_nextWord_80 : decode cX0_nextWord 80 = .ok (.if_icmp .eq 43, 3) := by decide +kernel
theorem dX0_nextWord_83 : decode cX0_nextWord 83 = .ok (.iload_n 3, 1) := by decide +kernel
theorem dX0_nextWord_84 : decode cX0_nextWord 84 = .ok (.ifCond .eq 31, 3) := by decide +kernel
theorem dX0_nextWord_87 : decode cX0_nextWord 87 = .ok (.iload_n 2, 1) := by decide +kernel
theorem dX0_nextWord_88 : decode cX0_nextWord 88 = .ok (.aload_n 0, 1) := by decide +kernel
theorem dX0_nextWord_89 : decode cX0_nextWord 89 = .ok (.getfield 28, 3) := by decide +kernel
theorem dX0_nextWord_92 : decode cX0_nextWord 92 = .ok (.if_icmp .ge 23, 3) := by decide +kernel
theorem dX0_nextWord_95 : decode cX0_nextWord 95 = .ok (.aload_n 0, 1) := by decide +kernel
theorem dX0_nextWord_96 : decode cX0_nextWord 96 = .ok (.getfield 9, 3) := by decide +kernel
theorem dX0_nextWord_99 : decode cX0_nextWord 99 = .ok (.iload_n 2, 1) := by decide +kernel
theorem dX0_nextWord_100 : decode cX0_nextWord 100 = .ok (.iaload, 1) := by decide +kernel
theorem dX0_nextWord_101 : decode cX0_nextWord 101 = .ok (.ldc 107, 2) := by decide +kernel
theorem dX0_nextWord_103 : decode cX0_nextWord 103 = .ok (.iload 4, 2) := by decide +kernel
theorem dX0_nextWord_105 : decode cX0_nextWord 105 = .ok (.invokevirtual 115, 3) := by decide +kernel
theorem dX0_nextWord_108 : decode cX0_nextWord 108 = .ok (.if_icmp .ne 7, 3) := by decide +kernel
theorem dX0_nextWord_111 : decode cX0_nextWord 111 = .ok (.iconst 1, 1) := by decide +kernel
theorem dX0_nextWord_112 : decode cX0_nextWord 112 = .ok (.goto 4, 3) := by decide +kernel
theorem dX0_nextWord_115 : decode cX0_nextWord 115 = .ok (.iconst 0, 1) := by decide +kernel
theorem dX0_nextWord_116 : decode cX0_nextWord 116 = .ok (.istore_n 3, 1) := by decide +kernel
theorem dX0_nextWord_117 : decode cX0_nextWord 117 = .ok (.iinc 2 1, 3) := by decide +kernel
theorem dX0_nextWord_120 : decode cX0_nextWord 120 = .ok (.goto 30, 3) := by decide +kernel
theorem dX0_nextWord_123 : decode cX0_nextWord 123 = .ok (.iload_n 3, 1) := by decide +kernel
theorem dX0_nextWord_124 : decode cX0_nextWord 124 = .ok (.ifCond .eq 16, 3) := by decide +kernel
theorem dX0_nextWord_127 : decode cX0_nextWord 127 = .ok (.iload_n 2, 1) := by decide +kernel
theorem dX0_nextWord_128 : decode cX0_nextWord 128 = .ok (.aload_n 0, 1) := by decide +kernel
theorem dX0_nextWord_129 : decode cX0_nextWord 129 = .ok (.getfield 28, 3) := by decide +kernel
theorem dX0_nextWord_132 : decode cX0_nextWord 132 = .ok (.if_icmp .ne 8, 3) := by decide +kernel
theorem dX0_nextWord_135 : decode cX0_nextWord 135 = .ok (.aload_n 0, 1) := by decide +kernel
theorem dX0_nextWord_136 : decode cX0_nextWord 136 = .ok (.iload_n 1, 1) := by decide +kernel
theorem dX0_nextWord_137 : decode cX0_nextWord 137 = .ok (.putfield 50, 3) := by decide +kernel
theorem dX0_nextWord_140 : decode cX0_nextWord 140 = .ok (.iinc 1 1, 3) := by decide +kernel
theorem dX0_nextWord_143 : decode cX0_nextWord 143 = .ok (.aload_n 0, 1) := by decide +kernel
theorem dX0_nextWord_144 : decode cX0_nextWord 144 = .ok (.getfield 56, 3) := by decide +kernel
theorem dX0_nextWord_147 : decode cX0_nextWord 147 = .ok (.istore_n 2, 1) := by decide +kernel
theorem dX0_nextWord_148 : decode cX0_nextWord 148 = .ok (.iconst 1, 1) := by decide +kernel
theorem dX0_nextWord_149 : decode cX0_nextWord 149 = .ok (.istore_n 3, 1) := by decide +kernel
theorem dX0_nextWord_150 : decode cX0_nextWord 150 = .ok (.iinc 4 1, 3) := by decide +kernel
theorem dX0_nextWord_153 : decode cX0_nextWord 153 = .ok (.goto (-92), 3) := by decide +kernel
theorem dX0_nextWord_156 : decode cX0_nextWord 156 = .ok (.return_, 1) := by decide +kernel
theorem dX1_init_0 : decode cX1_init 0 = .ok (.aload_n 0, 1) := by decide +kernel
theorem dX1_init_1 : decode cX1_init 1 = .ok (.invokespecial 3, 3) := by decide +kernel
theorem dX1_init_4 : decode cX1_init 4 = .ok (.aload_n 0, 1) := by decide +kernel
theorem dX1_init_5 : decode cX1_init 5 = .ok (.iconst (-1), 1) := by decide +kernel
theorem dX1_init_6 : decode cX1_init 6 = .ok (.putfield 9, 3) := by decide +kernel
theorem dX1_init_9 : decode cX1_init 9 = .ok (.aload_n 0, 1) := by decide +kernel
theorem dX1_init_10 : decode cX1_init 10 = .ok (.bipush 40, 2) := by decide +kernel
theorem dX1_init_12 : decode cX1_init 12 = .ok (.newarray .int, 2) := by decide +kernel
theorem dX1_init_14 : decode cX1_init 14 = .ok (.putfield 15, 3) := by decide +kernel
theorem dX1_init_17 : decode cX1_init 17 = .ok (.return_, 1) := by decide +kernel
theorem dX1_isMissing_0 : decode cX1_isMissing 0 = .ok (.aload_n 0, 1) := by decide +kernel
theorem dX1_isMissing_1 : decode cX1_isMissing 1 = .ok (.getfield 9, 3) := by decide +kernel
theorem dX1_isMissing_4 : decode cX1_isMissing 4 = .ok (.iconst (-1), 1) := by decide +kernel
theorem dX1_isMissing_5 : decode cX1_isMissing 5 = .ok (.if_icmp .ne 7, 3) := by decide +kernel
theorem dX1_isMissing_8 : decode cX1_isMissing 8 = .ok (.iconst 1, 1) := by decide +kernel
theorem dX1_isMissing_9 : decode cX1_isMissing 9 = .ok (.goto 4, 3) := by decide +kernel
theorem dX1_isMissing_12 : decode cX1_isMissing 12 = .ok (.iconst 0, 1) := by decide +kernel
theorem dX1_isMissing_13 : decode cX1_isMissing 13 = .ok (.ireturn, 1) := by decide +kernel
theorem dX1_becomes_0 : decode cX1_becomes 0 = .ok (.aload_n 0, 1) := by decide +kernel
theorem dX1_becomes_1 : decode cX1_becomes 1 = .ok (.iload_n 1, 1) := by decide +kernel
theorem dX1_becomes_2 : decode cX1_becomes 2 = .ok (.putfield 9, 3) := by decide +kernel
theorem dX1_becomes_5 : decode cX1_becomes 5 = .ok (.aload_n 0, 1) := by decide +kernel
theorem dX1_becomes_6 : decode cX1_becomes 6 = .ok (.iconst 0, 1) := by decide +kernel
theorem dX1_becomes_7 : decode cX1_becomes 7 = .ok (.bipush 40, 2) := by decide +kernel
theorem dX1_becomes_9 : decode cX1_becomes 9 = .ok (.iload_n 2, 1) := by decide +kernel
theorem dX1_becomes_10 : decode cX1_becomes 10 = .ok (.invokestatic 19, 3) := by decide +kernel
theorem dX1_becomes_13 : decode cX1_becomes 13 = .ok (.invokestatic 25, 3) := by decide +kernel
theorem dX1_becomes_16 : decode cX1_becomes 16 = .ok (.putfield 28, 3) := by decide +kernel
theorem dX1_becomes_19 : decode cX1_becomes 19 = .ok (.iconst 0, 1) := by decide +kernel
theorem dX1_becomes_20 : decode cX1_becomes 20 = .ok (.istore_n 3, 1) := by decide +kernel
theorem dX1_becomes_21 : decode cX1_becomes 21 = .ok (.iload_n 3, 1) := by decide +kernel
theorem dX1_becomes_22 : decode cX1_becomes 22 = .ok (.bipush 40, 2) := by decide +kernel
theorem dX1_becomes_24 : decode cX1_becomes 24 = .ok (.if_icmp .ge 16, 3) := by decide +kernel
theorem dX1_becomes_27 : decode cX1_becomes 27 = .ok (.aload_n 0, 1) := by decide +kernel
theorem dX1_becomes_28 : decode cX1_becomes 28 = .ok (.getfield 15, 3) := by decide +kernel
theorem dX1_becomes_31 : decode cX1_becomes 31 = .ok (.iload_n 3, 1) := by decide +kernel
theorem dX1_becomes_32 : decode cX1_becomes 32 = .ok (.iconst 0, 1) := by decide +kernel
theorem dX1_becomes_33 : decode cX1_becomes 33 = .ok (.iastore, 1) := by decide +kernel
theorem dX1_becomes_34 : decode cX1_becomes 34 = .ok (.iinc 3 1, 3) := by decide +kernel
theorem dX1_becomes_37 : decode cX1_becomes 37 = .ok (.goto (-16), 3) := by decide +kernel
theorem dX1_becomes_40 : decode cX1_becomes 40 = .ok (.return_, 1) := by decide +kernel
theorem dX1_holds_0 : decode cX1_holds 0 = .ok (.iload_n 2, 1) := by decide +kernel
theorem dX1_holds_1 : decode cX1_holds 1 = .ok (.iconst 0, 1) := by decide +kernel
theorem dX1_holds_2 : decode cX1_holds 2 = .ok (.aload_n 0, 1) := by decide +kernel
theorem dX1_holds_3 : decode cX1_holds 3 = .ok (.getfield 28, 3) := by decide +kernel
theorem dX1_holds_6 : decode cX1_holds 6 = .ok (.invokestatic 31, 3) := by decide +kernel
theorem dX1_holds_9 : decode cX1_holds 9 = .ok (.ifCond .eq 21, 3) := by decide +kernel
theorem dX1_holds_12 : decode cX1_holds 12 = .ok (.iload_n 1, 1) := by decide +kernel
theorem dX1_holds_13 : decode cX1_holds 13 = .ok (.iconst 0, 1) := by decide +kernel
theorem dX1_holds_14 : decode cX1_holds 14 = .ok (.aload_n 0, 1) := by decide +kernel
theorem dX1_holds_15 : decode cX1_holds 15 = .ok (.getfield 28, 3) := by decide +kernel
theorem dX1_holds_18 : decode cX1_holds 18 = .ok (.iload_n 2, 1) := by decide +kernel
theorem dX1_holds_19 : decode cX1_holds 19 = .ok (.isub, 1) := by decide +kernel
theorem dX1_holds_20 : decode cX1_holds 20 = .ok (.invokestatic 31, 3) := by decide +kernel
theorem dX1_holds_23 : decode cX1_holds 23 = .ok (.ifCond .eq 7, 3) := by decide +kernel
theorem dX1_holds_26 : decode cX1_holds 26 = .ok (.iconst 1, 1) := by decide +kernel
theorem dX1_holds_27 : decode cX1_holds 27 = .ok (.goto 4, 3) := by decide +kernel
theorem dX1_holds_30 : decode cX1_holds 30 = .ok (.iconst 0, 1) := by decide +kernel
theorem dX1_holds_31 : decode cX1_holds 31 = .ok (.ireturn, 1) := by decide +kernel
theorem dX1_put_0 : decode cX1_put 0 = .ok (.aload_n 0, 1) := by decide +kernel
theorem dX1_put_1 : decode cX1_put 1 = .ok (.iload_n 1, 1) := by decide +kernel
theorem dX1_put_2 : decode cX1_put 2 = .ok (.iconst 1, 1) := by decide +kernel
theorem dX1_put_3 : decode cX1_put 3 = .ok (.invokevirtual 35, 3) := by decide +kernel
theorem dX1_put_6 : decode cX1_put 6 = .ok (.ifCond .eq 35, 3) := by decide +kernel
theorem dX1_put_9 : decode cX1_put 9 = .ok (.aload_n 0, 1) := by decide +kernel
theorem dX1_put_10 : decode cX1_put 10 = .ok (.getfield 15, 3) := by decide +kernel
theorem dX1_put_13 : decode cX1_put 13 = .ok (.iload_n 1, 1) := by decide +kernel
theorem dX1_put_14 : decode cX1_put 14 = .ok (.aload_n 0, 1) := by decide +kernel
theorem dX1_put_15 : decode cX1_put 15 = .ok (.getfield 9, 3) := by decide +kernel
theorem dX1_put_18 : decode cX1_put 18 = .ok (.ifCond .ne 8, 3) := by decide +kernel
theorem dX1_put_21 : decode cX1_put 21 = .ok (.iload_n 2, 1) := by decide +kernel
theorem dX1_put_22 : decode cX1_put 22 = .ok (.i2b, 1) := by decide +kernel
theorem dX1_put_23 : decode cX1_put 23 = .ok (.goto 17, 3) := by decide +kernel
theorem dX1_put_26 : decode cX1_put 26 = .ok (.aload_n 0, 1) := by decide +kernel
theorem dX1_put_27 : decode cX1_put 27 = .ok (.getfield 9, 3) := by decide +kernel
theorem dX1_put_30 : decode cX1_put 30 = .ok (.iconst 1, 1) := by decide +kernel
theorem dX1_put_31 : decode cX1_put 31 = .ok (.if_icmp .ne 8, 3) := by decide +kernel
theorem dX1_put_34 : decode cX1_put 34 = .ok (.iload_n 2, 1) := by decide +kernel
theorem dX1_put_35 : decode cX1_put 35 = .ok (.i2s, 1) := by decide +kernel
theorem dX1_put_36 : decode cX1_put 36 = .ok (.goto 4, 3) := by decide +kernel
theorem dX1_put_39 : decode cX1_put 39 = .ok (.iload_n 2, 1) := by decide +kernel
theorem dX1_put_40 : decode cX1_put 40 = .ok (.iastore, 1) := by decide +kernel
theorem dX1_put_41 : decode cX1_put 41 = .ok (.return_, 1) := by decide +kernel
theorem dX2_init_0 : decode cX2_init 0 = .ok (.aload_n 0, 1) := by decide +kernel
theorem dX2_init_1 : decode cX2_init 1 = .ok (.invokespecial 3, 3) := by decide +kernel
theorem dX2_init_4 : decode cX2_init 4 = .ok (.aload_n 0, 1) := by decide +kernel
theorem dX2_init_5 : decode cX2_init 5 = .ok (.bipush 10, 2) := by decide +kernel
theorem dX2_init_7 : decode cX2_init 7 = .ok (.newarray .int, 2) := by decide +kernel
theorem dX2_init_9 : decode cX2_init 9 = .ok (.putfield 9, 3) := by decide +kernel
theorem dX2_init_12 : decode cX2_init 12 = .ok (.aload_n 0, 1) := by decide +kernel
theorem dX2_init_13 : decode cX2_init 13 = .ok (.bipush 10, 2) := by decide +kernel
theorem dX2_init_15 : decode cX2_init 15 = .ok (.newarray .int, 2) := by decide +kernel
theorem dX2_init_17 : decode cX2_init 17 = .ok (.putfield 15, 3) := by decide +kernel
theorem dX2_init_20 : decode cX2_init 20 = .ok (.aload_n 0, 1) := by decide +kernel
theorem dX2_init_21 : decode cX2_init 21 = .ok (.iconst 5, 1) := by decide +kernel
theorem dX2_init_22 : decode cX2_init 22 = .ok (.newarray .int, 2) := by decide +kernel
theorem dX2_init_24 : decode cX2_init 24 = .ok (.putfield 18, 3) := by decide +kernel
theorem dX2_init_27 : decode cX2_init 27 = .ok (.aload_n 0, 1) := by decide +kernel
theorem dX2_init_28 : decode cX2_init 28 = .ok (.iconst 5, 1) := by decide +kernel
theorem dX2_init_29 : decode cX2_init 29 = .ok (.newarray .int, 2) := by decide +kernel
theorem dX2_init_31 : decode cX2_init 31 = .ok (.putfield 21, 3) := by decide +kernel
theorem dX2_init_34 : decode cX2_init 34 = .ok (.aload_n 0, 1) := by decide +kernel
theorem dX2_init_35 : decode cX2_init 35 = .ok (.iconst 5, 1) := by decide +kernel
theorem dX2_init_36 : decode cX2_init 36 = .ok (.newarray .int, 2) := by decide +kernel
theorem dX2_init_38 : decode cX2_init 38 = .ok (.putfield 24, 3) := by decide +kernel
theorem dX2_init_41 : decode cX2_init 41 = .ok (.aload_n 0, 1) := by decide +kernel
theorem dX2_init_42 : decode cX2_init 42 = .ok (.iconst 5, 1) := by decide +kernel
theorem dX2_init_43 : decode cX2_init 43 = .ok (.newarray .int, 2) := by decide +kernel
theorem dX2_init_45 : decode cX2_init 45 = .ok (.putfield 27, 3) := by decide +kernel
theorem dX2_init_48 : decode cX2_init 48 = .ok (.aload_n 0, 1) := by decide +kernel
theorem dX2_init_49 : decode cX2_init 49 = .ok (.bipush 20, 2) := by decide +kernel
theorem dX2_init_51 : decode cX2_init 51 = .ok (.putfield 30, 3) := by decide +kernel
theorem dX2_init_54 : decode cX2_init 54 = .ok (.aload_n 0, 1) := by decide +kernel
theorem dX2_init_55 : decode cX2_init 55 = .ok (.bipush 6, 2) := by decide +kernel
theorem dX2_init_57 : decode cX2_init 57 = .ok (.newarray .int, 2) := by decide +kernel
theorem dX2_init_59 : decode cX2_init 59 = .ok (.putfield 34, 3) := by decide +kernel
theorem dX2_init_62 : decode cX2_init 62 = .ok (.aload_n 0, 1) := by decide +kernel
theorem dX2_init_63 : decode cX2_init 63 = .ok (.aload_n 1, 1) := by decide +kernel
theorem dX2_init_64 : decode cX2_init 64 = .ok (.putfield 37, 3) := by decide +kernel
theorem dX2_init_67 : decode cX2_init 67 = .ok (.iconst 0, 1) := by decide +kernel
theorem dX2_init_68 : decode cX2_init 68 = .ok (.istore_n 2, 1) := by decide +kernel
theorem dX2_init_69 : decode cX2_init 69 = .ok (.iload_n 2, 1) := by decide +kernel
theorem dX2_init_70 : decode cX2_init 70 = .ok (.bipush 10, 2) := by decide +kernel
theorem dX2_init_72 : decode cX2_init 72 = .ok (.if_icmp .ge 16, 3) := by decide +kernel
theorem dX2_init_75 : decode cX2_init 75 = .ok (.aload_n 0, 1) := by decide +kernel
theorem dX2_init_76 : decode cX2_init 76 = .ok (.getfield 9, 3) := by decide +kernel
theorem dX2_init_79 : decode cX2_init 79 = .ok (.iload_n 2, 1) := by decide +kernel
theorem dX2_init_80 : decode cX2_init 80 = .ok (.iconst (-1), 1) := by decide +kernel
theorem dX2_init_81 : decode cX2_init 81 = .ok (.iastore, 1) := by decide +kernel
theorem dX2_init_82 : decode cX2_init 82 = .ok (.iinc 2 1, 3) := by decide +kernel
theorem dX2_init_85 : decode cX2_init 85 = .ok (.goto (-16), 3) := by decide +kernel
theorem dX2_init_88 : decode cX2_init 88 = .ok (.return_, 1) := by decide +kernel
theorem dX2_becomes_0 : decode cX2_becomes 0 = .ok (.aload_n 1, 1) := by decide +kernel
theorem dX2_becomes_1 : decode cX2_becomes 1 = .ok (.getfield 9, 3) := by decide +kernel
theorem dX2_becomes_4 : decode cX2_becomes 4 = .ok (.iconst 0, 1) := by decide +kernel
theorem dX2_becomes_5 : decode cX2_becomes 5 = .ok (.aload_n 0, 1) := by decide +kernel
theorem dX2_becomes_6 : decode cX2_becomes 6 = .ok (.getfield 9, 3) := by decide +kernel
theorem dX2_becomes_9 : decode cX2_becomes 9 = .ok (.iconst 0, 1) := by decide +kernel
theorem dX2_becomes_10 : decode cX2_becomes 10 = .ok (.bipush 10, 2) := by decide +kernel
theorem dX2_becomes_12 : decode cX2_becomes 12 = .ok (.invokestatic 41, 3) := by decide +kernel
theorem dX2_becomes_15 : decode cX2_becomes 15 = .ok (.aload_n 1, 1) := by decide +kernel
theorem dX2_becomes_16 : decode cX2_becomes 16 = .ok (.getfield 15, 3) := by decide +kernel
theorem dX2_becomes_19 : decode cX2_becomes 19 = .ok (.iconst 0, 1) := by decide +kernel
theorem dX2_becomes_20 : decode cX2_becomes 20 = .ok (.aload_n 0, 1) := by decide +kernel
theorem dX2_becomes_21 : decode cX2_becomes 21 = .ok (.getfield 15, 3) := by decide +kernel
theorem dX2_becomes_24 : decode cX2_becomes 24 = .ok (.iconst 0, 1) := by decide +kernel
theorem dX2_becomes_25 : decode cX2_becomes 25 = .ok (.bipush 10, 2) := by decide +kernel
theorem dX2_becomes_27 : decode cX2_becomes 27 = .ok (.invokestatic 41, 3) := by decide +kernel
theorem dX2_becomes_30 : decode cX2_becomes 30 = .ok (.aload_n 0, 1) := by decide +kernel
theorem dX2_becomes_31 : decode cX2_becomes 31 = .ok (.aload_n 1, 1) := by decide +kernel
theorem dX2_becomes_32 : decode cX2_becomes 32 = .ok (.getfield 47, 3) := by decide +kernel
theorem dX2_becomes_35 : decode cX2_becomes 35 = .ok (.putfield 47, 3) := by decide +kernel
theorem dX2_becomes_38 : decode cX2_becomes 38 = .ok (.aload_n 1, 1) := by decide +kernel
theorem dX2_becomes_39 : decode cX2_becomes 39 = .ok (.getfield 18, 3) := by decide +kernel
theorem dX2_becomes_42 : decode cX2_becomes 42 = .ok (.iconst 0, 1) := by decide +kernel
theorem dX2_becomes_43 : decode cX2_becomes 43 = .ok (.aload_n 0, 1) := by decide +kernel
theorem dX2_becomes_44 : decode cX2_becomes 44 = .ok (.getfield 18, 3) := by decide +kernel
theorem dX2_becomes_47 : decode cX2_becomes 47 = .ok (.iconst 0, 1) := by decide +kernel
theorem dX2_becomes_48 : decode cX2_becomes 48 = .ok (.iconst 5, 1) := by decide +kernel
theorem dX2_becomes_49 : decode cX2_becomes 49 = .ok (.invokestatic 41, 3) := by decide +kernel
theorem dX2_becomes_52 : decode cX2_becomes 52 = .ok (.aload_n 1, 1) := by decide +kernel
theorem dX2_becomes_53 : decode cX2_becomes 53 = .ok (.getfield 21, 3) := by decide +kernel
theorem dX2_becomes_56 : decode cX2_becomes 56 = .ok (.iconst 0, 1) := by decide +kernel
theorem dX2_becomes_57 : decode cX2_becomes 57 = .ok (.aload_n 0, 1) := by decide +kernel
theorem dX2_becomes_58 : decode cX2_becomes 58 = .ok (.getfield 21, 3) := by decide +kernel
theorem dX2_becomes_61 : decode cX2_becomes 61 = .ok (.iconst 0, 1) := by decide +kernel
theorem dX2_becomes_62 : decode cX2_becomes 62 = .ok (.iconst 5, 1) := by decide +kernel
theorem dX2_becomes_63 : decode cX2_becomes 63 = .ok (.invokestatic 41, 3) := by decide +kernel
theorem dX2_becomes_66 : decode cX2_becomes 66 = .ok (.aload_n 1, 1) := by decide +kernel
theorem dX2_becomes_67 : decode cX2_becomes 67 = .ok (.getfield 24, 3) := by decide +kernel
theorem dX2_becomes_70 : decode cX2_becomes 70 = .ok (.iconst 0, 1) := by decide +kernel
theorem dX2_becomes_71 : decode cX2_becomes 71 = .ok (.aload_n 0, 1) := by decide +kernel
theorem dX2_becomes_72 : decode cX2_becomes 72 = .ok (.getfield 24, 3) := by decide +kernel
theorem dX2_becomes_75 : decode cX2_becomes 75 = .ok (.iconst 0, 1) := by decide +kernel
theorem dX2_becomes_76 : decode cX2_becomes 76 = .ok (.iconst 5, 1) := by decide +kernel
theorem dX2_becomes_77 : decode cX2_becomes 77 = .ok (.invokestatic 41, 3) := by decide +kernel
theorem dX2_becomes_80 : decode cX2_becomes 80 = .ok (.aload_n 1, 1) := by decide +kernel
theorem dX2_becomes_81 : decode cX2_becomes 81 = .ok (.getfield 27, 3) := by decide +kernel
theorem dX2_becomes_84 : decode cX2_becomes 84 = .ok (.iconst 0, 1) := by decide +kernel
theorem dX2_becomes_85 : decode cX2_becomes 85 = .ok (.aload_n 0, 1) := by decide +kernel
theorem dX2_becomes_86 : decode cX2_becomes 86 = .ok (.getfield 27, 3) := by decide +kernel
theorem dX2_becomes_89 : decode cX2_becomes 89 = .ok (.iconst 0, 1) := by decide +kernel
theorem dX2_becomes_90 : decode cX2_becomes 90 = .ok (.iconst 5, 1) := by decide +kernel
theorem dX2_becomes_91 : decode cX2_becomes 91 = .ok (.invokestatic 41, 3) := by decide +kernel
theorem dX2_becomes_94 : decode cX2_becomes 94 = .ok (.aload_n 0, 1) := by decide +kernel
theorem dX2_becomes_95 : decode cX2_becomes 95 = .ok (.aload_n 1, 1) := by decide +kernel
theorem dX2_becomes_96 : decode cX2_becomes 96 = .ok (.getfield 50, 3) := by decide +kernel
theorem dX2_becomes_99 : decode cX2_becomes 99 = .ok (.putfield 50, 3) := by decide +kernel
theorem dX2_becomes_102 : decode cX2_becomes 102 = .ok (.aload_n 0, 1) := by decide +kernel
theorem dX2_becomes_103 : decode cX2_becomes 103 = .ok (.aload_n 1, 1) := by decide +kernel
theorem dX2_becomes_104 : decode cX2_becomes 104 = .ok (.getfield 30, 3) := by decide +kernel
theorem dX2_becomes_107 : decode cX2_becomes 107 = .ok (.putfield 30, 3) := by decide +kernel
theorem dX2_becomes_110 : decode cX2_becomes 110 = .ok (.aload_n 0, 1) := by decide +kernel
theorem dX2_becomes_111 : decode cX2_becomes 111 = .ok (.aload_n 1, 1) := by decide +kernel
theorem dX2_becomes_112 : decode cX2_becomes 112 = .ok (.getfield 53, 3) := by decide +kernel
theorem dX2_becomes_115 : decode cX2_becomes 115 = .ok (.putfield 53, 3) := by decide +kernel
theorem dX2_becomes_118 : decode cX2_becomes 118 = .ok (.aload_n 0, 1) := by decide +kernel
theorem dX2_becomes_119 : decode cX2_becomes 119 = .ok (.aload_n 1, 1) := by decide +kernel
theorem dX2_becomes_120 : decode cX2_becomes 120 = .ok (.getfield 37, 3) := by decide +kernel
theorem dX2_becomes_123 : decode cX2_becomes 123 = .ok (.putfield 37, 3) := by decide +kernel
theorem dX2_becomes_126 : decode cX2_becomes 126 = .ok (.return_, 1) := by decide +kernel
theorem dX2_has_0 : decode cX2_has 0 = .ok (.iload_n 1, 1) := by decide +kernel
theorem dX2_has_1 : decode cX2_has 1 = .ok (.iconst 0, 1) := by decide +kernel
theorem dX2_has_2 : decode cX2_has 2 = .ok (.aload_n 0, 1) := by decide +kernel
theorem dX2_has_3 : decode cX2_has 3 = .ok (.getfield 47, 3) := by decide +kernel
theorem dX2_has_6 : decode cX2_has 6 = .ok (.iconst 1, 1) := by decide +kernel
theorem dX2_has_7 : decode cX2_has 7 = .ok (.isub, 1) := by decide +kernel
theorem dX2_has_8 : decode cX2_has 8 = .ok (.invokestatic 56, 3) := by decide +kernel
theorem dX2_has_11 : decode cX2_has 11 = .ok (.ireturn, 1) := by decide +kernel
theorem dX2_isDown_0 : decode cX2_isDown 0 = .ok (.aload_n 0, 1) := by decide +kernel
theorem dX2_isDown_1 : decode cX2_isDown 1 = .ok (.getfield 53, 3) := by decide +kernel
theorem dX2_isDown_4 : decode cX2_isDown 4 = .ok (.bipush 100, 2) := by decide +kernel
theorem dX2_isDown_6 : decode cX2_isDown 6 = .ok (.if_icmp .lt 7, 3) := by decide +kernel
theorem dX2_isDown_9 : decode cX2_isDown 9 = .ok (.iconst 1, 1) := by decide +kernel
theorem dX2_isDown_10 : decode cX2_isDown 10 = .ok (.goto 4, 3) := by decide +kernel
theorem dX2_isDown_13 : decode cX2_isDown 13 = .ok (.iconst 0, 1) := by decide +kernel
theorem dX2_isDown_14 : decode cX2_isDown 14 = .ok (.ireturn, 1) := by decide +kernel
theorem dX2_comes_0 : decode cX2_comes 0 = .ok (.aload_n 0, 1) := by decide +kernel
theorem dX2_comes_1 : decode cX2_comes 1 = .ok (.getfield 47, 3) := by decide +kernel
theorem dX2_comes_4 : decode cX2_comes 4 = .ok (.iconst 0, 1) := by decide +kernel
theorem dX2_comes_5 : decode cX2_comes 5 = .ok (.iconst 4, 1) := by decide +kernel
theorem dX2_comes_6 : decode cX2_comes 6 = .ok (.invokestatic 56, 3) := by decide +kernel
theorem dX2_comes_9 : decode cX2_comes 9 = .ok (.ifCond .ne 6, 3) := by decide +kernel
theorem dX2_comes_12 : decode cX2_comes 12 = .ok (.bipush (-4), 2) := by decide +kernel
theorem dX2_comes_14 : decode cX2_comes 14 = .ok (.ireturn, 1) := by decide +kernel
theorem dX2_comes_15 : decode cX2_comes 15 = .ok (.aload_n 0, 1) := by decide +kernel
theorem dX2_comes_16 : decode cX2_comes 16 = .ok (.getfield 18, 3) := by decide +kernel
theorem dX2_comes_19 : decode cX2_comes 19 = .ok (.aload_n 0, 1) := by decide +kernel
theorem dX2_comes_20 : decode cX2_comes 20 = .ok (.getfield 47, 3) := by decide +kernel
theorem dX2_comes_23 : decode cX2_comes 23 = .ok (.iload_n 1, 1) := by decide +kernel
theorem dX2_comes_24 : decode cX2_comes 24 = .ok (.iastore, 1) := by decide +kernel
theorem dX2_comes_25 : decode cX2_comes 25 = .ok (.aload_n 0, 1) := by decide +kernel
theorem dX2_comes_26 : decode cX2_comes 26 = .ok (.getfield 21, 3) := by decide +kernel
theorem dX2_comes_29 : decode cX2_comes 29 = .ok (.aload_n 0, 1) := by decide +kernel
theorem dX2_comes_30 : decode cX2_comes 30 = .ok (.getfield 47, 3) := by decide +kernel
theorem dX2_comes_33 : decode cX2_comes 33 = .ok (.iload_n 2, 1) := by decide +kernel
theorem dX2_comes_34 : decode cX2_comes 34 = .ok (.iastore, 1) := by decide +kernel
theorem dX2_comes_35 : decode cX2_comes 35 = .ok (.aload_n 0, 1) := by decide +kernel
theorem dX2_comes_36 : decode cX2_comes 36 = .ok (.getfield 24, 3) := by decide +kernel
theorem dX2_comes_39 : decode cX2_comes 39 = .ok (.aload_n 0, 1) := by decide +kernel
theorem dX2_comes_40 : decode cX2_comes 40 = .ok (.getfield 47, 3) := by decide +kernel
theorem dX2_comes_43 : decode cX2_comes 43 = .ok (.iload_n 3, 1) := by decide +kernel
theorem dX2_comes_44 : decode cX2_comes 44 = .ok (.iastore, 1) := by decide +kernel
theorem dX2_comes_45 : decode cX2_comes 45 = .ok (.aload_n 0, 1) := by decide +kernel
theorem dX2_comes_46 : decode cX2_comes 46 = .ok (.getfield 27, 3) := by decide +kernel
theorem dX2_comes_49 : decode cX2_comes 49 = .ok (.aload_n 0, 1) := by decide +kernel
theorem dX2_comes_50 : decode cX2_comes 50 = .ok (.getfield 47, 3) := by decide +kernel
theorem dX2_comes_53 : decode cX2_comes 53 = .ok (.iconst 0, 1) := by decide +kernel
theorem dX2_comes_54 : decode cX2_comes 54 = .ok (.iastore, 1) := by decide +kernel
theorem dX2_comes_55 : decode cX2_comes 55 = .ok (.aload_n 0, 1) := by decide +kernel
theorem dX2_comes_56 : decode cX2_comes 56 = .ok (.dup, 1) := by decide +kernel
theorem dX2_comes_57 : decode cX2_comes 57 = .ok (.getfield 47, 3) := by decide +kernel
theorem dX2_comes_60 : decode cX2_comes 60 = .ok (.iconst 1, 1) := by decide +kernel
theorem dX2_comes_61 : decode cX2_comes 61 = .ok (.iadd, 1) := by decide +kernel
theorem dX2_comes_62 : decode cX2_comes 62 = .ok (.putfield 47, 3) := by decide +kernel
theorem dX2_comes_65 : decode cX2_comes 65 = .ok (.aload_n 0, 1) := by decide +kernel
theorem dX2_comes_66 : decode cX2_comes 66 = .ok (.getfield 47, 3) := by decide +kernel
theorem dX2_comes_69 : decode cX2_comes 69 = .ok (.iconst 1, 1) := by decide +kernel
theorem dX2_comes_70 : decode cX2_comes 70 = .ok (.isub, 1) := by decide +kernel
theorem dX2_comes_71 : decode cX2_comes 71 = .ok (.ireturn, 1) := by decide +kernel
theorem dX2_who_0 : decode cX2_who 0 = .ok (.iconst 0, 1) := by decide +kernel
theorem dX2_who_1 : decode cX2_who 1 = .ok (.istore_n 2, 1) := by decide +kernel
theorem dX2_who_2 : decode cX2_who 2 = .ok (.iconst 0, 1) := by decide +kernel
theorem dX2_who_3 : decode cX2_who 3 = .ok (.istore_n 3, 1) := by decide +kernel
theorem dX2_who_4 : decode cX2_who 4 = .ok (.iload_n 3, 1) := by decide +kernel
theorem dX2_who_5 : decode cX2_who 5 = .ok (.aload_n 0, 1) := by decide +kernel
theorem dX2_who_6 : decode cX2_who 6 = .ok (.getfield 47, 3) := by decide +kernel
theorem dX2_who_9 : decode cX2_who 9 = .ok (.if_icmp .ge 25, 3) := by decide +kernel
theorem dX2_who_12 : decode cX2_who 12 = .ok (.aload_n 0, 1) := by decide +kernel
theorem dX2_who_13 : decode cX2_who 13 = .ok (.getfield 27, 3) := by decide +kernel
theorem dX2_who_16 : decode cX2_who 16 = .ok (.iload_n 3, 1) := by decide +kernel
theorem dX2_who_17 : decode cX2_who 17 = .ok (.iaload, 1) := by decide +kernel
theorem dX2_who_18 : decode cX2_who 18 = .ok (.iload_n 1, 1) := by decide +kernel
theorem dX2_who_19 : decode cX2_who 19 = .ok (.if_icmp .ne 9, 3) := by decide +kernel
theorem dX2_who_22 : decode cX2_who 22 = .ok (.iload_n 2, 1) := by decide +kernel
theorem dX2_who_23 : decode cX2_who 23 = .ok (.iconst 1, 1) := by decide +kernel
theorem dX2_who_24 : decode cX2_who 24 = .ok (.iload_n 3, 1) := by decide +kernel
theorem dX2_who_25 : decode cX2_who 25 = .ok (.ishl, 1) := by decide +kernel
theorem dX2_who_26 : decode cX2_who 26 = .ok (.ior, 1) := by decide +kernel
theorem dX2_who_27 : decode cX2_who 27 = .ok (.istore_n 2, 1) := by decide +kernel
theorem dX2_who_28 : decode cX2_who 28 = .ok (.iinc 3 1, 3) := by decide +kernel
theorem dX2_who_31 : decode cX2_who 31 = .ok (.goto (-27), 3) := by decide +kernel
theorem dX2_who_34 : decode cX2_who 34 = .ok (.iload_n 2, 1) := by decide +kernel
theorem dX2_who_35 : decode cX2_who 35 = .ok (.ireturn, 1) := by decide +kernel
theorem dX2_allMove_0 : decode cX2_allMove 0 = .ok (.iconst 0, 1) := by decide +kernel
theorem dX2_allMove_1 : decode cX2_allMove 1 = .ok (.istore_n 3, 1) := by decide +kernel
theorem dX2_allMove_2 : decode cX2_allMove 2 = .ok (.iload_n 3, 1) := by decide +kernel
theorem dX2_allMove_3 : decode cX2_allMove 3 = .ok (.aload_n 0, 1) := by decide +kernel
theorem dX2_allMove_4 : decode cX2_allMove 4 = .ok (.getfield 47, 3) := by decide +kernel
theorem dX2_allMove_7 : decode cX2_allMove 7 = .ok (.if_icmp .ge 26, 3) := by decide +kernel
theorem dX2_allMove_10 : decode cX2_allMove 10 = .ok (.aload_n 0, 1) := by decide +kernel
theorem dX2_allMove_11 : decode cX2_allMove 11 = .ok (.getfield 27, 3) := by decide +kernel
theorem dX2_allMove_14 : decode cX2_allMove 14 = .ok (.iload_n 3, 1) := by decide +kernel
theorem dX2_allMove_15 : decode cX2_allMove 15 = .ok (.iaload, 1) := by decide +kernel
theorem dX2_allMove_16 : decode cX2_allMove 16 = .ok (.iload_n 1, 1) := by decide +kernel
theorem dX2_allMove_17 : decode cX2_allMove 17 = .ok (.if_icmp .ne 10, 3) := by decide +kernel
theorem dX2_allMove_20 : decode cX2_allMove 20 = .ok (.aload_n 0, 1) := by decide +kernel
theorem dX2_allMove_21 : decode cX2_allMove 21 = .ok (.getfield 27, 3) := by decide +kernel
theorem dX2_allMove_24 : decode cX2_allMove 24 = .ok (.iload_n 3, 1) := by decide +kernel
theorem dX2_allMove_25 : decode cX2_allMove 25 = .ok (.iload_n 2, 1) := by decide +kernel
theorem dX2_allMove_26 : decode cX2_allMove 26 = .ok (.iastore, 1) := by decide +kernel
theorem dX2_allMove_27 : decode cX2_allMove 27 = .ok (.iinc 3 1, 3) := by decide +kernel
theorem dX2_allMove_30 : decode cX2_allMove 30 = .ok (.goto (-28), 3) := by decide +kernel
theorem dX2_allMove_33 : decode cX2_allMove 33 = .ok (.return_, 1) := by decide +kernel
theorem dX2_madeBy_0 : decode cX2_madeBy 0 = .ok (.iconst 0, 1) := by decide +kernel
theorem dX2_madeBy_1 : decode cX2_madeBy 1 = .ok (.istore_n 2, 1) := by decide +kernel
theorem dX2_madeBy_2 : decode cX2_madeBy 2 = .ok (.iconst 0, 1) := by decide +kernel
theorem dX2_madeBy_3 : decode cX2_madeBy 3 = .ok (.istore_n 3, 1) := by decide +kernel
theorem dX2_madeBy_4 : decode cX2_madeBy 4 = .ok (.iload_n 3, 1) := by decide +kernel
theorem dX2_madeBy_5 : decode cX2_madeBy 5 = .ok (.bipush 10, 2) := by decide +kernel
theorem dX2_madeBy_7 : decode cX2_madeBy 7 = .ok (.if_icmp .ge 25, 3) := by decide +kernel
theorem dX2_madeBy_10 : decode cX2_madeBy 10 = .ok (.aload_n 0, 1) := by decide +kernel
theorem dX2_madeBy_11 : decode cX2_madeBy 11 = .ok (.getfield 9, 3) := by decide +kernel
theorem dX2_madeBy_14 : decode cX2_madeBy 14 = .ok (.iload_n 3, 1) := by decide +kernel
theorem dX2_madeBy_15 : decode cX2_madeBy 15 = .ok (.iaload, 1) := by decide +kernel
theorem dX2_madeBy_16 : decode cX2_madeBy 16 = .ok (.iload_n 1, 1) := by decide +kernel
theorem dX2_madeBy_17 : decode cX2_madeBy 17 = .ok (.if_icmp .ne 9, 3) := by decide +kernel
theorem dX2_madeBy_20 : decode cX2_madeBy 20 = .ok (.iload_n 2, 1) := by decide +kernel
theorem dX2_madeBy_21 : decode cX2_madeBy 21 = .ok (.iconst 1, 1) := by decide +kernel
theorem dX2_madeBy_22 : decode cX2_madeBy 22 = .ok (.iload_n 3, 1) := by decide +kernel
theorem dX2_madeBy_23 : decode cX2_madeBy 23 = .ok (.ishl, 1) := by decide +kernel
theorem dX2_madeBy_24 : decode cX2_madeBy 24 = .ok (.ior, 1) := by decide +kernel
theorem dX2_madeBy_25 : decode cX2_madeBy 25 = .ok (.istore_n 2, 1) := by decide +kernel
theorem dX2_madeBy_26 : decode cX2_madeBy 26 = .ok (.iinc 3 1, 3) := by decide +kernel
theorem dX2_madeBy_29 : decode cX2_madeBy 29 = .ok (.goto (-25), 3) := by decide +kernel
theorem dX2_madeBy_32 : decode cX2_madeBy 32 = .ok (.iload_n 2, 1) := by decide +kernel
theorem dX2_madeBy_33 : decode cX2_madeBy 33 = .ok (.ireturn, 1) := by decide +kernel
theorem dX2_partsMade_0 : decode cX2_partsMade 0 = .ok (.bipush 10, 2) := by decide +kernel
theorem dX2_partsMade_2 : decode cX2_partsMade 2 = .ok (.aload_n 0, 1) := by decide +kernel
theorem dX2_partsMade_3 : decode cX2_partsMade 3 = .ok (.iconst (-1), 1) := by decide +kernel
theorem dX2_partsMade_4 : decode cX2_partsMade 4 = .ok (.invokevirtual 60, 3) := by decide +kernel
theorem dX2_partsMade_7 : decode cX2_partsMade 7 = .ok (.invokestatic 64, 3) := by decide +kernel
theorem dX2_partsMade_10 : decode cX2_partsMade 10 = .ok (.isub, 1) := by decide +kernel
theorem dX2_partsMade_11 : decode cX2_partsMade 11 = .ok (.ireturn, 1) := by decide +kernel
theorem dX2_nextUnmade_0 : decode cX2_nextUnmade 0 = .ok (.iconst 0, 1) := by decide +kernel
theorem dX2_nextUnmade_1 : decode cX2_nextUnmade 1 = .ok (.iload_n 1, 1) := by decide +kernel
theorem dX2_nextUnmade_2 : decode cX2_nextUnmade 2 = .ok (.invokestatic 69, 3) := by decide +kernel
theorem dX2_nextUnmade_5 : decode cX2_nextUnmade 5 = .ok (.istore_n 2, 1) := by decide +kernel
theorem dX2_nextUnmade_6 : decode cX2_nextUnmade 6 = .ok (.iload_n 2, 1) := by decide +kernel
theorem dX2_nextUnmade_7 : decode cX2_nextUnmade 7 = .ok (.bipush 10, 2) := by decide +kernel
theorem dX2_nextUnmade_9 : decode cX2_nextUnmade 9 = .ok (.if_icmp .ge 21, 3) := by decide +kernel
theorem dX2_nextUnmade_12 : decode cX2_nextUnmade 12 = .ok (.aload_n 0, 1) := by decide +kernel
theorem dX2_nextUnmade_13 : decode cX2_nextUnmade 13 = .ok (.getfield 9, 3) := by decide +kernel
theorem dX2_nextUnmade_16 : decode cX2_nextUnmade 16 = .ok (.iload_n 2, 1) := by decide +kernel
theorem dX2_nextUnmade_17 : decode cX2_nextUnmade 17 = .ok (.iaload, 1) := by decide +kernel
theorem dX2_nextUnmade_18 : decode cX2_nextUnmade 18 = .ok (.iconst (-1), 1) := by decide +kernel
theorem dX2_nextUnmade_19 : decode cX2_nextUnmade 19 = .ok (.if_icmp .ne 5, 3) := by decide +kernel
theorem dX2_nextUnmade_22 : decode cX2_nextUnmade 22 = .ok (.iload_n 2, 1) := by decide +kernel
theorem dX2_nextUnmade_23 : decode cX2_nextUnmade 23 = .ok (.ireturn, 1) := by decide +kernel
theorem dX2_nextUnmade_24 : decode cX2_nextUnmade 24 = .ok (.iinc 2 1, 3) := by decide +kernel
theorem dX2_nextUnmade_27 : decode cX2_nextUnmade 27 = .ok (.goto (-21), 3) := by decide +kernel
theorem dX2_nextUnmade_30 : decode cX2_nextUnmade 30 = .ok (.iconst (-1), 1) := by decide +kernel
theorem dX2_nextUnmade_31 : decode cX2_nextUnmade 31 = .ok (.ireturn, 1) := by decide +kernel
theorem dX2_leastSound_0 : decode cX2_leastSound 0 = .ok (.iconst (-1), 1) := by decide +kernel
theorem dX2_leastSound_1 : decode cX2_leastSound 1 = .ok (.istore_n 2, 1) := by decide +kernel
theorem dX2_leastSound_2 : decode cX2_leastSound 2 = .ok (.bipush 100, 2) := by decide +kernel
theorem dX2_leastSound_4 : decode cX2_leastSound 4 = .ok (.istore_n 3, 1) := by decide +kernel
theorem dX2_leastSound_5 : decode cX2_leastSound 5 = .ok (.iconst 0, 1) := by decide +kernel
theorem dX2_leastSound_6 : decode cX2_leastSound 6 = .ok (.istore 4, 2) := by decide +kernel
theorem dX2_leastSound_8 : decode cX2_leastSound 8 = .ok (.iload 4, 2) := by decide +kernel
theorem dX2_leastSound_10 : decode cX2_leastSound 10 = .ok (.bipush 10, 2) := by decide +kernel
theorem dX2_leastSound_12 : decode cX2_leastSound 12 = .ok (.if_icmp .ge 42, 3) := by decide +kernel
theorem dX2_leastSound_15 : decode cX2_leastSound 15 = .ok (.aload_n 0, 1) := by decide +kernel
theorem dX2_leastSound_16 : decode cX2_leastSound 16 = .ok (.getfield 9, 3) := by decide +kernel
theorem dX2_leastSound_19 : decode cX2_leastSound 19 = .ok (.iload 4, 2) := by decide +kernel
theorem dX2_leastSound_21 : decode cX2_leastSound 21 = .ok (.iaload, 1) := by decide +kernel
theorem dX2_leastSound_22 : decode cX2_leastSound 22 = .ok (.iload_n 1, 1) := by decide +kernel
theorem dX2_leastSound_23 : decode cX2_leastSound 23 = .ok (.if_icmp .ne 25, 3) := by decide +kernel
theorem dX2_leastSound_26 : decode cX2_leastSound 26 = .ok (.aload_n 0, 1) := by decide +kernel
theorem dX2_leastSound_27 : decode cX2_leastSound 27 = .ok (.getfield 15, 3) := by decide +kernel
theorem dX2_leastSound_30 : decode cX2_leastSound 30 = .ok (.iload 4, 2) := by decide +kernel
theorem dX2_leastSound_32 : decode cX2_leastSound 32 = .ok (.iaload, 1) := by decide +kernel
theorem dX2_leastSound_33 : decode cX2_leastSound 33 = .ok (.iload_n 3, 1) := by decide +kernel
theorem dX2_leastSound_34 : decode cX2_leastSound 34 = .ok (.if_icmp .ge 14, 3) := by decide +kernel
theorem dX2_leastSound_37 : decode cX2_leastSound 37 = .ok (.iload 4, 2) := by decide +kernel
theorem dX2_leastSound_39 : decode cX2_leastSound 39 = .ok (.istore_n 2, 1) := by decide +kernel
theorem dX2_leastSound_40 : decode cX2_leastSound 40 = .ok (.aload_n 0, 1) := by decide +kernel
theorem dX2_leastSound_41 : decode cX2_leastSound 41 = .ok (.getfield 15, 3) := by decide +kernel
theorem dX2_leastSound_44 : decode cX2_leastSound 44 = .ok (.iload 4, 2) := by decide +kernel
theorem dX2_leastSound_46 : decode cX2_leastSound 46 = .ok (.iaload, 1) := by decide +kernel
theorem dX2_leastSound_47 : decode cX2_leastSound 47 = .ok (.istore_n 3, 1) := by decide +kernel
theorem dX2_leastSound_48 : decode cX2_leastSound 48 = .ok (.iinc 4 1, 3) := by decide +kernel
theorem dX2_leastSound_51 : decode cX2_leastSound 51 = .ok (.goto (-43), 3) := by decide +kernel
theorem dX2_leastSound_54 : decode cX2_leastSound 54 = .ok (.iload_n 2, 1) := by decide +kernel
theorem dX2_leastSound_55 : decode cX2_leastSound 55 = .ok (.ireturn, 1) := by decide +kernel
theorem dX2_leaks_0 : decode cX2_leaks 0 = .ok (.iconst 0, 1) := by decide +kernel
theorem dX2_leaks_1 : decode cX2_leaks 1 = .ok (.aload_n 0, 1) := by decide +kernel
theorem dX2_leaks_2 : decode cX2_leaks 2 = .ok (.getfield 30, 3) := by decide +kernel
theorem dX2_leaks_5 : decode cX2_leaks 5 = .ok (.aload_n 0, 1) := by decide +kernel
theorem dX2_leaks_6 : decode cX2_leaks 6 = .ok (.getfield 15, 3) := by decide +kernel
theorem dX2_leaks_9 : decode cX2_leaks 9 = .ok (.iload_n 1, 1) := by decide +kernel
theorem dX2_leaks_10 : decode cX2_leaks 10 = .ok (.iaload, 1) := by decide +kernel
theorem dX2_leaks_11 : decode cX2_leaks 11 = .ok (.isub, 1) := by decide +kernel
theorem dX2_leaks_12 : decode cX2_leaks 12 = .ok (.invokestatic 69, 3) := by decide +kernel
theorem dX2_leaks_15 : decode cX2_leaks 15 = .ok (.istore_n 2, 1) := by decide +kernel
theorem dX2_leaks_16 : decode cX2_leaks 16 = .ok (.iload_n 1, 1) := by decide +kernel
theorem dX2_leaks_17 : decode cX2_leaks 17 = .ok (.invokestatic 75, 3) := by decide +kernel
theorem dX2_leaks_20 : decode cX2_leaks 20 = .ok (.ifCond .eq 7, 3) := by decide +kernel
theorem dX2_leaks_23 : decode cX2_leaks 23 = .ok (.iload_n 2, 1) := by decide +kernel
theorem dX2_leaks_24 : decode cX2_leaks 24 = .ok (.goto 6, 3) := by decide +kernel
theorem dX2_leaks_27 : decode cX2_leaks 27 = .ok (.iload_n 2, 1) := by decide +kernel
theorem dX2_leaks_28 : decode cX2_leaks 28 = .ok (.iconst 2, 1) := by decide +kernel
theorem dX2_leaks_29 : decode cX2_leaks 29 = .ok (.idiv, 1) := by decide +kernel
theorem dX2_leaks_30 : decode cX2_leaks 30 = .ok (.ireturn, 1) := by decide +kernel
theorem dX2_allLeak_0 : decode cX2_allLeak 0 = .ok (.iconst 0, 1) := by decide +kernel
theorem dX2_allLeak_1 : decode cX2_allLeak 1 = .ok (.istore_n 1, 1) := by decide +kernel
theorem dX2_allLeak_2 : decode cX2_allLeak 2 = .ok (.iconst 0, 1) := by decide +kernel
theorem dX2_allLeak_3 : decode cX2_allLeak 3 = .ok (.istore_n 2, 1) := by decide +kernel
theorem dX2_allLeak_4 : decode cX2_allLeak 4 = .ok (.iload_n 2, 1) := by decide +kernel
theorem dX2_allLeak_5 : decode cX2_allLeak 5 = .ok (.bipush 10, 2) := by decide +kernel
theorem dX2_allLeak_7 : decode cX2_allLeak 7 = .ok (.if_icmp .ge 17, 3) := by decide +kernel
theorem dX2_allLeak_10 : decode cX2_allLeak 10 = .ok (.iload_n 1, 1) := by decide +kernel
theorem dX2_allLeak_11 : decode cX2_allLeak 11 = .ok (.aload_n 0, 1) := by decide +kernel
theorem dX2_allLeak_12 : decode cX2_allLeak 12 = .ok (.iload_n 2, 1) := by decide +kernel
theorem dX2_allLeak_13 : decode cX2_allLeak 13 = .ok (.invokevirtual 79, 3) := by decide +kernel
theorem dX2_allLeak_16 : decode cX2_allLeak 16 = .ok (.iadd, 1) := by decide +kernel
theorem dX2_allLeak_17 : decode cX2_allLeak 17 = .ok (.istore_n 1, 1) := by decide +kernel
theorem dX2_allLeak_18 : decode cX2_allLeak 18 = .ok (.iinc 2 1, 3) := by decide +kernel
theorem dX2_allLeak_21 : decode cX2_allLeak 21 = .ok (.goto (-17), 3) := by decide +kernel
theorem dX2_allLeak_24 : decode cX2_allLeak 24 = .ok (.iload_n 1, 1) := by decide +kernel
theorem dX2_allLeak_25 : decode cX2_allLeak 25 = .ok (.ireturn, 1) := by decide +kernel
theorem dX2_telling_0 : decode cX2_telling 0 = .ok (.iload_n 3, 1) := by decide +kernel
theorem dX2_telling_1 : decode cX2_telling 1 = .ok (.invokestatic 82, 3) := by decide +kernel
theorem dX2_telling_4 : decode cX2_telling 4 = .ok (.istore 4, 2) := by decide +kernel
theorem dX2_telling_6 : decode cX2_telling 6 = .ok (.aload_n 0, 1) := by decide +kernel
theorem dX2_telling_7 : decode cX2_telling 7 = .ok (.getfield 34, 3) := by decide +kernel
theorem dX2_telling_10 : decode cX2_telling 10 = .ok (.iconst 0, 1) := by decide +kernel
theorem dX2_telling_11 : decode cX2_telling 11 = .ok (.aload_n 0, 1) := by decide +kernel
theorem dX2_telling_12 : decode cX2_telling 12 = .ok (.getfield 24, 3) := by decide +kernel
theorem dX2_telling_15 : decode cX2_telling 15 = .ok (.iload_n 2, 1) := by decide +kernel
theorem dX2_telling_16 : decode cX2_telling 16 = .ok (.iaload, 1) := by decide +kernel
theorem dX2_telling_17 : decode cX2_telling 17 = .ok (.iastore, 1) := by decide +kernel
theorem dX2_telling_18 : decode cX2_telling 18 = .ok (.aload_n 0, 1) := by decide +kernel
theorem dX2_telling_19 : decode cX2_telling 19 = .ok (.getfield 34, 3) := by decide +kernel
theorem dX2_telling_22 : decode cX2_telling 22 = .ok (.iconst 1, 1) := by decide +kernel
theorem dX2_telling_23 : decode cX2_telling 23 = .ok (.iload 4, 2) := by decide +kernel
theorem dX2_telling_25 : decode cX2_telling 25 = .ok (.ifCond .eq 12, 3) := by decide +kernel
theorem dX2_telling_28 : decode cX2_telling 28 = .ok (.aload_n 0, 1) := by decide +kernel
theorem dX2_telling_29 : decode cX2_telling 29 = .ok (.getfield 15, 3) := by decide +kernel
theorem dX2_telling_32 : decode cX2_telling 32 = .ok (.iload_n 3, 1) := by decide +kernel
theorem dX2_telling_33 : decode cX2_telling 33 = .ok (.iaload, 1) := by decide +kernel
theorem dX2_telling_34 : decode cX2_telling 34 = .ok (.goto 4, 3) := by decide +kernel
theorem dX2_telling_37 : decode cX2_telling 37 = .ok (.iconst 0, 1) := by decide +kernel
theorem dX2_telling_38 : decode cX2_telling 38 = .ok (.iastore, 1) := by decide +kernel
theorem dX2_telling_39 : decode cX2_telling 39 = .ok (.aload_n 0, 1) := by decide +kernel
theorem dX2_telling_40 : decode cX2_telling 40 = .ok (.getfield 34, 3) := by decide +kernel
theorem dX2_telling_43 : decode cX2_telling 43 = .ok (.iconst 2, 1) := by decide +kernel
theorem dX2_telling_44 : decode cX2_telling 44 = .ok (.aload_n 0, 1) := by decide +kernel
theorem dX2_telling_45 : decode cX2_telling 45 = .ok (.getfield 21, 3) := by decide +kernel
theorem dX2_telling_48 : decode cX2_telling 48 = .ok (.iload_n 2, 1) := by decide +kernel
theorem dX2_telling_49 : decode cX2_telling 49 = .ok (.iaload, 1) := by decide +kernel
theorem dX2_telling_50 : decode cX2_telling 50 = .ok (.iastore, 1) := by decide +kernel
theorem dX2_telling_51 : decode cX2_telling 51 = .ok (.aload_n 0, 1) := by decide +kernel
theorem dX2_telling_52 : decode cX2_telling 52 = .ok (.getfield 34, 3) := by decide +kernel
theorem dX2_telling_55 : decode cX2_telling 55 = .ok (.iconst 3, 1) := by decide +kernel
theorem dX2_telling_56 : decode cX2_telling 56 = .ok (.aload_n 0, 1) := by decide +kernel
theorem dX2_telling_57 : decode cX2_telling 57 = .ok (.getfield 50, 3) := by decide +kernel
theorem dX2_telling_60 : decode cX2_telling 60 = .ok (.iastore, 1) := by decide +kernel
theorem dX2_telling_61 : decode cX2_telling 61 = .ok (.aload_n 0, 1) := by decide +kernel
theorem dX2_telling_62 : decode cX2_telling 62 = .ok (.getfield 34, 3) := by decide +kernel
theorem dX2_telling_65 : decode cX2_telling 65 = .ok (.iconst 4, 1) := by decide +kernel
theorem dX2_telling_66 : decode cX2_telling 66 = .ok (.aload_n 0, 1) := by decide +kernel
theorem dX2_telling_67 : decode cX2_telling 67 = .ok (.getfield 53, 3) := by decide +kernel
theorem dX2_telling_70 : decode cX2_telling 70 = .ok (.iastore, 1) := by decide +kernel
theorem dX2_telling_71 : decode cX2_telling 71 = .ok (.aload_n 0, 1) := by decide +kernel
theorem dX2_telling_72 : decode cX2_telling 72 = .ok (.getfield 34, 3) := by decide +kernel
theorem dX2_telling_75 : decode cX2_telling 75 = .ok (.iconst 5, 1) := by decide +kernel
theorem dX2_telling_76 : decode cX2_telling 76 = .ok (.iload 4, 2) := by decide +kernel
theorem dX2_telling_78 : decode cX2_telling 78 = .ok (.ifCond .eq 7, 3) := by decide +kernel
theorem dX2_telling_81 : decode cX2_telling 81 = .ok (.iload_n 3, 1) := by decide +kernel
theorem dX2_telling_82 : decode cX2_telling 82 = .ok (.goto 4, 3) := by decide +kernel
theorem dX2_telling_85 : decode cX2_telling 85 = .ok (.iconst 0, 1) := by decide +kernel
theorem dX2_telling_86 : decode cX2_telling 86 = .ok (.iastore, 1) := by decide +kernel
theorem dX2_telling_87 : decode cX2_telling 87 = .ok (.aload_n 0, 1) := by decide +kernel
theorem dX2_telling_88 : decode cX2_telling 88 = .ok (.getfield 37, 3) := by decide +kernel
theorem dX2_telling_91 : decode cX2_telling 91 = .ok (.iload_n 1, 1) := by decide +kernel
theorem dX2_telling_92 : decode cX2_telling 92 = .ok (.aload_n 0, 1) := by decide +kernel
theorem dX2_telling_93 : decode cX2_telling 93 = .ok (.getfield 34, 3) := by decide +kernel
theorem dX2_telling_96 : decode cX2_telling 96 = .ok (.invokevirtual 85, 3) := by decide +kernel
theorem dX2_telling_99 : decode cX2_telling 99 = .ok (.invokestatic 91, 3) := by decide +kernel
theorem dX2_telling_102 : decode cX2_telling 102 = .ok (.ireturn, 1) := by decide +kernel
theorem dX2_makes_0 : decode cX2_makes 0 = .ok (.aload_n 0, 1) := by decide +kernel
theorem dX2_makes_1 : decode cX2_makes 1 = .ok (.iconst 0, 1) := by decide +kernel
theorem dX2_makes_2 : decode cX2_makes 2 = .ok (.iload_n 1, 1) := by decide +kernel
theorem dX2_makes_3 : decode cX2_makes 3 = .ok (.iload_n 2, 1) := by decide +kernel
theorem dX2_makes_4 : decode cX2_makes 4 = .ok (.invokevirtual 94, 3) := by decide +kernel
theorem dX2_makes_7 : decode cX2_makes 7 = .ok (.istore_n 3, 1) := by decide +kernel
theorem dX2_makes_8 : decode cX2_makes 8 = .ok (.aload_n 0, 1) := by decide +kernel
theorem dX2_makes_9 : decode cX2_makes 9 = .ok (.iload_n 1, 1) := by decide +kernel
theorem dX2_makes_10 : decode cX2_makes 10 = .ok (.invokevirtual 60, 3) := by decide +kernel
theorem dX2_makes_13 : decode cX2_makes 13 = .ok (.iconst 1, 1) := by decide +kernel
theorem dX2_makes_14 : decode cX2_makes 14 = .ok (.iload_n 2, 1) := by decide +kernel
theorem dX2_makes_15 : decode cX2_makes 15 = .ok (.ishl, 1) := by decide +kernel
theorem dX2_makes_16 : decode cX2_makes 16 = .ok (.iconst (-1), 1) := by decide +kernel
theorem dX2_makes_17 : decode cX2_makes 17 = .ok (.ixor, 1) := by decide +kernel
theorem dX2_makes_18 : decode cX2_makes 18 = .ok (.iand, 1) := by decide +kernel
theorem dX2_makes_19 : decode cX2_makes 19 = .ok (.invokestatic 64, 3) := by decide +kernel
theorem dX2_makes_22 : decode cX2_makes 22 = .ok (.istore 4, 2) := by decide +kernel
theorem dX2_makes_24 : decode cX2_makes 24 = .ok (.iload_n 2, 1) := by decide +kernel
theorem dX2_makes_25 : decode cX2_makes 25 = .ok (.invokestatic 75, 3) := by decide +kernel
theorem dX2_makes_28 : decode cX2_makes 28 = .ok (.ifCond .eq 14, 3) := by decide +kernel
theorem dX2_makes_31 : decode cX2_makes 31 = .ok (.iload_n 3, 1) := by decide +kernel
theorem dX2_makes_32 : decode cX2_makes 32 = .ok (.aload_n 0, 1) := by decide +kernel
theorem dX2_makes_33 : decode cX2_makes 33 = .ok (.getfield 21, 3) := by decide +kernel
theorem dX2_makes_36 : decode cX2_makes 36 = .ok (.iload_n 1, 1) := by decide +kernel
theorem dX2_makes_37 : decode cX2_makes 37 = .ok (.iaload, 1) := by decide +kernel
theorem dX2_makes_38 : decode cX2_makes 38 = .ok (.iadd, 1) := by decide +kernel
theorem dX2_makes_39 : decode cX2_makes 39 = .ok (.goto 4, 3) := by decide +kernel
theorem dX2_makes_42 : decode cX2_makes 42 = .ok (.iload_n 3, 1) := by decide +kernel
theorem dX2_makes_43 : decode cX2_makes 43 = .ok (.istore 5, 2) := by decide +kernel
theorem dX2_makes_45 : decode cX2_makes 45 = .ok (.iload 4, 2) := by decide +kernel
theorem dX2_makes_47 : decode cX2_makes 47 = .ok (.ifCond .ne 9, 3) := by decide +kernel
theorem dX2_makes_50 : decode cX2_makes 50 = .ok (.iload_n 3, 1) := by decide +kernel
theorem dX2_makes_51 : decode cX2_makes 51 = .ok (.iconst 2, 1) := by decide +kernel
theorem dX2_makes_52 : decode cX2_makes 52 = .ok (.idiv, 1) := by decide +kernel
theorem dX2_makes_53 : decode cX2_makes 53 = .ok (.goto 4, 3) := by decide +kernel
theorem dX2_makes_56 : decode cX2_makes 56 = .ok (.iload_n 3, 1) := by decide +kernel
theorem dX2_makes_57 : decode cX2_makes 57 = .ok (.istore 6, 2) := by decide +kernel
theorem dX2_makes_59 : decode cX2_makes 59 = .ok (.aload_n 0, 1) := by decide +kernel
theorem dX2_makes_60 : decode cX2_makes 60 = .ok (.getfield 18, 3) := by decide +kernel
theorem dX2_makes_63 : decode cX2_makes 63 = .ok (.iload_n 1, 1) := by decide +kernel
theorem dX2_makes_64 : decode cX2_makes 64 = .ok (.iaload, 1) := by decide +kernel
theorem dX2_makes_65 : decode cX2_makes 65 = .ok (.tableswitch 79 1 5 #[35, 41, 47, 56, 65], 35) := by decide +kernel
theorem dX2_makes_100 : decode cX2_makes 100 = .ok (.iload 5, 2) := by decide +kernel
theorem dX2_makes_102 : decode cX2_makes 102 = .ok (.invokestatic 91, 3) := by decide +kernel
theorem dX2_makes_105 : decode cX2_makes 105 = .ok (.ireturn, 1) := by decide +kernel
theorem dX2_makes_106 : decode cX2_makes 106 = .ok (.iload 6, 2) := by decide +kernel
theorem dX2_makes_108 : decode cX2_makes 108 = .ok (.invokestatic 91, 3) := by decide +kernel
theorem dX2_makes_111 : decode cX2_makes 111 = .ok (.ireturn, 1) := by decide +kernel
theorem dX2_makes_112 : decode cX2_makes 112 = .ok (.iload 5, 2) := by decide +kernel
theorem dX2_makes_114 : decode cX2_makes 114 = .ok (.iload 4, 2) := by decide +kernel
theorem dX2_makes_116 : decode cX2_makes 116 = .ok (.iadd, 1) := by decide +kernel
theorem dX2_makes_117 : decode cX2_makes 117 = .ok (.invokestatic 91, 3) := by decide +kernel
theorem dX2_makes_120 : decode cX2_makes 120 = .ok (.ireturn, 1) := by decide +kernel
theorem dX2_makes_121 : decode cX2_makes 121 = .ok (.iload 6, 2) := by decide +kernel
theorem dX2_makes_123 : decode cX2_makes 123 = .ok (.bipush 10, 2) := by decide +kernel
theorem dX2_makes_125 : decode cX2_makes 125 = .ok (.iadd, 1) := by decide +kernel
theorem dX2_makes_126 : decode cX2_makes 126 = .ok (.invokestatic 91, 3) := by decide +kernel
theorem dX2_makes_129 : decode cX2_makes 129 = .ok (.ireturn, 1) := by decide +kernel
theorem dX2_makes_130 : decode cX2_makes 130 = .ok (.iload_n 2, 1) := by decide +kernel
theorem dX2_makes_131 : decode cX2_makes 131 = .ok (.invokestatic 75, 3) := by decide +kernel
theorem dX2_makes_134 : decode cX2_makes 134 = .ok (.ifCond .eq 7, 3) := by decide +kernel
theorem dX2_makes_137 : decode cX2_makes 137 = .ok (.iconst 0, 1) := by decide +kernel
theorem dX2_makes_138 : decode cX2_makes 138 = .ok (.goto 5, 3) := by decide +kernel
theorem dX2_makes_141 : decode cX2_makes 141 = .ok (.bipush 99, 2) := by decide +kernel
theorem dX2_makes_143 : decode cX2_makes 143 = .ok (.ireturn, 1) := by decide +kernel
theorem dX2_makes_144 : decode cX2_makes 144 = .ok (.iload_n 3, 1) := by decide +kernel
theorem dX2_makes_145 : decode cX2_makes 145 = .ok (.invokestatic 91, 3) := by decide +kernel
theorem dX2_makes_148 : decode cX2_makes 148 = .ok (.ireturn, 1) := by decide +kernel
theorem dX2_mends_0 : decode cX2_mends 0 = .ok (.aload_n 0, 1) := by decide +kernel
theorem dX2_mends_1 : decode cX2_mends 1 = .ok (.iconst 1, 1) := by decide +kernel
theorem dX2_mends_2 : decode cX2_mends 2 = .ok (.iload_n 1, 1) := by decide +kernel
theorem dX2_mends_3 : decode cX2_mends 3 = .ok (.iload_n 2, 1) := by decide +kernel
theorem dX2_mends_4 : decode cX2_mends 4 = .ok (.invokevirtual 94, 3) := by decide +kernel
theorem dX2_mends_7 : decode cX2_mends 7 = .ok (.istore_n 3, 1) := by decide +kernel
theorem dX2_mends_8 : decode cX2_mends 8 = .ok (.iload_n 2, 1) := by decide +kernel
theorem dX2_mends_9 : decode cX2_mends 9 = .ok (.invokestatic 75, 3) := by decide +kernel
theorem dX2_mends_12 : decode cX2_mends 12 = .ok (.ifCond .eq 9, 3) := by decide +kernel
theorem dX2_mends_15 : decode cX2_mends 15 = .ok (.iload_n 3, 1) := by decide +kernel
theorem dX2_mends_16 : decode cX2_mends 16 = .ok (.iconst 2, 1) := by decide +kernel
theorem dX2_mends_17 : decode cX2_mends 17 = .ok (.imul, 1) := by decide +kernel
theorem dX2_mends_18 : decode cX2_mends 18 = .ok (.goto 4, 3) := by decide +kernel
theorem dX2_mends_21 : decode cX2_mends 21 = .ok (.iload_n 3, 1) := by decide +kernel
theorem dX2_mends_22 : decode cX2_mends 22 = .ok (.istore 4, 2) := by decide +kernel
theorem dX2_mends_24 : decode cX2_mends 24 = .ok (.aload_n 0, 1) := by decide +kernel
theorem dX2_mends_25 : decode cX2_mends 25 = .ok (.getfield 18, 3) := by decide +kernel
theorem dX2_mends_28 : decode cX2_mends 28 = .ok (.iload_n 1, 1) := by decide +kernel
theorem dX2_mends_29 : decode cX2_mends 29 = .ok (.iaload, 1) := by decide +kernel
theorem dX2_mends_30 : decode cX2_mends 30 = .ok (.tableswitch 70 1 5 #[34, 70, 40, 48, 68], 34) := by decide +kernel
theorem dX2_mends_64 : decode cX2_mends 64 = .ok (.iload 4, 2) := by decide +kernel
theorem dX2_mends_66 : decode cX2_mends 66 = .ok (.invokestatic 91, 3) := by decide +kernel
theorem dX2_mends_69 : decode cX2_mends 69 = .ok (.ireturn, 1) := by decide +kernel
theorem dX2_mends_70 : decode cX2_mends 70 = .ok (.iload 4, 2) := by decide +kernel
theorem dX2_mends_72 : decode cX2_mends 72 = .ok (.iconst 1, 1) := by decide +kernel
theorem dX2_mends_73 : decode cX2_mends 73 = .ok (.iadd, 1) := by decide +kernel
theorem dX2_mends_74 : decode cX2_mends 74 = .ok (.invokestatic 91, 3) := by decide +kernel
theorem dX2_mends_77 : decode cX2_mends 77 = .ok (.ireturn, 1) := by decide +kernel
theorem dX2_mends_78 : decode cX2_mends 78 = .ok (.aload_n 0, 1) := by decide +kernel
theorem dX2_mends_79 : decode cX2_mends 79 = .ok (.getfield 15, 3) := by decide +kernel
theorem dX2_mends_82 : decode cX2_mends 82 = .ok (.iload_n 2, 1) := by decide +kernel
theorem dX2_mends_83 : decode cX2_mends 83 = .ok (.iaload, 1) := by decide +kernel
theorem dX2_mends_84 : decode cX2_mends 84 = .ok (.bipush 50, 2) := by decide +kernel
theorem dX2_mends_86 : decode cX2_mends 86 = .ok (.if_icmp .lt 7, 3) := by decide +kernel
theorem dX2_mends_89 : decode cX2_mends 89 = .ok (.iconst 0, 1) := by decide +kernel
theorem dX2_mends_90 : decode cX2_mends 90 = .ok (.goto 7, 3) := by decide +kernel
theorem dX2_mends_93 : decode cX2_mends 93 = .ok (.iload_n 3, 1) := by decide +kernel
theorem dX2_mends_94 : decode cX2_mends 94 = .ok (.invokestatic 91, 3) := by decide +kernel
theorem dX2_mends_97 : decode cX2_mends 97 = .ok (.ireturn, 1) := by decide +kernel
theorem dX2_mends_98 : decode cX2_mends 98 = .ok (.iconst 0, 1) := by decide +kernel
theorem dX2_mends_99 : decode cX2_mends 99 = .ok (.ireturn, 1) := by decide +kernel
theorem dX2_mends_100 : decode cX2_mends 100 = .ok (.iload_n 3, 1) := by decide +kernel
theorem dX2_mends_101 : decode cX2_mends 101 = .ok (.invokestatic 91, 3) := by decide +kernel
theorem dX2_mends_104 : decode cX2_mends 104 = .ok (.ireturn, 1) := by decide +kernel
theorem dX2_pumps_0 : decode cX2_pumps 0 = .ok (.aload_n 0, 1) := by decide +kernel
theorem dX2_pumps_1 : decode cX2_pumps 1 = .ok (.iconst 2, 1) := by decide +kernel
theorem dX2_pumps_2 : decode cX2_pumps 2 = .ok (.iload_n 1, 1) := by decide +kernel
theorem dX2_pumps_3 : decode cX2_pumps 3 = .ok (.iconst (-1), 1) := by decide +kernel
theorem dX2_pumps_4 : decode cX2_pumps 4 = .ok (.invokevirtual 94, 3) := by decide +kernel
theorem dX2_pumps_7 : decode cX2_pumps 7 = .ok (.istore_n 2, 1) := by decide +kernel
theorem dX2_pumps_8 : decode cX2_pumps 8 = .ok (.iload_n 2, 1) := by decide +kernel
theorem dX2_pumps_9 : decode cX2_pumps 9 = .ok (.aload_n 0, 1) := by decide +kernel
theorem dX2_pumps_10 : decode cX2_pumps 10 = .ok (.iconst 1, 1) := by decide +kernel
theorem dX2_pumps_11 : decode cX2_pumps 11 = .ok (.invokevirtual 98, 3) := by decide +kernel
theorem dX2_pumps_14 : decode cX2_pumps 14 = .ok (.iconst 1, 1) := by decide +kernel
theorem dX2_pumps_15 : decode cX2_pumps 15 = .ok (.iload_n 1, 1) := by decide +kernel
theorem dX2_pumps_16 : decode cX2_pumps 16 = .ok (.ishl, 1) := by decide +kernel
theorem dX2_pumps_17 : decode cX2_pumps 17 = .ok (.iconst (-1), 1) := by decide +kernel
theorem dX2_pumps_18 : decode cX2_pumps 18 = .ok (.ixor, 1) := by decide +kernel
theorem dX2_pumps_19 : decode cX2_pumps 19 = .ok (.iand, 1) := by decide +kernel
theorem dX2_pumps_20 : decode cX2_pumps 20 = .ok (.invokestatic 64, 3) := by decide +kernel
theorem dX2_pumps_23 : decode cX2_pumps 23 = .ok (.iadd, 1) := by decide +kernel
theorem dX2_pumps_24 : decode cX2_pumps 24 = .ok (.istore_n 3, 1) := by decide +kernel
theorem dX2_pumps_25 : decode cX2_pumps 25 = .ok (.aload_n 0, 1) := by decide +kernel
theorem dX2_pumps_26 : decode cX2_pumps 26 = .ok (.getfield 18, 3) := by decide +kernel
theorem dX2_pumps_29 : decode cX2_pumps 29 = .ok (.iload_n 1, 1) := by decide +kernel
theorem dX2_pumps_30 : decode cX2_pumps 30 = .ok (.iaload, 1) := by decide +kernel
theorem dX2_pumps_31 : decode cX2_pumps 31 = .ok (.tableswitch 70 1 5 #[33, 40, 33, 45, 63], 33) := by decide +kernel
theorem dX2_pumps_64 : decode cX2_pumps 64 = .ok (.iload_n 2, 1) := by decide +kernel
theorem dX2_pumps_65 : decode cX2_pumps 65 = .ok (.iconst 2, 1) := by decide +kernel
theorem dX2_pumps_66 : decode cX2_pumps 66 = .ok (.idiv, 1) := by decide +kernel
theorem dX2_pumps_67 : decode cX2_pumps 67 = .ok (.invokestatic 91, 3) := by decide +kernel
theorem dX2_pumps_70 : decode cX2_pumps 70 = .ok (.ireturn, 1) := by decide +kernel
theorem dX2_pumps_71 : decode cX2_pumps 71 = .ok (.iload_n 3, 1) := by decide +kernel
theorem dX2_pumps_72 : decode cX2_pumps 72 = .ok (.invokestatic 91, 3) := by decide +kernel
theorem dX2_pumps_75 : decode cX2_pumps 75 = .ok (.ireturn, 1) := by decide +kernel
theorem dX2_pumps_76 : decode cX2_pumps 76 = .ok (.aload_n 0, 1) := by decide +kernel
theorem dX2_pumps_77 : decode cX2_pumps 77 = .ok (.getfield 53, 3) := by decide +kernel
theorem dX2_pumps_80 : decode cX2_pumps 80 = .ok (.bipush 30, 2) := by decide +kernel
theorem dX2_pumps_82 : decode cX2_pumps 82 = .ok (.if_icmp .lt 10, 3) := by decide +kernel
theorem dX2_pumps_85 : decode cX2_pumps 85 = .ok (.iload_n 3, 1) := by decide +kernel
theorem dX2_pumps_86 : decode cX2_pumps 86 = .ok (.invokestatic 91, 3) := by decide +kernel
theorem dX2_pumps_89 : decode cX2_pumps 89 = .ok (.goto 4, 3) := by decide +kernel
theorem dX2_pumps_92 : decode cX2_pumps 92 = .ok (.iconst 0, 1) := by decide +kernel
theorem dX2_pumps_93 : decode cX2_pumps 93 = .ok (.ireturn, 1) := by decide +kernel
theorem dX2_pumps_94 : decode cX2_pumps 94 = .ok (.aload_n 0, 1) := by decide +kernel
theorem dX2_pumps_95 : decode cX2_pumps 95 = .ok (.getfield 21, 3) := by decide +kernel
theorem dX2_pumps_98 : decode cX2_pumps 98 = .ok (.iload_n 1, 1) := by decide +kernel
theorem dX2_pumps_99 : decode cX2_pumps 99 = .ok (.iaload, 1) := by decide +kernel
theorem dX2_pumps_100 : decode cX2_pumps 100 = .ok (.ireturn, 1) := by decide +kernel
theorem dX2_pumps_101 : decode cX2_pumps 101 = .ok (.iload_n 2, 1) := by decide +kernel
theorem dX2_pumps_102 : decode cX2_pumps 102 = .ok (.invokestatic 91, 3) := by decide +kernel
theorem dX2_pumps_105 : decode cX2_pumps 105 = .ok (.ireturn, 1) := by decide +kernel
theorem dX2_bounded_0 : decode cX2_bounded 0 = .ok (.iconst 0, 1) := by decide +kernel
theorem dX2_bounded_1 : decode cX2_bounded 1 = .ok (.bipush 99, 2) := by decide +kernel
theorem dX2_bounded_3 : decode cX2_bounded 3 = .ok (.iload_n 0, 1) := by decide +kernel
theorem dX2_bounded_4 : decode cX2_bounded 4 = .ok (.invokestatic 101, 3) := by decide +kernel
theorem dX2_bounded_7 : decode cX2_bounded 7 = .ok (.invokestatic 69, 3) := by decide +kernel
theorem dX2_bounded_10 : decode cX2_bounded 10 = .ok (.ireturn, 1) := by decide +kernel
theorem dX2_build_0 : decode cX2_build 0 = .ok (.aload_n 0, 1) := by decide +kernel
theorem dX2_build_1 : decode cX2_build 1 = .ok (.getfield 15, 3) := by decide +kernel
theorem dX2_build_4 : decode cX2_build 4 = .ok (.iload_n 2, 1) := by decide +kernel
theorem dX2_build_5 : decode cX2_build 5 = .ok (.aload_n 0, 1) := by decide +kernel
theorem dX2_build_6 : decode cX2_build 6 = .ok (.iload_n 1, 1) := by decide +kernel
theorem dX2_build_7 : decode cX2_build 7 = .ok (.iload_n 2, 1) := by decide +kernel
theorem dX2_build_8 : decode cX2_build 8 = .ok (.invokevirtual 104, 3) := by decide +kernel
theorem dX2_build_11 : decode cX2_build 11 = .ok (.iastore, 1) := by decide +kernel
theorem dX2_build_12 : decode cX2_build 12 = .ok (.aload_n 0, 1) := by decide +kernel
theorem dX2_build_13 : decode cX2_build 13 = .ok (.getfield 9, 3) := by decide +kernel
theorem dX2_build_16 : decode cX2_build 16 = .ok (.iload_n 2, 1) := by decide +kernel
theorem dX2_build_17 : decode cX2_build 17 = .ok (.iload_n 1, 1) := by decide +kernel
theorem dX2_build_18 : decode cX2_build 18 = .ok (.iastore, 1) := by decide +kernel
theorem dX2_build_19 : decode cX2_build 19 = .ok (.return_, 1) := by decide +kernel
theorem dX2_bind_0 : decode cX2_bind 0 = .ok (.iconst 0, 1) := by decide +kernel
theorem dX2_bind_1 : decode cX2_bind 1 = .ok (.istore_n 1, 1) := by decide +kernel
theorem dX2_bind_2 : decode cX2_bind 2 = .ok (.iload_n 1, 1) := by decide +kernel
theorem dX2_bind_3 : decode cX2_bind 3 = .ok (.aload_n 0, 1) := by decide +kernel
theorem dX2_bind_4 : decode cX2_bind 4 = .ok (.getfield 47, 3) := by decide +kernel
theorem dX2_bind_7 : decode cX2_bind 7 = .ok (.if_icmp .ge 33, 3) := by decide +kernel
theorem dX2_bind_10 : decode cX2_bind 10 = .ok (.aload_n 0, 1) := by decide +kernel
theorem dX2_bind_11 : decode cX2_bind 11 = .ok (.getfield 27, 3) := by decide +kernel
theorem dX2_bind_14 : decode cX2_bind 14 = .ok (.iload_n 1, 1) := by decide +kernel
theorem dX2_bind_15 : decode cX2_bind 15 = .ok (.iaload, 1) := by decide +kernel
theorem dX2_bind_16 : decode cX2_bind 16 = .ok (.ifCond .ne 18, 3) := by decide +kernel
theorem dX2_bind_19 : decode cX2_bind 19 = .ok (.aload_n 0, 1) := by decide +kernel
theorem dX2_bind_20 : decode cX2_bind 20 = .ok (.iload_n 1, 1) := by decide +kernel
theorem dX2_bind_21 : decode cX2_bind 21 = .ok (.invokevirtual 60, 3) := by decide +kernel
theorem dX2_bind_24 : decode cX2_bind 24 = .ok (.ifCond .eq 10, 3) := by decide +kernel
theorem dX2_bind_27 : decode cX2_bind 27 = .ok (.aload_n 0, 1) := by decide +kernel
theorem dX2_bind_28 : decode cX2_bind 28 = .ok (.getfield 27, 3) := by decide +kernel
theorem dX2_bind_31 : decode cX2_bind 31 = .ok (.iload_n 1, 1) := by decide +kernel
theorem dX2_bind_32 : decode cX2_bind 32 = .ok (.iconst 1, 1) := by decide +kernel
theorem dX2_bind_33 : decode cX2_bind 33 = .ok (.iastore, 1) := by decide +kernel
theorem dX2_bind_34 : decode cX2_bind 34 = .ok (.iinc 1 1, 3) := by decide +kernel
theorem dX2_bind_37 : decode cX2_bind 37 = .ok (.goto (-35), 3) := by decide +kernel
theorem dX2_bind_40 : decode cX2_bind 40 = .ok (.return_, 1) := by decide +kernel
theorem dX2_passDay_0 : decode cX2_passDay 0 = .ok (.aload_n 0, 1) := by decide +kernel
theorem dX2_passDay_1 : decode cX2_passDay 1 = .ok (.invokevirtual 107, 3) := by decide +kernel
theorem dX2_passDay_4 : decode cX2_passDay 4 = .ok (.ifCond .ne 123, 3) := by decide +kernel
theorem dX2_passDay_7 : decode cX2_passDay 7 = .ok (.aload_n 0, 1) := by decide +kernel
theorem dX2_passDay_8 : decode cX2_passDay 8 = .ok (.bipush 100, 2) := by decide +kernel
theorem dX2_passDay_10 : decode cX2_passDay 10 = .ok (.aload_n 0, 1) := by decide +kernel
theorem dX2_passDay_11 : decode cX2_passDay 11 = .ok (.getfield 53, 3) := by decide +kernel
theorem dX2_passDay_14 : decode cX2_passDay 14 = .ok (.aload_n 0, 1) := by decide +kernel
theorem dX2_passDay_15 : decode cX2_passDay 15 = .ok (.invokevirtual 111, 3) := by decide +kernel
theorem dX2_passDay_18 : decode cX2_passDay 18 = .ok (.bipush 10, 2) := by decide +kernel
theorem dX2_passDay_20 : decode cX2_passDay 20 = .ok (.idiv, 1) := by decide +kernel
theorem dX2_passDay_21 : decode cX2_passDay 21 = .ok (.iadd, 1) := by decide +kernel
theorem dX2_passDay_22 : decode cX2_passDay 22 = .ok (.invokestatic 101, 3) := by decide +kernel
theorem dX2_passDay_25 : decode cX2_passDay 25 = .ok (.putfield 53, 3) := by decide +kernel
theorem dX2_passDay_28 : decode cX2_passDay 28 = .ok (.iconst 0, 1) := by decide +kernel
theorem dX2_passDay_29 : decode cX2_passDay 29 = .ok (.istore_n 1, 1) := by decide +kernel
theorem dX2_passDay_30 : decode cX2_passDay 30 = .ok (.iload_n 1, 1) := by decide +kernel
theorem dX2_passDay_31 : decode cX2_passDay 31 = .ok (.aload_n 0, 1) := by decide +kernel
theorem dX2_passDay_32 : decode cX2_passDay 32 = .ok (.getfield 47, 3) := by decide +kernel
theorem dX2_passDay_35 : decode cX2_passDay 35 = .ok (.if_icmp .ge 79, 3) := by decide +kernel
theorem dX2_passDay_38 : decode cX2_passDay 38 = .ok (.aload_n 0, 1) := by decide +kernel
theorem dX2_passDay_39 : decode cX2_passDay 39 = .ok (.invokevirtual 107, 3) := by decide +kernel
theorem dX2_passDay_42 : decode cX2_passDay 42 = .ok (.ifCond .ne 72, 3) := by decide +kernel
theorem dX2_passDay_45 : decode cX2_passDay 45 = .ok (.aload_n 0, 1) := by decide +kernel
theorem dX2_passDay_46 : decode cX2_passDay 46 = .ok (.getfield 27, 3) := by decide +kernel
theorem dX2_passDay_49 : decode cX2_passDay 49 = .ok (.iload_n 1, 1) := by decide +kernel
theorem dX2_passDay_50 : decode cX2_passDay 50 = .ok (.iaload, 1) := by decide +kernel
theorem dX2_passDay_51 : decode cX2_passDay 51 = .ok (.iconst 1, 1) := by decide +kernel
theorem dX2_passDay_52 : decode cX2_passDay 52 = .ok (.if_icmp .ne 56, 3) := by decide +kernel
theorem dX2_passDay_55 : decode cX2_passDay 55 = .ok (.aload_n 0, 1) := by decide +kernel
theorem dX2_passDay_56 : decode cX2_passDay 56 = .ok (.iconst 0, 1) := by decide +kernel
theorem dX2_passDay_57 : decode cX2_passDay 57 = .ok (.aload_n 0, 1) := by decide +kernel
theorem dX2_passDay_58 : decode cX2_passDay 58 = .ok (.getfield 53, 3) := by decide +kernel
theorem dX2_passDay_61 : decode cX2_passDay 61 = .ok (.aload_n 0, 1) := by decide +kernel
theorem dX2_passDay_62 : decode cX2_passDay 62 = .ok (.iload_n 1, 1) := by decide +kernel
theorem dX2_passDay_63 : decode cX2_passDay 63 = .ok (.invokevirtual 115, 3) := by decide +kernel
theorem dX2_passDay_66 : decode cX2_passDay 66 = .ok (.isub, 1) := by decide +kernel
theorem dX2_passDay_67 : decode cX2_passDay 67 = .ok (.invokestatic 69, 3) := by decide +kernel
theorem dX2_passDay_70 : decode cX2_passDay 70 = .ok (.putfield 53, 3) := by decide +kernel
theorem dX2_passDay_73 : decode cX2_passDay 73 = .ok (.aload_n 0, 1) := by decide +kernel
theorem dX2_passDay_74 : decode cX2_passDay 74 = .ok (.iload_n 1, 1) := by decide +kernel
theorem dX2_passDay_75 : decode cX2_passDay 75 = .ok (.invokevirtual 118, 3) := by decide +kernel
theorem dX2_passDay_78 : decode cX2_passDay 78 = .ok (.istore_n 2, 1) := by decide +kernel
theorem dX2_passDay_79 : decode cX2_passDay 79 = .ok (.iload_n 2, 1) := by decide +kernel
theorem dX2_passDay_80 : decode cX2_passDay 80 = .ok (.iconst (-1), 1) := by decide +kernel
theorem dX2_passDay_81 : decode cX2_passDay 81 = .ok (.if_icmp .eq 27, 3) := by decide +kernel
theorem dX2_passDay_84 : decode cX2_passDay 84 = .ok (.aload_n 0, 1) := by decide +kernel
theorem dX2_passDay_85 : decode cX2_passDay 85 = .ok (.getfield 15, 3) := by decide +kernel
theorem dX2_passDay_88 : decode cX2_passDay 88 = .ok (.iload_n 2, 1) := by decide +kernel
theorem dX2_passDay_89 : decode cX2_passDay 89 = .ok (.bipush 99, 2) := by decide +kernel
theorem dX2_passDay_91 : decode cX2_passDay 91 = .ok (.aload_n 0, 1) := by decide +kernel
theorem dX2_passDay_92 : decode cX2_passDay 92 = .ok (.getfield 15, 3) := by decide +kernel
theorem dX2_passDay_95 : decode cX2_passDay 95 = .ok (.iload_n 2, 1) := by decide +kernel
theorem dX2_passDay_96 : decode cX2_passDay 96 = .ok (.iaload, 1) := by decide +kernel
theorem dX2_passDay_97 : decode cX2_passDay 97 = .ok (.aload_n 0, 1) := by decide +kernel
theorem dX2_passDay_98 : decode cX2_passDay 98 = .ok (.iload_n 1, 1) := by decide +kernel
theorem dX2_passDay_99 : decode cX2_passDay 99 = .ok (.iload_n 2, 1) := by decide +kernel
theorem dX2_passDay_100 : decode cX2_passDay 100 = .ok (.invokevirtual 121, 3) := by decide +kernel
theorem dX2_passDay_103 : decode cX2_passDay 103 = .ok (.iadd, 1) := by decide +kernel
theorem dX2_passDay_104 : decode cX2_passDay 104 = .ok (.invokestatic 101, 3) := by decide +kernel
theorem dX2_passDay_107 : decode cX2_passDay 107 = .ok (.iastore, 1) := by decide +kernel
theorem dX2_passDay_108 : decode cX2_passDay 108 = .ok (.iinc 1 1, 3) := by decide +kernel
theorem dX2_passDay_111 : decode cX2_passDay 111 = .ok (.goto (-81), 3) := by decide +kernel
theorem dX2_passDay_114 : decode cX2_passDay 114 = .ok (.aload_n 0, 1) := by decide +kernel
theorem dX2_passDay_115 : decode cX2_passDay 115 = .ok (.invokevirtual 107, 3) := by decide +kernel
theorem dX2_passDay_118 : decode cX2_passDay 118 = .ok (.ifCond .eq 9, 3) := by decide +kernel
theorem dX2_passDay_121 : decode cX2_passDay 121 = .ok (.aload_n 0, 1) := by decide +kernel
theorem dX2_passDay_122 : decode cX2_passDay 122 = .ok (.iconst 1, 1) := by decide +kernel
theorem dX2_passDay_123 : decode cX2_passDay 123 = .ok (.iconst 2, 1) := by decide +kernel
theorem dX2_passDay_124 : decode cX2_passDay 124 = .ok (.invokevirtual 124, 3) := by decide +kernel
theorem dX2_passDay_127 : decode cX2_passDay 127 = .ok (.aload_n 0, 1) := by decide +kernel
theorem dX2_passDay_128 : decode cX2_passDay 128 = .ok (.dup, 1) := by decide +kernel
theorem dX2_passDay_129 : decode cX2_passDay 129 = .ok (.getfield 50, 3) := by decide +kernel
theorem dX2_passDay_132 : decode cX2_passDay 132 = .ok (.iconst 1, 1) := by decide +kernel
theorem dX2_passDay_133 : decode cX2_passDay 133 = .ok (.iadd, 1) := by decide +kernel
theorem dX2_passDay_134 : decode cX2_passDay 134 = .ok (.putfield 50, 3) := by decide +kernel
theorem dX2_passDay_137 : decode cX2_passDay 137 = .ok (.return_, 1) := by decide +kernel
theorem dX2_pass_0 : decode cX2_pass 0 = .ok (.iconst 0, 1) := by decide +kernel
theorem dX2_pass_1 : decode cX2_pass 1 = .ok (.istore_n 2, 1) := by decide +kernel
theorem dX2_pass_2 : decode cX2_pass 2 = .ok (.iload_n 2, 1) := by decide +kernel
theorem dX2_pass_3 : decode cX2_pass 3 = .ok (.iload_n 1, 1) := by decide +kernel
theorem dX2_pass_4 : decode cX2_pass 4 = .ok (.if_icmp .ge 13, 3) := by decide +kernel
theorem dX2_pass_7 : decode cX2_pass 7 = .ok (.aload_n 0, 1) := by decide +kernel
theorem dX2_pass_8 : decode cX2_pass 8 = .ok (.invokevirtual 128, 3) := by decide +kernel
theorem dX2_pass_11 : decode cX2_pass 11 = .ok (.iinc 2 1, 3) := by decide +kernel
theorem dX2_pass_14 : decode cX2_pass 14 = .ok (.goto (-12), 3) := by decide +kernel
theorem dX2_pass_17 : decode cX2_pass 17 = .ok (.return_, 1) := by decide +kernel
theorem dX3_init_0 : decode cX3_init 0 = .ok (.aload_n 0, 1) := by decide +kernel
theorem dX3_init_1 : decode cX3_init 1 = .ok (.invokespecial 3, 3) := by decide +kernel
theorem dX3_init_4 : decode cX3_init 4 = .ok (.aload_n 0, 1) := by decide +kernel
theorem dX3_init_5 : decode cX3_init 5 = .ok (.sipush 320, 3) := by decide +kernel
theorem dX3_init_8 : decode cX3_init 8 = .ok (.newarray .int, 2) := by decide +kernel
theorem dX3_init_10 : decode cX3_init 10 = .ok (.putfield 9, 3) := by decide +kernel
theorem dX3_init_13 : decode cX3_init 13 = .ok (.aload_n 0, 1) := by decide +kernel
theorem dX3_init_14 : decode cX3_init 14 = .ok (.iconst 3, 1) := by decide +kernel
theorem dX3_init_15 : decode cX3_init 15 = .ok (.newarray .int, 2) := by decide +kernel
theorem dX3_init_17 : decode cX3_init 17 = .ok (.putfield 15, 3) := by decide +kernel
theorem dX3_init_20 : decode cX3_init 20 = .ok (.aload_n 0, 1) := by decide +kernel
theorem dX3_init_21 : decode cX3_init 21 = .ok (.bipush 64, 2) := by decide +kernel
theorem dX3_init_23 : decode cX3_init 23 = .ok (.newarray .int, 2) := by decide +kernel
theorem dX3_init_25 : decode cX3_init 25 = .ok (.putfield 18, 3) := by decide +kernel
theorem dX3_init_28 : decode cX3_init 28 = .ok (.aload_n 0, 1) := by decide +kernel
theorem dX3_init_29 : decode cX3_init 29 = .ok (.iload_n 1, 1) := by decide +kernel
theorem dX3_init_30 : decode cX3_init 30 = .ok (.putfield 21, 3) := by decide +kernel
theorem dX3_init_33 : decode cX3_init 33 = .ok (.aload_n 0, 1) := by decide +kernel
theorem dX3_init_34 : decode cX3_init 34 = .ok (.getfield 9, 3) := by decide +kernel
theorem dX3_init_37 : decode cX3_init 37 = .ok (.iconst 0, 1) := by decide +kernel
theorem dX3_init_38 : decode cX3_init 38 = .ok (.iconst (-1), 1) := by decide +kernel
theorem dX3_init_39 : decode cX3_init 39 = .ok (.iastore, 1) := by decide +kernel
theorem dX3_init_40 : decode cX3_init 40 = .ok (.aload_n 0, 1) := by decide +kernel
theorem dX3_init_41 : decode cX3_init 41 = .ok (.getfield 9, 3) := by decide +kernel
theorem dX3_init_44 : decode cX3_init 44 = .ok (.iconst 1, 1) := by decide +kernel
theorem dX3_init_45 : decode cX3_init 45 = .ok (.iconst 1, 1) := by decide +kernel
theorem dX3_init_46 : decode cX3_init 46 = .ok (.iastore, 1) := by decide +kernel
theorem dX3_init_47 : decode cX3_init 47 = .ok (.aload_n 0, 1) := by decide +kernel
theorem dX3_init_48 : decode cX3_init 48 = .ok (.getfield 9, 3) := by decide +kernel
theorem dX3_init_51 : decode cX3_init 51 = .ok (.iconst 2, 1) := by decide +kernel
theorem dX3_init_52 : decode cX3_init 52 = .ok (.iconst 3, 1) := by decide +kernel
theorem dX3_init_53 : decode cX3_init 53 = .ok (.iastore, 1) := by decide +kernel
theorem dX3_init_54 : decode cX3_init 54 = .ok (.aload_n 0, 1) := by decide +kernel
theorem dX3_init_55 : decode cX3_init 55 = .ok (.getfield 15, 3) := by decide +kernel
theorem dX3_init_58 : decode cX3_init 58 = .ok (.iconst 0, 1) := by decide +kernel
theorem dX3_init_59 : decode cX3_init 59 = .ok (.iconst 1, 1) := by decide +kernel
theorem dX3_init_60 : decode cX3_init 60 = .ok (.iastore, 1) := by decide +kernel
theorem dX3_init_61 : decode cX3_init 61 = .ok (.aload_n 0, 1) := by decide +kernel
theorem dX3_init_62 : decode cX3_init 62 = .ok (.getfield 15, 3) := by decide +kernel
theorem dX3_init_65 : decode cX3_init 65 = .ok (.iconst 1, 1) := by decide +kernel
theorem dX3_init_66 : decode cX3_init 66 = .ok (.iconst 2, 1) := by decide +kernel
theorem dX3_init_67 : decode cX3_init 67 = .ok (.iastore, 1) := by decide +kernel
theorem dX3_init_68 : decode cX3_init 68 = .ok (.aload_n 0, 1) := by decide +kernel
theorem dX3_init_69 : decode cX3_init 69 = .ok (.getfield 15, 3) := by decide +kernel
theorem dX3_init_72 : decode cX3_init 72 = .ok (.iconst 2, 1) := by decide +kernel
theorem dX3_init_73 : decode cX3_init 73 = .ok (.iconst 3, 1) := by decide +kernel
theorem dX3_init_74 : decode cX3_init 74 = .ok (.iastore, 1) := by decide +kernel
theorem dX3_init_75 : decode cX3_init 75 = .ok (.aload_n 0, 1) := by decide +kernel
theorem dX3_init_76 : decode cX3_init 76 = .ok (.iconst 3, 1) := by decide +kernel
theorem dX3_init_77 : decode cX3_init 77 = .ok (.putfield 25, 3) := by decide +kernel
theorem dX3_init_80 : decode cX3_init 80 = .ok (.return_, 1) := by decide +kernel
theorem dX3_clear_0 : decode cX3_clear 0 = .ok (.aload_n 0, 1) := by decide +kernel
theorem dX3_clear_1 : decode cX3_clear 1 = .ok (.iconst 0, 1) := by decide +kernel
theorem dX3_clear_2 : decode cX3_clear 2 = .ok (.putfield 25, 3) := by decide +kernel
theorem dX3_clear_5 : decode cX3_clear 5 = .ok (.return_, 1) := by decide +kernel
theorem dX3_add_0 : decode cX3_add 0 = .ok (.aload_n 0, 1) := by decide +kernel
theorem dX3_add_1 : decode cX3_add 1 = .ok (.getfield 25, 3) := by decide +kernel
theorem dX3_add_4 : decode cX3_add 4 = .ok (.sipush 320, 3) := by decide +kernel
theorem dX3_add_7 : decode cX3_add 7 = .ok (.if_icmp .ge 23, 3) := by decide +kernel
theorem dX3_add_10 : decode cX3_add 10 = .ok (.aload_n 0, 1) := by decide +kernel
theorem dX3_add_11 : decode cX3_add 11 = .ok (.getfield 9, 3) := by decide +kernel
theorem dX3_add_14 : decode cX3_add 14 = .ok (.aload_n 0, 1) := by decide +kernel
theorem dX3_add_15 : decode cX3_add 15 = .ok (.getfield 25, 3) := by decide +kernel
theorem dX3_add_18 : decode cX3_add 18 = .ok (.iload_n 1, 1) := by decide +kernel
theorem dX3_add_19 : decode cX3_add 19 = .ok (.iastore, 1) := by decide +kernel
theorem dX3_add_20 : decode cX3_add 20 = .ok (.aload_n 0, 1) := by decide +kernel
theorem dX3_add_21 : decode cX3_add 21 = .ok (.dup, 1) := by decide +kernel
theorem dX3_add_22 : decode cX3_add 22 = .ok (.getfield 25, 3) := by decide +kernel
theorem dX3_add_25 : decode cX3_add 25 = .ok (.iconst 1, 1) := by decide +kernel
theorem dX3_add_26 : decode cX3_add 26 = .ok (.iadd, 1) := by decide +kernel
theorem dX3_add_27 : decode cX3_add 27 = .ok (.putfield 25, 3) := by decide +kernel
theorem dX3_add_30 : decode cX3_add 30 = .ok (.return_, 1) := by decide +kernel
theorem dX3_endHere_0 : decode cX3_endHere 0 = .ok (.iload_n 1, 1) := by decide +kernel
theorem dX3_endHere_1 : decode cX3_endHere 1 = .ok (.iconst 0, 1) := by decide +kernel
theorem dX3_endHere_2 : decode cX3_endHere 2 = .ok (.aload_n 0, 1) := by decide +kernel
theorem dX3_endHere_3 : decode cX3_endHere 3 = .ok (.getfield 15, 3) := by decide +kernel
theorem dX3_endHere_6 : decode cX3_endHere 6 = .ok (.arraylength, 1) := by decide +kernel
theorem dX3_endHere_7 : decode cX3_endHere 7 = .ok (.iconst 1, 1) := by decide +kernel
theorem dX3_endHere_8 : decode cX3_endHere 8 = .ok (.isub, 1) := by decide +kernel
theorem dX3_endHere_9 : decode cX3_endHere 9 = .ok (.invokestatic 28, 3) := by decide +kernel
theorem dX3_endHere_12 : decode cX3_endHere 12 = .ok (.ifCond .eq 13, 3) := by decide +kernel
theorem dX3_endHere_15 : decode cX3_endHere 15 = .ok (.aload_n 0, 1) := by decide +kernel
theorem dX3_endHere_16 : decode cX3_endHere 16 = .ok (.getfield 15, 3) := by decide +kernel
theorem dX3_endHere_19 : decode cX3_endHere 19 = .ok (.iload_n 1, 1) := by decide +kernel
theorem dX3_endHere_20 : decode cX3_endHere 20 = .ok (.aload_n 0, 1) := by decide +kernel
theorem dX3_endHere_21 : decode cX3_endHere 21 = .ok (.getfield 25, 3) := by decide +kernel
theorem dX3_endHere_24 : decode cX3_endHere 24 = .ok (.iastore, 1) := by decide +kernel
theorem dX3_endHere_25 : decode cX3_endHere 25 = .ok (.return_, 1) := by decide +kernel
theorem dX3_value_0 : decode cX3_value 0 = .ok (.iload_n 1, 1) := by decide +kernel
theorem dX3_value_1 : decode cX3_value 1 = .ok (.iconst 0, 1) := by decide +kernel
theorem dX3_value_2 : decode cX3_value 2 = .ok (.aload_n 0, 1) := by decide +kernel
theorem dX3_value_3 : decode cX3_value 3 = .ok (.getfield 15, 3) := by decide +kernel
theorem dX3_value_6 : decode cX3_value 6 = .ok (.arraylength, 1) := by decide +kernel
theorem dX3_value_7 : decode cX3_value 7 = .ok (.iconst 1, 1) := by decide +kernel
theorem dX3_value_8 : decode cX3_value 8 = .ok (.isub, 1) := by decide +kernel
theorem dX3_value_9 : decode cX3_value 9 = .ok (.invokestatic 28, 3) := by decide +kernel
theorem dX3_value_12 : decode cX3_value 12 = .ok (.ifCond .ne 5, 3) := by decide +kernel
theorem dX3_value_15 : decode cX3_value 15 = .ok (.iconst 0, 1) := by decide +kernel
theorem dX3_value_16 : decode cX3_value 16 = .ok (.ireturn, 1) := by decide +kernel
theorem dX3_value_17 : decode cX3_value 17 = .ok (.iconst 0, 1) := by decide +kernel
theorem dX3_value_18 : decode cX3_value 18 = .ok (.istore_n 3, 1) := by decide +kernel
theorem dX3_value_19 : decode cX3_value 19 = .ok (.iload_n 1, 1) := by decide +kernel
theorem dX3_value_20 : decode cX3_value 20 = .ok (.ifCond .ne 7, 3) := by decide +kernel
theorem dX3_value_23 : decode cX3_value 23 = .ok (.iconst 0, 1) := by decide +kernel
theorem dX3_value_24 : decode cX3_value 24 = .ok (.goto 11, 3) := by decide +kernel
theorem dX3_value_27 : decode cX3_value 27 = .ok (.aload_n 0, 1) := by decide +kernel
theorem dX3_value_28 : decode cX3_value 28 = .ok (.getfield 15, 3) := by decide +kernel
theorem dX3_value_31 : decode cX3_value 31 = .ok (.iload_n 1, 1) := by decide +kernel
theorem dX3_value_32 : decode cX3_value 32 = .ok (.iconst 1, 1) := by decide +kernel
theorem dX3_value_33 : decode cX3_value 33 = .ok (.isub, 1) := by decide +kernel
theorem dX3_value_34 : decode cX3_value 34 = .ok (.iaload, 1) := by decide +kernel
theorem dX3_value_35 : decode cX3_value 35 = .ok (.istore 4, 2) := by decide +kernel
theorem dX3_value_37 : decode cX3_value 37 = .ok (.iload 4, 2) := by decide +kernel
theorem dX3_value_39 : decode cX3_value 39 = .ok (.aload_n 0, 1) := by decide +kernel
theorem dX3_value_40 : decode cX3_value 40 = .ok (.getfield 15, 3) := by decide +kernel
theorem dX3_value_43 : decode cX3_value 43 = .ok (.iload_n 1, 1) := by decide +kernel
theorem dX3_value_44 : decode cX3_value 44 = .ok (.iaload, 1) := by decide +kernel
theorem dX3_value_45 : decode cX3_value 45 = .ok (.if_icmp .ge 114, 3) := by decide +kernel
theorem dX3_value_48 : decode cX3_value 48 = .ok (.iload 4, 2) := by decide +kernel
theorem dX3_value_50 : decode cX3_value 50 = .ok (.sipush 320, 3) := by decide +kernel
theorem dX3_value_53 : decode cX3_value 53 = .ok (.if_icmp .ge 106, 3) := by decide +kernel
theorem dX3_value_56 : decode cX3_value 56 = .ok (.aload_n 0, 1) := by decide +kernel
theorem dX3_value_57 : decode cX3_value 57 = .ok (.getfield 9, 3) := by decide +kernel
theorem dX3_value_60 : decode cX3_value 60 = .ok (.iload 4, 2) := by decide +kernel
theorem dX3_value_62 : decode cX3_value 62 = .ok (.iaload, 1) := by decide +kernel
theorem dX3_value_63 : decode cX3_value 63 = .ok (.istore 5, 2) := by decide +kernel
theorem dX3_value_65 : decode cX3_value 65 = .ok (.iload 5, 2) := by decide +kernel
theorem dX3_value_67 : decode cX3_value 67 = .ok (.bipush (-7), 2) := by decide +kernel
theorem dX3_value_69 : decode cX3_value 69 = .ok (.if_icmp .gt 43, 3) := by decide +kernel
theorem dX3_value_72 : decode cX3_value 72 = .ok (.iload_n 3, 1) := by decide +kernel
theorem dX3_value_73 : decode cX3_value 73 = .ok (.iconst 2, 1) := by decide +kernel
theorem dX3_value_74 : decode cX3_value 74 = .ok (.if_icmp .ge 5, 3) := by decide +kernel
theorem dX3_value_77 : decode cX3_value 77 = .ok (.iconst 0, 1) := by decide +kernel
theorem dX3_value_78 : decode cX3_value 78 = .ok (.ireturn, 1) := by decide +kernel
theorem dX3_value_79 : decode cX3_value 79 = .ok (.iinc 3 (-1), 3) := by decide +kernel
theorem dX3_value_82 : decode cX3_value 82 = .ok (.aload_n 0, 1) := by decide +kernel
theorem dX3_value_83 : decode cX3_value 83 = .ok (.getfield 18, 3) := by decide +kernel
theorem dX3_value_86 : decode cX3_value 86 = .ok (.iload_n 3, 1) := by decide +kernel
theorem dX3_value_87 : decode cX3_value 87 = .ok (.iconst 1, 1) := by decide +kernel
theorem dX3_value_88 : decode cX3_value 88 = .ok (.isub, 1) := by decide +kernel
theorem dX3_value_89 : decode cX3_value 89 = .ok (.iload 5, 2) := by decide +kernel
theorem dX3_value_91 : decode cX3_value 91 = .ok (.aload_n 0, 1) := by decide +kernel
theorem dX3_value_92 : decode cX3_value 92 = .ok (.getfield 18, 3) := by decide +kernel
theorem dX3_value_95 : decode cX3_value 95 = .ok (.iload_n 3, 1) := by decide +kernel
theorem dX3_value_96 : decode cX3_value 96 = .ok (.iconst 1, 1) := by decide +kernel
theorem dX3_value_97 : decode cX3_value 97 = .ok (.isub, 1) := by decide +kernel
theorem dX3_value_98 : decode cX3_value 98 = .ok (.iaload, 1) := by decide +kernel
theorem dX3_value_99 : decode cX3_value 99 = .ok (.aload_n 0, 1) := by decide +kernel
theorem dX3_value_100 : decode cX3_value 100 = .ok (.getfield 18, 3) := by decide +kernel
theorem dX3_value_103 : decode cX3_value 103 = .ok (.iload_n 3, 1) := by decide +kernel
theorem dX3_value_104 : decode cX3_value 104 = .ok (.iaload, 1) := by decide +kernel
theorem dX3_value_105 : decode cX3_value 105 = .ok (.invokestatic 32, 3) := by decide +kernel
theorem dX3_value_108 : decode cX3_value 108 = .ok (.iastore, 1) := by decide +kernel
theorem dX3_value_109 : decode cX3_value 109 = .ok (.goto 44, 3) := by decide +kernel
theorem dX3_value_112 : decode cX3_value 112 = .ok (.iload_n 3, 1) := by decide +kernel
theorem dX3_value_113 : decode cX3_value 113 = .ok (.bipush 64, 2) := by decide +kernel
theorem dX3_value_115 : decode cX3_value 115 = .ok (.if_icmp .ge 11, 3) := by decide +kernel
theorem dX3_value_118 : decode cX3_value 118 = .ok (.iload 5, 2) := by decide +kernel
theorem dX3_value_120 : decode cX3_value 120 = .ok (.aload_n 2, 1) := by decide +kernel
theorem dX3_value_121 : decode cX3_value 121 = .ok (.arraylength, 1) := by decide +kernel
theorem dX3_value_122 : decode cX3_value 122 = .ok (.ineg, 1) := by decide +kernel
theorem dX3_value_123 : decode cX3_value 123 = .ok (.if_icmp .ge 5, 3) := by decide +kernel
theorem dX3_value_126 : decode cX3_value 126 = .ok (.iconst 0, 1) := by decide +kernel
theorem dX3_value_127 : decode cX3_value 127 = .ok (.ireturn, 1) := by decide +kernel
theorem dX3_value_128 : decode cX3_value 128 = .ok (.aload_n 0, 1) := by decide +kernel
theorem dX3_value_129 : decode cX3_value 129 = .ok (.getfield 18, 3) := by decide +kernel
theorem dX3_value_132 : decode cX3_value 132 = .ok (.iload_n 3, 1) := by decide +kernel
theorem dX3_value_133 : decode cX3_value 133 = .ok (.iload 5, 2) := by decide +kernel
theorem dX3_value_135 : decode cX3_value 135 = .ok (.ifCond .lt 8, 3) := by decide +kernel
theorem dX3_value_138 : decode cX3_value 138 = .ok (.iload 5, 2) := by decide +kernel
theorem dX3_value_140 : decode cX3_value 140 = .ok (.goto 9, 3) := by decide +kernel
theorem dX3_value_143 : decode cX3_value 143 = .ok (.aload_n 2, 1) := by decide +kernel
theorem dX3_value_144 : decode cX3_value 144 = .ok (.iconst (-1), 1) := by decide +kernel
theorem dX3_value_145 : decode cX3_value 145 = .ok (.iload 5, 2) := by decide +kernel
theorem dX3_value_147 : decode cX3_value 147 = .ok (.isub, 1) := by decide +kernel
theorem dX3_value_148 : decode cX3_value 148 = .ok (.iaload, 1) := by decide +kernel
theorem dX3_value_149 : decode cX3_value 149 = .ok (.iastore, 1) := by decide +kernel
theorem dX3_value_150 : decode cX3_value 150 = .ok (.iinc 3 1, 3) := by decide +kernel
theorem dX3_value_153 : decode cX3_value 153 = .ok (.iinc 4 1, 3) := by decide +kernel
theorem dX3_value_156 : decode cX3_value 156 = .ok (.goto (-119), 3) := by decide +kernel
theorem dX3_value_159 : decode cX3_value 159 = .ok (.iload_n 3, 1) := by decide +kernel
theorem dX3_value_160 : decode cX3_value 160 = .ok (.iconst 1, 1) := by decide +kernel
theorem dX3_value_161 : decode cX3_value 161 = .ok (.if_icmp .ne 12, 3) := by decide +kernel
theorem dX3_value_164 : decode cX3_value 164 = .ok (.aload_n 0, 1) := by decide +kernel
theorem dX3_value_165 : decode cX3_value 165 = .ok (.getfield 18, 3) := by decide +kernel
theorem dX3_value_168 : decode cX3_value 168 = .ok (.iconst 0, 1) := by decide +kernel
theorem dX3_value_169 : decode cX3_value 169 = .ok (.iaload, 1) := by decide +kernel
theorem dX3_value_170 : decode cX3_value 170 = .ok (.goto 4, 3) := by decide +kernel
theorem dX3_value_173 : decode cX3_value 173 = .ok (.iconst 0, 1) := by decide +kernel
theorem dX3_value_174 : decode cX3_value 174 = .ok (.ireturn, 1) := by decide +kernel
theorem dX3_joined_0 : decode cX3_joined 0 = .ok (.iload_n 0, 1) := by decide +kernel
theorem dX3_joined_1 : decode cX3_joined 1 = .ok (.tableswitch 97 (-12) (-7) #[93, 89, 78, 67, 53, 39], 39) := by decide +kernel
theorem dX3_joined_40 : decode cX3_joined 40 = .ok (.iload_n 1, 1) := by decide +kernel
theorem dX3_joined_41 : decode cX3_joined 41 = .ok (.ifCond .ne 7, 3) := by decide +kernel
theorem dX3_joined_44 : decode cX3_joined 44 = .ok (.iload_n 2, 1) := by decide +kernel
theorem dX3_joined_45 : decode cX3_joined 45 = .ok (.ifCond .eq 7, 3) := by decide +kernel
theorem dX3_joined_48 : decode cX3_joined 48 = .ok (.iconst 1, 1) := by decide +kernel
theorem dX3_joined_49 : decode cX3_joined 49 = .ok (.goto 4, 3) := by decide +kernel
theorem dX3_joined_52 : decode cX3_joined 52 = .ok (.iconst 0, 1) := by decide +kernel
theorem dX3_joined_53 : decode cX3_joined 53 = .ok (.ireturn, 1) := by decide +kernel
theorem dX3_joined_54 : decode cX3_joined 54 = .ok (.iload_n 1, 1) := by decide +kernel
theorem dX3_joined_55 : decode cX3_joined 55 = .ok (.ifCond .eq 11, 3) := by decide +kernel
theorem dX3_joined_58 : decode cX3_joined 58 = .ok (.iload_n 2, 1) := by decide +kernel
theorem dX3_joined_59 : decode cX3_joined 59 = .ok (.ifCond .eq 7, 3) := by decide +kernel
theorem dX3_joined_62 : decode cX3_joined 62 = .ok (.iconst 1, 1) := by decide +kernel
theorem dX3_joined_63 : decode cX3_joined 63 = .ok (.goto 4, 3) := by decide +kernel
theorem dX3_joined_66 : decode cX3_joined 66 = .ok (.iconst 0, 1) := by decide +kernel
theorem dX3_joined_67 : decode cX3_joined 67 = .ok (.ireturn, 1) := by decide +kernel
theorem dX3_joined_68 : decode cX3_joined 68 = .ok (.iload_n 1, 1) := by decide +kernel
theorem dX3_joined_69 : decode cX3_joined 69 = .ok (.iload_n 2, 1) := by decide +kernel
theorem dX3_joined_70 : decode cX3_joined 70 = .ok (.if_icmp .ge 7, 3) := by decide +kernel
theorem dX3_joined_73 : decode cX3_joined 73 = .ok (.iconst 1, 1) := by decide +kernel
theorem dX3_joined_74 : decode cX3_joined 74 = .ok (.goto 4, 3) := by decide +kernel
theorem dX3_joined_77 : decode cX3_joined 77 = .ok (.iconst 0, 1) := by decide +kernel
theorem dX3_joined_78 : decode cX3_joined 78 = .ok (.ireturn, 1) := by decide +kernel
theorem dX3_joined_79 : decode cX3_joined 79 = .ok (.iload_n 1, 1) := by decide +kernel
theorem dX3_joined_80 : decode cX3_joined 80 = .ok (.iload_n 2, 1) := by decide +kernel
theorem dX3_joined_81 : decode cX3_joined 81 = .ok (.if_icmp .ne 7, 3) := by decide +kernel
theorem dX3_joined_84 : decode cX3_joined 84 = .ok (.iconst 1, 1) := by decide +kernel
theorem dX3_joined_85 : decode cX3_joined 85 = .ok (.goto 4, 3) := by decide +kernel
theorem dX3_joined_88 : decode cX3_joined 88 = .ok (.iconst 0, 1) := by decide +kernel
theorem dX3_joined_89 : decode cX3_joined 89 = .ok (.ireturn, 1) := by decide +kernel
theorem dX3_joined_90 : decode cX3_joined 90 = .ok (.iload_n 1, 1) := by decide +kernel
theorem dX3_joined_91 : decode cX3_joined 91 = .ok (.iload_n 2, 1) := by decide +kernel
theorem dX3_joined_92 : decode cX3_joined 92 = .ok (.iadd, 1) := by decide +kernel
theorem dX3_joined_93 : decode cX3_joined 93 = .ok (.ireturn, 1) := by decide +kernel
theorem dX3_joined_94 : decode cX3_joined 94 = .ok (.iload_n 1, 1) := by decide +kernel
theorem dX3_joined_95 : decode cX3_joined 95 = .ok (.iload_n 2, 1) := by decide +kernel
theorem dX3_joined_96 : decode cX3_joined 96 = .ok (.isub, 1) := by decide +kernel
theorem dX3_joined_97 : decode cX3_joined 97 = .ok (.ireturn, 1) := by decide +kernel
theorem dX3_joined_98 : decode cX3_joined 98 = .ok (.iload_n 1, 1) := by decide +kernel
theorem dX3_joined_99 : decode cX3_joined 99 = .ok (.iload_n 2, 1) := by decide +kernel
theorem dX3_joined_100 : decode cX3_joined 100 = .ok (.imul, 1) := by decide +kernel
theorem dX3_joined_101 : decode cX3_joined 101 = .ok (.ireturn, 1) := by decide +kernel
theorem dX4_init_0 : decode cX4_init 0 = .ok (.aload_n 0, 1) := by decide +kernel
theorem dX4_init_1 : decode cX4_init 1 = .ok (.invokespecial 3, 3) := by decide +kernel
theorem dX4_init_4 : decode cX4_init 4 = .ok (.aload_n 0, 1) := by decide +kernel
theorem dX4_init_5 : decode cX4_init 5 = .ok (.bipush 6, 2) := by decide +kernel
theorem dX4_init_7 : decode cX4_init 7 = .ok (.anewarray 9, 3) := by decide +kernel
theorem dX4_init_10 : decode cX4_init 10 = .ok (.putfield 11, 3) := by decide +kernel
theorem dX4_init_13 : decode cX4_init 13 = .ok (.iconst 0, 1) := by decide +kernel
theorem dX4_init_14 : decode cX4_init 14 = .ok (.istore_n 1, 1) := by decide +kernel
theorem dX4_init_15 : decode cX4_init 15 = .ok (.iload_n 1, 1) := by decide +kernel
theorem dX4_init_16 : decode cX4_init 16 = .ok (.bipush 6, 2) := by decide +kernel
theorem dX4_init_18 : decode cX4_init 18 = .ok (.if_icmp .ge 23, 3) := by decide +kernel
theorem dX4_init_21 : decode cX4_init 21 = .ok (.aload_n 0, 1) := by decide +kernel
theorem dX4_init_22 : decode cX4_init 22 = .ok (.getfield 11, 3) := by decide +kernel
theorem dX4_init_25 : decode cX4_init 25 = .ok (.iload_n 1, 1) := by decide +kernel
theorem dX4_init_26 : decode cX4_init 26 = .ok (.new 9, 3) := by decide +kernel
theorem dX4_init_29 : decode cX4_init 29 = .ok (.dup, 1) := by decide +kernel
theorem dX4_init_30 : decode cX4_init 30 = .ok (.iload_n 1, 1) := by decide +kernel
theorem dX4_init_31 : decode cX4_init 31 = .ok (.invokespecial 15, 3) := by decide +kernel
theorem dX4_init_34 : decode cX4_init 34 = .ok (.aastore, 1) := by decide +kernel
theorem dX4_init_35 : decode cX4_init 35 = .ok (.iinc 1 1, 3) := by decide +kernel
theorem dX4_init_38 : decode cX4_init 38 = .ok (.goto (-23), 3) := by decide +kernel
theorem dX4_init_41 : decode cX4_init 41 = .ok (.aload_n 0, 1) := by decide +kernel
theorem dX4_init_42 : decode cX4_init 42 = .ok (.iconst 1, 1) := by decide +kernel
theorem dX4_init_43 : decode cX4_init 43 = .ok (.putfield 18, 3) := by decide +kernel
theorem dX4_init_46 : decode cX4_init 46 = .ok (.aload_n 0, 1) := by decide +kernel
theorem dX4_init_47 : decode cX4_init 47 = .ok (.new 22, 3) := by decide +kernel
theorem dX4_init_50 : decode cX4_init 50 = .ok (.dup, 1) := by decide +kernel
theorem dX4_init_51 : decode cX4_init 51 = .ok (.invokespecial 24, 3) := by decide +kernel
theorem dX4_init_54 : decode cX4_init 54 = .ok (.putfield 25, 3) := by decide +kernel
theorem dX4_init_57 : decode cX4_init 57 = .ok (.aload_n 0, 1) := by decide +kernel
theorem dX4_init_58 : decode cX4_init 58 = .ok (.new 29, 3) := by decide +kernel
theorem dX4_init_61 : decode cX4_init 61 = .ok (.dup, 1) := by decide +kernel
theorem dX4_init_62 : decode cX4_init 62 = .ok (.aload_n 0, 1) := by decide +kernel
theorem dX4_init_63 : decode cX4_init 63 = .ok (.getfield 11, 3) := by decide +kernel
theorem dX4_init_66 : decode cX4_init 66 = .ok (.iconst 0, 1) := by decide +kernel
theorem dX4_init_67 : decode cX4_init 67 = .ok (.aaload, 1) := by decide +kernel
theorem dX4_init_68 : decode cX4_init 68 = .ok (.invokespecial 31, 3) := by decide +kernel
theorem dX4_init_71 : decode cX4_init 71 = .ok (.putfield 34, 3) := by decide +kernel
theorem dX4_init_74 : decode cX4_init 74 = .ok (.aload_n 0, 1) := by decide +kernel
theorem dX4_init_75 : decode cX4_init 75 = .ok (.new 29, 3) := by decide +kernel
theorem dX4_init_78 : decode cX4_init 78 = .ok (.dup, 1) := by decide +kernel
theorem dX4_init_79 : decode cX4_init 79 = .ok (.aload_n 0, 1) := by decide +kernel
theorem dX4_init_80 : decode cX4_init 80 = .ok (.getfield 11, 3) := by decide +kernel
theorem dX4_init_83 : decode cX4_init 83 = .ok (.iconst 0, 1) := by decide +kernel
theorem dX4_init_84 : decode cX4_init 84 = .ok (.aaload, 1) := by decide +kernel
theorem dX4_init_85 : decode cX4_init 85 = .ok (.invokespecial 31, 3) := by decide +kernel
theorem dX4_init_88 : decode cX4_init 88 = .ok (.putfield 38, 3) := by decide +kernel
theorem dX4_init_91 : decode cX4_init 91 = .ok (.aload_n 0, 1) := by decide +kernel
theorem dX4_init_92 : decode cX4_init 92 = .ok (.new 29, 3) := by decide +kernel
theorem dX4_init_95 : decode cX4_init 95 = .ok (.dup, 1) := by decide +kernel
theorem dX4_init_96 : decode cX4_init 96 = .ok (.aload_n 0, 1) := by decide +kernel
theorem dX4_init_97 : decode cX4_init 97 = .ok (.getfield 11, 3) := by decide +kernel
theorem dX4_init_100 : decode cX4_init 100 = .ok (.iconst 0, 1) := by decide +kernel
theorem dX4_init_101 : decode cX4_init 101 = .ok (.aaload, 1) := by decide +kernel
theorem dX4_init_102 : decode cX4_init 102 = .ok (.invokespecial 31, 3) := by decide +kernel
theorem dX4_init_105 : decode cX4_init 105 = .ok (.putfield 41, 3) := by decide +kernel
theorem dX4_init_108 : decode cX4_init 108 = .ok (.aload_n 0, 1) := by decide +kernel
theorem dX4_init_109 : decode cX4_init 109 = .ok (.iconst 4, 1) := by decide +kernel
theorem dX4_init_110 : decode cX4_init 110 = .ok (.anewarray 44, 3) := by decide +kernel
theorem dX4_init_113 : decode cX4_init 113 = .ok (.putfield 46, 3) := by decide +kernel
theorem dX4_init_116 : decode cX4_init 116 = .ok (.iconst 0, 1) := by decide +kernel
theorem dX4_init_117 : decode cX4_init 117 = .ok (.istore_n 1, 1) := by decide +kernel
theorem dX4_init_118 : decode cX4_init 118 = .ok (.iload_n 1, 1) := by decide +kernel
theorem dX4_init_119 : decode cX4_init 119 = .ok (.iconst 4, 1) := by decide +kernel
theorem dX4_init_120 : decode cX4_init 120 = .ok (.if_icmp .ge 22, 3) := by decide +kernel
theorem dX4_init_123 : decode cX4_init 123 = .ok (.aload_n 0, 1) := by decide +kernel
theorem dX4_init_124 : decode cX4_init 124 = .ok (.getfield 46, 3) := by decide +kernel
theorem dX4_init_127 : decode cX4_init 127 = .ok (.iload_n 1, 1) := by decide +kernel
theorem dX4_init_128 : decode cX4_init 128 = .ok (.new 44, 3) := by decide +kernel
theorem dX4_init_131 : decode cX4_init 131 = .ok (.dup, 1) := by decide +kernel
theorem dX4_init_132 : decode cX4_init 132 = .ok (.invokespecial 50, 3) := by decide +kernel
theorem dX4_init_135 : decode cX4_init 135 = .ok (.aastore, 1) := by decide +kernel
theorem dX4_init_136 : decode cX4_init 136 = .ok (.iinc 1 1, 3) := by decide +kernel
theorem dX4_init_139 : decode cX4_init 139 = .ok (.goto (-21), 3) := by decide +kernel
theorem dX4_init_142 : decode cX4_init 142 = .ok (.return_, 1) := by decide +kernel
theorem dX4_set_0 : decode cX4_set 0 = .ok (.iload_n 1, 1) := by decide +kernel
theorem dX4_set_1 : decode cX4_set 1 = .ok (.iconst 0, 1) := by decide +kernel
theorem dX4_set_2 : decode cX4_set 2 = .ok (.getstatic 51, 3) := by decide +kernel
theorem dX4_set_5 : decode cX4_set 5 = .ok (.arraylength, 1) := by decide +kernel
theorem dX4_set_6 : decode cX4_set 6 = .ok (.iconst 1, 1) := by decide +kernel
theorem dX4_set_7 : decode cX4_set 7 = .ok (.isub, 1) := by decide +kernel
theorem dX4_set_8 : decode cX4_set 8 = .ok (.invokestatic 55, 3) := by decide +kernel
theorem dX4_set_11 : decode cX4_set 11 = .ok (.ifCond .eq 16, 3) := by decide +kernel
theorem dX4_set_14 : decode cX4_set 14 = .ok (.iload_n 3, 1) := by decide +kernel
theorem dX4_set_15 : decode cX4_set 15 = .ok (.iconst 0, 1) := by decide +kernel
theorem dX4_set_16 : decode cX4_set 16 = .ok (.getstatic 51, 3) := by decide +kernel
theorem dX4_set_19 : decode cX4_set 19 = .ok (.iload_n 1, 1) := by decide +kernel
theorem dX4_set_20 : decode cX4_set 20 = .ok (.iaload, 1) := by decide +kernel
theorem dX4_set_21 : decode cX4_set 21 = .ok (.invokestatic 55, 3) := by decide +kernel
theorem dX4_set_24 : decode cX4_set 24 = .ok (.ifCond .ne 6, 3) := by decide +kernel
theorem dX4_set_27 : decode cX4_set 27 = .ok (.bipush (-2), 2) := by decide +kernel
theorem dX4_set_29 : decode cX4_set 29 = .ok (.ireturn, 1) := by decide +kernel
theorem dX4_set_30 : decode cX4_set 30 = .ok (.aload_n 0, 1) := by decide +kernel
theorem dX4_set_31 : decode cX4_set 31 = .ok (.iload_n 2, 1) := by decide +kernel
theorem dX4_set_32 : decode cX4_set 32 = .ok (.iload_n 1, 1) := by decide +kernel
theorem dX4_set_33 : decode cX4_set 33 = .ok (.invokevirtual 59, 3) := by decide +kernel
theorem dX4_set_36 : decode cX4_set 36 = .ok (.istore 4, 2) := by decide +kernel
theorem dX4_set_38 : decode cX4_set 38 = .ok (.iload 4, 2) := by decide +kernel
theorem dX4_set_40 : decode cX4_set 40 = .ok (.sipush (-1000), 3) := by decide +kernel
theorem dX4_set_43 : decode cX4_set 43 = .ok (.if_icmp .ne 6, 3) := by decide +kernel
theorem dX4_set_46 : decode cX4_set 46 = .ok (.bipush (-2), 2) := by decide +kernel
theorem dX4_set_48 : decode cX4_set 48 = .ok (.ireturn, 1) := by decide +kernel
theorem dX4_set_49 : decode cX4_set 49 = .ok (.iload_n 1, 1) := by decide +kernel
theorem dX4_set_50 : decode cX4_set 50 = .ok (.tableswitch 93 0 4 #[34, 45, 56, 67, 80], 34) := by decide +kernel
theorem dX4_set_84 : decode cX4_set 84 = .ok (.aload_n 0, 1) := by decide +kernel
theorem dX4_set_85 : decode cX4_set 85 = .ok (.getfield 34, 3) := by decide +kernel
theorem dX4_set_88 : decode cX4_set 88 = .ok (.iload_n 3, 1) := by decide +kernel
theorem dX4_set_89 : decode cX4_set 89 = .ok (.putfield 63, 3) := by decide +kernel
theorem dX4_set_92 : decode cX4_set 92 = .ok (.goto 61, 3) := by decide +kernel
theorem dX4_set_95 : decode cX4_set 95 = .ok (.aload_n 0, 1) := by decide +kernel
theorem dX4_set_96 : decode cX4_set 96 = .ok (.getfield 34, 3) := by decide +kernel
theorem dX4_set_99 : decode cX4_set 99 = .ok (.iload_n 3, 1) := by decide +kernel
theorem dX4_set_100 : decode cX4_set 100 = .ok (.putfield 66, 3) := by decide +kernel
theorem dX4_set_103 : decode cX4_set 103 = .ok (.goto 50, 3) := by decide +kernel
theorem dX4_set_106 : decode cX4_set 106 = .ok (.aload_n 0, 1) := by decide +kernel
theorem dX4_set_107 : decode cX4_set 107 = .ok (.getfield 34, 3) := by decide +kernel
theorem dX4_set_110 : decode cX4_set 110 = .ok (.iload_n 3, 1) := by decide +kernel
theorem dX4_set_111 : decode cX4_set 111 = .ok (.putfield 69, 3) := by decide +kernel
theorem dX4_set_114 : decode cX4_set 114 = .ok (.goto 39, 3) := by decide +kernel
theorem dX4_set_117 : decode cX4_set 117 = .ok (.aload_n 0, 1) := by decide +kernel
theorem dX4_set_118 : decode cX4_set 118 = .ok (.getfield 34, 3) := by decide +kernel
theorem dX4_set_121 : decode cX4_set 121 = .ok (.getfield 72, 3) := by decide +kernel
theorem dX4_set_124 : decode cX4_set 124 = .ok (.iload_n 2, 1) := by decide +kernel
theorem dX4_set_125 : decode cX4_set 125 = .ok (.iload_n 3, 1) := by decide +kernel
theorem dX4_set_126 : decode cX4_set 126 = .ok (.iastore, 1) := by decide +kernel
theorem dX4_set_127 : decode cX4_set 127 = .ok (.goto 26, 3) := by decide +kernel
theorem dX4_set_130 : decode cX4_set 130 = .ok (.aload_n 0, 1) := by decide +kernel
theorem dX4_set_131 : decode cX4_set 131 = .ok (.getfield 34, 3) := by decide +kernel
theorem dX4_set_134 : decode cX4_set 134 = .ok (.getfield 75, 3) := by decide +kernel
theorem dX4_set_137 : decode cX4_set 137 = .ok (.iload_n 2, 1) := by decide +kernel
theorem dX4_set_138 : decode cX4_set 138 = .ok (.iload_n 3, 1) := by decide +kernel
theorem dX4_set_139 : decode cX4_set 139 = .ok (.iastore, 1) := by decide +kernel
theorem dX4_set_140 : decode cX4_set 140 = .ok (.goto 13, 3) := by decide +kernel
theorem dX4_set_143 : decode cX4_set 143 = .ok (.aload_n 0, 1) := by decide +kernel
theorem dX4_set_144 : decode cX4_set 144 = .ok (.getfield 34, 3) := by decide +kernel
theorem dX4_set_147 : decode cX4_set 147 = .ok (.getfield 78, 3) := by decide +kernel
theorem dX4_set_150 : decode cX4_set 150 = .ok (.iload_n 2, 1) := by decide +kernel
theorem dX4_set_151 : decode cX4_set 151 = .ok (.iload_n 3, 1) := by decide +kernel
theorem dX4_set_152 : decode cX4_set 152 = .ok (.iastore, 1) := by decide +kernel
theorem dX4_set_153 : decode cX4_set 153 = .ok (.iload 4, 2) := by decide +kernel
theorem dX4_set_155 : decode cX4_set 155 = .ok (.ireturn, 1) := by decide +kernel
theorem dX4_wright_0 : decode cX4_wright 0 = .ok (.iload_n 1, 1) := by decide +kernel
theorem dX4_wright_1 : decode cX4_wright 1 = .ok (.iconst 0, 1) := by decide +kernel
theorem dX4_wright_2 : decode cX4_wright 2 = .ok (.iconst 5, 1) := by decide +kernel
theorem dX4_wright_3 : decode cX4_wright 3 = .ok (.invokestatic 55, 3) := by decide +kernel
theorem dX4_wright_6 : decode cX4_wright 6 = .ok (.ifCond .eq 23, 3) := by decide +kernel
theorem dX4_wright_9 : decode cX4_wright 9 = .ok (.iload_n 2, 1) := by decide +kernel
theorem dX4_wright_10 : decode cX4_wright 10 = .ok (.iconst 0, 1) := by decide +kernel
theorem dX4_wright_11 : decode cX4_wright 11 = .ok (.bipush 9, 2) := by decide +kernel
theorem dX4_wright_13 : decode cX4_wright 13 = .ok (.invokestatic 55, 3) := by decide +kernel
theorem dX4_wright_16 : decode cX4_wright 16 = .ok (.ifCond .eq 13, 3) := by decide +kernel
theorem dX4_wright_19 : decode cX4_wright 19 = .ok (.iload_n 3, 1) := by decide +kernel
theorem dX4_wright_20 : decode cX4_wright 20 = .ok (.iconst 0, 1) := by decide +kernel
theorem dX4_wright_21 : decode cX4_wright 21 = .ok (.bipush 99, 2) := by decide +kernel
theorem dX4_wright_23 : decode cX4_wright 23 = .ok (.invokestatic 55, 3) := by decide +kernel
theorem dX4_wright_26 : decode cX4_wright 26 = .ok (.ifCond .ne 6, 3) := by decide +kernel
theorem dX4_wright_29 : decode cX4_wright 29 = .ok (.bipush (-2), 2) := by decide +kernel
theorem dX4_wright_31 : decode cX4_wright 31 = .ok (.ireturn, 1) := by decide +kernel
theorem dX4_wright_32 : decode cX4_wright 32 = .ok (.aload_n 0, 1) := by decide +kernel
theorem dX4_wright_33 : decode cX4_wright 33 = .ok (.getfield 34, 3) := by decide +kernel
theorem dX4_wright_36 : decode cX4_wright 36 = .ok (.iload_n 1, 1) := by decide +kernel
theorem dX4_wright_37 : decode cX4_wright 37 = .ok (.iload_n 2, 1) := by decide +kernel
theorem dX4_wright_38 : decode cX4_wright 38 = .ok (.iload_n 3, 1) := by decide +kernel
theorem dX4_wright_39 : decode cX4_wright 39 = .ok (.invokevirtual 81, 3) := by decide +kernel
theorem dX4_wright_42 : decode cX4_wright 42 = .ok (.ireturn, 1) := by decide +kernel
theorem dX4_told_0 : decode cX4_told 0 = .ok (.iload_n 2, 1) := by decide +kernel
theorem dX4_told_1 : decode cX4_told 1 = .ok (.tableswitch 107 0 11 #[63, 71, 79, 87, 107, 107, 107, 107, 107, 107, 87, 87], 63) := by decide +kernel
theorem dX4_told_64 : decode cX4_told 64 = .ok (.aload_n 0, 1) := by decide +kernel
theorem dX4_told_65 : decode cX4_told 65 = .ok (.getfield 34, 3) := by decide +kernel
theorem dX4_told_68 : decode cX4_told 68 = .ok (.getfield 63, 3) := by decide +kernel
theorem dX4_told_71 : decode cX4_told 71 = .ok (.ireturn, 1) := by decide +kernel
theorem dX4_told_72 : decode cX4_told 72 = .ok (.aload_n 0, 1) := by decide +kernel
theorem dX4_told_73 : decode cX4_told 73 = .ok (.getfield 34, 3) := by decide +kernel
theorem dX4_told_76 : decode cX4_told 76 = .ok (.getfield 66, 3) := by decide +kernel
theorem dX4_told_79 : decode cX4_told 79 = .ok (.ireturn, 1) := by decide +kernel
theorem dX4_told_80 : decode cX4_told 80 = .ok (.aload_n 0, 1) := by decide +kernel
theorem dX4_told_81 : decode cX4_told 81 = .ok (.getfield 34, 3) := by decide +kernel
theorem dX4_told_84 : decode cX4_told 84 = .ok (.getfield 69, 3) := by decide +kernel
theorem dX4_told_87 : decode cX4_told 87 = .ok (.ireturn, 1) := by decide +kernel
theorem dX4_told_88 : decode cX4_told 88 = .ok (.iload_n 1, 1) := by decide +kernel
theorem dX4_told_89 : decode cX4_told 89 = .ok (.invokestatic 85, 3) := by decide +kernel
theorem dX4_told_92 : decode cX4_told 92 = .ok (.ifCond .eq 12, 3) := by decide +kernel
theorem dX4_told_95 : decode cX4_told 95 = .ok (.aload_n 0, 1) := by decide +kernel
theorem dX4_told_96 : decode cX4_told 96 = .ok (.iload_n 1, 1) := by decide +kernel
theorem dX4_told_97 : decode cX4_told 97 = .ok (.iload_n 2, 1) := by decide +kernel
theorem dX4_told_98 : decode cX4_told 98 = .ok (.invokevirtual 89, 3) := by decide +kernel
theorem dX4_told_101 : decode cX4_told 101 = .ok (.goto 6, 3) := by decide +kernel
theorem dX4_told_104 : decode cX4_told 104 = .ok (.sipush (-1000), 3) := by decide +kernel
theorem dX4_told_107 : decode cX4_told 107 = .ok (.ireturn, 1) := by decide +kernel
theorem dX4_told_108 : decode cX4_told 108 = .ok (.aload_n 0, 1) := by decide +kernel
theorem dX4_told_109 : decode cX4_told 109 = .ok (.getfield 34, 3) := by decide +kernel
theorem dX4_told_112 : decode cX4_told 112 = .ok (.iload_n 1, 1) := by decide +kernel
theorem dX4_told_113 : decode cX4_told 113 = .ok (.invokevirtual 92, 3) := by decide +kernel
theorem dX4_told_116 : decode cX4_told 116 = .ok (.ifCond .eq 12, 3) := by decide +kernel
theorem dX4_told_119 : decode cX4_told 119 = .ok (.aload_n 0, 1) := by decide +kernel
theorem dX4_told_120 : decode cX4_told 120 = .ok (.iload_n 1, 1) := by decide +kernel
theorem dX4_told_121 : decode cX4_told 121 = .ok (.iload_n 2, 1) := by decide +kernel
theorem dX4_told_122 : decode cX4_told 122 = .ok (.invokevirtual 95, 3) := by decide +kernel
theorem dX4_told_125 : decode cX4_told 125 = .ok (.goto 6, 3) := by decide +kernel
theorem dX4_told_128 : decode cX4_told 128 = .ok (.sipush (-1000), 3) := by decide +kernel
theorem dX4_told_131 : decode cX4_told 131 = .ok (.ireturn, 1) := by decide +kernel
theorem dX4_toldOfPart_0 : decode cX4_toldOfPart 0 = .ok (.iload_n 2, 1) := by decide +kernel
theorem dX4_toldOfPart_1 : decode cX4_toldOfPart 1 = .ok (.lookupswitch 47 #[(3, 27), (10, 37)], 27) := by decide +kernel
theorem dX4_toldOfPart_28 : decode cX4_toldOfPart 28 = .ok (.aload_n 0, 1) := by decide +kernel
theorem dX4_toldOfPart_29 : decode cX4_toldOfPart 29 = .ok (.getfield 34, 3) := by decide +kernel
theorem dX4_toldOfPart_32 : decode cX4_toldOfPart 32 = .ok (.getfield 72, 3) := by decide +kernel
theorem dX4_toldOfPart_35 : decode cX4_toldOfPart 35 = .ok (.iload_n 1, 1) := by decide +kernel
theorem dX4_toldOfPart_36 : decode cX4_toldOfPart 36 = .ok (.iaload, 1) := by decide +kernel
theorem dX4_toldOfPart_37 : decode cX4_toldOfPart 37 = .ok (.ireturn, 1) := by decide +kernel
theorem dX4_toldOfPart_38 : decode cX4_toldOfPart 38 = .ok (.aload_n 0, 1) := by decide +kernel
theorem dX4_toldOfPart_39 : decode cX4_toldOfPart 39 = .ok (.getfield 34, 3) := by decide +kernel
theorem dX4_toldOfPart_42 : decode cX4_toldOfPart 42 = .ok (.getfield 98, 3) := by decide +kernel
theorem dX4_toldOfPart_45 : decode cX4_toldOfPart 45 = .ok (.iload_n 1, 1) := by decide +kernel
theorem dX4_toldOfPart_46 : decode cX4_toldOfPart 46 = .ok (.iaload, 1) := by decide +kernel
theorem dX4_toldOfPart_47 : decode cX4_toldOfPart 47 = .ok (.ireturn, 1) := by decide +kernel
theorem dX4_toldOfPart_48 : decode cX4_toldOfPart 48 = .ok (.aload_n 0, 1) := by decide +kernel
theorem dX4_toldOfPart_49 : decode cX4_toldOfPart 49 = .ok (.getfield 34, 3) := by decide +kernel
theorem dX4_toldOfPart_52 : decode cX4_toldOfPart 52 = .ok (.iload_n 1, 1) := by decide +kernel
theorem dX4_toldOfPart_53 : decode cX4_toldOfPart 53 = .ok (.invokevirtual 101, 3) := by decide +kernel
theorem dX4_toldOfPart_56 : decode cX4_toldOfPart 56 = .ok (.ireturn, 1) := by decide +kernel
theorem dX4_toldOfWright_0 : decode cX4_toldOfWright 0 = .ok (.iload_n 2, 1) := by decide +kernel
theorem dX4_toldOfWright_1 : decode cX4_toldOfWright 1 = .ok (.tableswitch 97 4 9 #[39, 49, 59, 69, 79, 88], 39) := by decide +kernel
theorem dX4_toldOfWright_40 : decode cX4_toldOfWright 40 = .ok (.aload_n 0, 1) := by decide +kernel
theorem dX4_toldOfWright_41 : decode cX4_toldOfWright 41 = .ok (.getfield 34, 3) := by decide +kernel
theorem dX4_toldOfWright_44 : decode cX4_toldOfWright 44 = .ok (.getfield 75, 3) := by decide +kernel
theorem dX4_toldOfWright_47 : decode cX4_toldOfWright 47 = .ok (.iload_n 1, 1) := by decide +kernel
theorem dX4_toldOfWright_48 : decode cX4_toldOfWright 48 = .ok (.iaload, 1) := by decide +kernel
theorem dX4_toldOfWright_49 : decode cX4_toldOfWright 49 = .ok (.ireturn, 1) := by decide +kernel
theorem dX4_toldOfWright_50 : decode cX4_toldOfWright 50 = .ok (.aload_n 0, 1) := by decide +kernel
theorem dX4_toldOfWright_51 : decode cX4_toldOfWright 51 = .ok (.getfield 34, 3) := by decide +kernel
theorem dX4_toldOfWright_54 : decode cX4_toldOfWright 54 = .ok (.getfield 78, 3) := by decide +kernel
theorem dX4_toldOfWright_57 : decode cX4_toldOfWright 57 = .ok (.iload_n 1, 1) := by decide +kernel
theorem dX4_toldOfWright_58 : decode cX4_toldOfWright 58 = .ok (.iaload, 1) := by decide +kernel
theorem dX4_toldOfWright_59 : decode cX4_toldOfWright 59 = .ok (.ireturn, 1) := by decide +kernel
theorem dX4_toldOfWright_60 : decode cX4_toldOfWright 60 = .ok (.aload_n 0, 1) := by decide +kernel
theorem dX4_toldOfWright_61 : decode cX4_toldOfWright 61 = .ok (.getfield 34, 3) := by decide +kernel
theorem dX4_toldOfWright_64 : decode cX4_toldOfWright 64 = .ok (.getfield 105, 3) := by decide +kernel
theorem dX4_toldOfWright_67 : decode cX4_toldOfWright 67 = .ok (.iload_n 1, 1) := by decide +kernel
theorem dX4_toldOfWright_68 : decode cX4_toldOfWright 68 = .ok (.iaload, 1) := by decide +kernel
theorem dX4_toldOfWright_69 : decode cX4_toldOfWright 69 = .ok (.ireturn, 1) := by decide +kernel
theorem dX4_toldOfWright_70 : decode cX4_toldOfWright 70 = .ok (.aload_n 0, 1) := by decide +kernel
theorem dX4_toldOfWright_71 : decode cX4_toldOfWright 71 = .ok (.getfield 34, 3) := by decide +kernel
theorem dX4_toldOfWright_74 : decode cX4_toldOfWright 74 = .ok (.getfield 108, 3) := by decide +kernel
theorem dX4_toldOfWright_77 : decode cX4_toldOfWright 77 = .ok (.iload_n 1, 1) := by decide +kernel
theorem dX4_toldOfWright_78 : decode cX4_toldOfWright 78 = .ok (.iaload, 1) := by decide +kernel
theorem dX4_toldOfWright_79 : decode cX4_toldOfWright 79 = .ok (.ireturn, 1) := by decide +kernel
theorem dX4_toldOfWright_80 : decode cX4_toldOfWright 80 = .ok (.aload_n 0, 1) := by decide +kernel
theorem dX4_toldOfWright_81 : decode cX4_toldOfWright 81 = .ok (.getfield 34, 3) := by decide +kernel
theorem dX4_toldOfWright_84 : decode cX4_toldOfWright 84 = .ok (.iload_n 1, 1) := by decide +kernel
theorem dX4_toldOfWright_85 : decode cX4_toldOfWright 85 = .ok (.invokevirtual 111, 3) := by decide +kernel
theorem dX4_toldOfWright_88 : decode cX4_toldOfWright 88 = .ok (.ireturn, 1) := by decide +kernel
theorem dX4_toldOfWright_89 : decode cX4_toldOfWright 89 = .ok (.aload_n 0, 1) := by decide +kernel
theorem dX4_toldOfWright_90 : decode cX4_toldOfWright 90 = .ok (.getfield 34, 3) := by decide +kernel
theorem dX4_toldOfWright_93 : decode cX4_toldOfWright 93 = .ok (.iload_n 1, 1) := by decide +kernel
theorem dX4_toldOfWright_94 : decode cX4_toldOfWright 94 = .ok (.invokevirtual 114, 3) := by decide +kernel
theorem dX4_toldOfWright_97 : decode cX4_toldOfWright 97 = .ok (.ireturn, 1) := by decide +kernel
theorem dX4_toldOfWright_98 : decode cX4_toldOfWright 98 = .ok (.sipush (-1000), 3) := by decide +kernel
theorem dX4_toldOfWright_101 : decode cX4_toldOfWright 101 = .ok (.ireturn, 1) := by decide +kernel
theorem dX4_asks_0 : decode cX4_asks 0 = .ok (.aload_n 0, 1) := by decide +kernel
theorem dX4_asks_1 : decode cX4_asks 1 = .ok (.getfield 34, 3) := by decide +kernel
theorem dX4_asks_4 : decode cX4_asks 4 = .ok (.iload_n 1, 1) := by decide +kernel
theorem dX4_asks_5 : decode cX4_asks 5 = .ok (.invokevirtual 92, 3) := by decide +kernel
theorem dX4_asks_8 : decode cX4_asks 8 = .ok (.ifCond .eq 19, 3) := by decide +kernel
theorem dX4_asks_11 : decode cX4_asks 11 = .ok (.iload_n 2, 1) := by decide +kernel
theorem dX4_asks_12 : decode cX4_asks 12 = .ok (.invokestatic 85, 3) := by decide +kernel
theorem dX4_asks_15 : decode cX4_asks 15 = .ok (.ifCond .eq 12, 3) := by decide +kernel
theorem dX4_asks_18 : decode cX4_asks 18 = .ok (.iload_n 3, 1) := by decide +kernel
theorem dX4_asks_19 : decode cX4_asks 19 = .ok (.iconst 0, 1) := by decide +kernel
theorem dX4_asks_20 : decode cX4_asks 20 = .ok (.iconst 1, 1) := by decide +kernel
theorem dX4_asks_21 : decode cX4_asks 21 = .ok (.invokestatic 55, 3) := by decide +kernel
theorem dX4_asks_24 : decode cX4_asks 24 = .ok (.ifCond .ne 6, 3) := by decide +kernel
theorem dX4_asks_27 : decode cX4_asks 27 = .ok (.bipush (-2), 2) := by decide +kernel
theorem dX4_asks_29 : decode cX4_asks 29 = .ok (.ireturn, 1) := by decide +kernel
theorem dX4_asks_30 : decode cX4_asks 30 = .ok (.iload_n 3, 1) := by decide +kernel
theorem dX4_asks_31 : decode cX4_asks 31 = .ok (.ifCond .ne 15, 3) := by decide +kernel
theorem dX4_asks_34 : decode cX4_asks 34 = .ok (.aload_n 0, 1) := by decide +kernel
theorem dX4_asks_35 : decode cX4_asks 35 = .ok (.getfield 34, 3) := by decide +kernel
theorem dX4_asks_38 : decode cX4_asks 38 = .ok (.iload_n 1, 1) := by decide +kernel
theorem dX4_asks_39 : decode cX4_asks 39 = .ok (.iload_n 2, 1) := by decide +kernel
theorem dX4_asks_40 : decode cX4_asks 40 = .ok (.invokevirtual 117, 3) := by decide +kernel
theorem dX4_asks_43 : decode cX4_asks 43 = .ok (.goto 12, 3) := by decide +kernel
theorem dX4_asks_46 : decode cX4_asks 46 = .ok (.aload_n 0, 1) := by decide +kernel
theorem dX4_asks_47 : decode cX4_asks 47 = .ok (.getfield 34, 3) := by decide +kernel
theorem dX4_asks_50 : decode cX4_asks 50 = .ok (.iload_n 1, 1) := by decide +kernel
theorem dX4_asks_51 : decode cX4_asks 51 = .ok (.iload_n 2, 1) := by decide +kernel
theorem dX4_asks_52 : decode cX4_asks 52 = .ok (.invokevirtual 120, 3) := by decide +kernel
theorem dX4_asks_55 : decode cX4_asks 55 = .ok (.ireturn, 1) := by decide +kernel
theorem dX4_feed_0 : decode cX4_feed 0 = .ok (.iload_n 1, 1) := by decide +kernel
theorem dX4_feed_1 : decode cX4_feed 1 = .ok (.iconst 0, 1) := by decide +kernel
theorem dX4_feed_2 : decode cX4_feed 2 = .ok (.sipush 255, 3) := by decide +kernel
theorem dX4_feed_5 : decode cX4_feed 5 = .ok (.invokestatic 55, 3) := by decide +kernel
theorem dX4_feed_8 : decode cX4_feed 8 = .ok (.ifCond .ne 6, 3) := by decide +kernel
theorem dX4_feed_11 : decode cX4_feed 11 = .ok (.bipush (-2), 2) := by decide +kernel
theorem dX4_feed_13 : decode cX4_feed 13 = .ok (.ireturn, 1) := by decide +kernel
theorem dX4_feed_14 : decode cX4_feed 14 = .ok (.aload_n 0, 1) := by decide +kernel
theorem dX4_feed_15 : decode cX4_feed 15 = .ok (.getfield 25, 3) := by decide +kernel
theorem dX4_feed_18 : decode cX4_feed 18 = .ok (.iload_n 1, 1) := by decide +kernel
theorem dX4_feed_19 : decode cX4_feed 19 = .ok (.invokevirtual 123, 3) := by decide +kernel
theorem dX4_feed_22 : decode cX4_feed 22 = .ok (.ifCond .eq 13, 3) := by decide +kernel
theorem dX4_feed_25 : decode cX4_feed 25 = .ok (.aload_n 0, 1) := by decide +kernel
theorem dX4_feed_26 : decode cX4_feed 26 = .ok (.getfield 25, 3) := by decide +kernel
theorem dX4_feed_29 : decode cX4_feed 29 = .ok (.getfield 126, 3) := by decide +kernel
theorem dX4_feed_32 : decode cX4_feed 32 = .ok (.goto 5, 3) := by decide +kernel
theorem dX4_feed_35 : decode cX4_feed 35 = .ok (.bipush (-4), 2) := by decide +kernel
theorem dX4_feed_37 : decode cX4_feed 37 = .ok (.ireturn, 1) := by decide +kernel
theorem dX4_text_0 : decode cX4_text 0 = .ok (.aload_n 0, 1) := by decide +kernel
theorem dX4_text_1 : decode cX4_text 1 = .ok (.getfield 18, 3) := by decide +kernel
theorem dX4_text_4 : decode cX4_text 4 = .ok (.iconst 0, 1) := by decide +kernel
theorem dX4_text_5 : decode cX4_text 5 = .ok (.iconst 5, 1) := by decide +kernel
theorem dX4_text_6 : decode cX4_text 6 = .ok (.invokestatic 55, 3) := by decide +kernel
theorem dX4_text_9 : decode cX4_text 9 = .ok (.ifCond .ne 6, 3) := by decide +kernel
theorem dX4_text_12 : decode cX4_text 12 = .ok (.bipush (-4), 2) := by decide +kernel
theorem dX4_text_14 : decode cX4_text 14 = .ok (.ireturn, 1) := by decide +kernel
theorem dX4_text_15 : decode cX4_text 15 = .ok (.aload_n 0, 1) := by decide +kernel
theorem dX4_text_16 : decode cX4_text 16 = .ok (.getfield 25, 3) := by decide +kernel
theorem dX4_text_19 : decode cX4_text 19 = .ok (.aload_n 0, 1) := by decide +kernel
theorem dX4_text_20 : decode cX4_text 20 = .ok (.getfield 11, 3) := by decide +kernel
theorem dX4_text_23 : decode cX4_text 23 = .ok (.aload_n 0, 1) := by decide +kernel
theorem dX4_text_24 : decode cX4_text 24 = .ok (.getfield 18, 3) := by decide +kernel
theorem dX4_text_27 : decode cX4_text 27 = .ok (.aaload, 1) := by decide +kernel
theorem dX4_text_28 : decode cX4_text 28 = .ok (.invokevirtual 129, 3) := by decide +kernel
theorem dX4_text_31 : decode cX4_text 31 = .ok (.istore_n 1, 1) := by decide +kernel
theorem dX4_text_32 : decode cX4_text 32 = .ok (.aload_n 0, 1) := by decide +kernel
theorem dX4_text_33 : decode cX4_text 33 = .ok (.getfield 25, 3) := by decide +kernel
theorem dX4_text_36 : decode cX4_text 36 = .ok (.iconst 0, 1) := by decide +kernel
theorem dX4_text_37 : decode cX4_text 37 = .ok (.putfield 126, 3) := by decide +kernel
theorem dX4_text_40 : decode cX4_text 40 = .ok (.iload_n 1, 1) := by decide +kernel
theorem dX4_text_41 : decode cX4_text 41 = .ok (.iconst (-1), 1) := by decide +kernel
theorem dX4_text_42 : decode cX4_text 42 = .ok (.if_icmp .eq 8, 3) := by decide +kernel
theorem dX4_text_45 : decode cX4_text 45 = .ok (.bipush (-100), 2) := by decide +kernel
theorem dX4_text_47 : decode cX4_text 47 = .ok (.iload_n 1, 1) := by decide +kernel
theorem dX4_text_48 : decode cX4_text 48 = .ok (.isub, 1) := by decide +kernel
theorem dX4_text_49 : decode cX4_text 49 = .ok (.ireturn, 1) := by decide +kernel
theorem dX4_text_50 : decode cX4_text 50 = .ok (.aload_n 0, 1) := by decide +kernel
theorem dX4_text_51 : decode cX4_text 51 = .ok (.dup, 1) := by decide +kernel
theorem dX4_text_52 : decode cX4_text 52 = .ok (.getfield 18, 3) := by decide +kernel
theorem dX4_text_55 : decode cX4_text 55 = .ok (.iconst 1, 1) := by decide +kernel
theorem dX4_text_56 : decode cX4_text 56 = .ok (.iadd, 1) := by decide +kernel
theorem dX4_text_57 : decode cX4_text 57 = .ok (.putfield 18, 3) := by decide +kernel
theorem dX4_text_60 : decode cX4_text 60 = .ok (.aload_n 0, 1) := by decide +kernel
theorem dX4_text_61 : decode cX4_text 61 = .ok (.getfield 18, 3) := by decide +kernel
theorem dX4_text_64 : decode cX4_text 64 = .ok (.iconst 1, 1) := by decide +kernel
theorem dX4_text_65 : decode cX4_text 65 = .ok (.isub, 1) := by decide +kernel
theorem dX4_text_66 : decode cX4_text 66 = .ok (.ireturn, 1) := by decide +kernel
theorem dX4_force_0 : decode cX4_force 0 = .ok (.aload_n 0, 1) := by decide +kernel
theorem dX4_force_1 : decode cX4_force 1 = .ok (.iload_n 1, 1) := by decide +kernel
theorem dX4_force_2 : decode cX4_force 2 = .ok (.invokevirtual 133, 3) := by decide +kernel
theorem dX4_force_5 : decode cX4_force 5 = .ok (.ifCond .ne 6, 3) := by decide +kernel
theorem dX4_force_8 : decode cX4_force 8 = .ok (.bipush (-2), 2) := by decide +kernel
theorem dX4_force_10 : decode cX4_force 10 = .ok (.ireturn, 1) := by decide +kernel
theorem dX4_force_11 : decode cX4_force 11 = .ok (.aload_n 0, 1) := by decide +kernel
theorem dX4_force_12 : decode cX4_force 12 = .ok (.getfield 34, 3) := by decide +kernel
theorem dX4_force_15 : decode cX4_force 15 = .ok (.getfield 136, 3) := by decide +kernel
theorem dX4_force_18 : decode cX4_force 18 = .ok (.getfield 140, 3) := by decide +kernel
theorem dX4_force_21 : decode cX4_force 21 = .ok (.istore_n 2, 1) := by decide +kernel
theorem dX4_force_22 : decode cX4_force 22 = .ok (.aload_n 0, 1) := by decide +kernel
theorem dX4_force_23 : decode cX4_force 23 = .ok (.getfield 34, 3) := by decide +kernel
theorem dX4_force_26 : decode cX4_force 26 = .ok (.aload_n 0, 1) := by decide +kernel
theorem dX4_force_27 : decode cX4_force 27 = .ok (.getfield 11, 3) := by decide +kernel
theorem dX4_force_30 : decode cX4_force 30 = .ok (.iload_n 1, 1) := by decide +kernel
theorem dX4_force_31 : decode cX4_force 31 = .ok (.aaload, 1) := by decide +kernel
theorem dX4_force_32 : decode cX4_force 32 = .ok (.putfield 136, 3) := by decide +kernel
theorem dX4_force_35 : decode cX4_force 35 = .ok (.iload_n 2, 1) := by decide +kernel
theorem dX4_force_36 : decode cX4_force 36 = .ok (.ireturn, 1) := by decide +kernel
theorem dX4_builds_0 : decode cX4_builds 0 = .ok (.aload_n 0, 1) := by decide +kernel
theorem dX4_builds_1 : decode cX4_builds 1 = .ok (.getfield 34, 3) := by decide +kernel
theorem dX4_builds_4 : decode cX4_builds 4 = .ok (.iload_n 1, 1) := by decide +kernel
theorem dX4_builds_5 : decode cX4_builds 5 = .ok (.invokevirtual 92, 3) := by decide +kernel
theorem dX4_builds_8 : decode cX4_builds 8 = .ok (.ifCond .eq 10, 3) := by decide +kernel
theorem dX4_builds_11 : decode cX4_builds 11 = .ok (.iload_n 2, 1) := by decide +kernel
theorem dX4_builds_12 : decode cX4_builds 12 = .ok (.invokestatic 85, 3) := by decide +kernel
theorem dX4_builds_15 : decode cX4_builds 15 = .ok (.ifCond .ne 6, 3) := by decide +kernel
theorem dX4_builds_18 : decode cX4_builds 18 = .ok (.bipush (-2), 2) := by decide +kernel
theorem dX4_builds_20 : decode cX4_builds 20 = .ok (.ireturn, 1) := by decide +kernel
theorem dX4_builds_21 : decode cX4_builds 21 = .ok (.aload_n 0, 1) := by decide +kernel
theorem dX4_builds_22 : decode cX4_builds 22 = .ok (.getfield 34, 3) := by decide +kernel
theorem dX4_builds_25 : decode cX4_builds 25 = .ok (.getfield 108, 3) := by decide +kernel
theorem dX4_builds_28 : decode cX4_builds 28 = .ok (.iload_n 1, 1) := by decide +kernel
theorem dX4_builds_29 : decode cX4_builds 29 = .ok (.iaload, 1) := by decide +kernel
theorem dX4_builds_30 : decode cX4_builds 30 = .ok (.ifCond .eq 6, 3) := by decide +kernel
theorem dX4_builds_33 : decode cX4_builds 33 = .ok (.bipush (-3), 2) := by decide +kernel
theorem dX4_builds_35 : decode cX4_builds 35 = .ok (.ireturn, 1) := by decide +kernel
theorem dX4_builds_36 : decode cX4_builds 36 = .ok (.aload_n 0, 1) := by decide +kernel
theorem dX4_builds_37 : decode cX4_builds 37 = .ok (.getfield 34, 3) := by decide +kernel
theorem dX4_builds_40 : decode cX4_builds 40 = .ok (.iload_n 1, 1) := by decide +kernel
theorem dX4_builds_41 : decode cX4_builds 41 = .ok (.iload_n 2, 1) := by decide +kernel
theorem dX4_builds_42 : decode cX4_builds 42 = .ok (.invokevirtual 143, 3) := by decide +kernel
theorem dX4_builds_45 : decode cX4_builds 45 = .ok (.aload_n 0, 1) := by decide +kernel
theorem dX4_builds_46 : decode cX4_builds 46 = .ok (.getfield 34, 3) := by decide +kernel
theorem dX4_builds_49 : decode cX4_builds 49 = .ok (.getfield 72, 3) := by decide +kernel
theorem dX4_builds_52 : decode cX4_builds 52 = .ok (.iload_n 2, 1) := by decide +kernel
theorem dX4_builds_53 : decode cX4_builds 53 = .ok (.iaload, 1) := by decide +kernel
theorem dX4_builds_54 : decode cX4_builds 54 = .ok (.ireturn, 1) := by decide +kernel
theorem dX4_bound_0 : decode cX4_bound 0 = .ok (.aload_n 0, 1) := by decide +kernel
theorem dX4_bound_1 : decode cX4_bound 1 = .ok (.getfield 34, 3) := by decide +kernel
theorem dX4_bound_4 : decode cX4_bound 4 = .ok (.invokevirtual 147, 3) := by decide +kernel
theorem dX4_bound_7 : decode cX4_bound 7 = .ok (.aload_n 0, 1) := by decide +kernel
theorem dX4_bound_8 : decode cX4_bound 8 = .ok (.getfield 34, 3) := by decide +kernel
theorem dX4_bound_11 : decode cX4_bound 11 = .ok (.iconst 1, 1) := by decide +kernel
theorem dX4_bound_12 : decode cX4_bound 12 = .ok (.invokevirtual 150, 3) := by decide +kernel
theorem dX4_bound_15 : decode cX4_bound 15 = .ok (.ireturn, 1) := by decide +kernel
theorem dX4_home_0 : decode cX4_home 0 = .ok (.aload_n 0, 1) := by decide +kernel
theorem dX4_home_1 : decode cX4_home 1 = .ok (.getfield 34, 3) := by decide +kernel
theorem dX4_home_4 : decode cX4_home 4 = .ok (.invokevirtual 153, 3) := by decide +kernel
theorem dX4_home_7 : decode cX4_home 7 = .ok (.ifCond .eq 6, 3) := by decide +kernel
theorem dX4_home_10 : decode cX4_home 10 = .ok (.bipush (-3), 2) := by decide +kernel
theorem dX4_home_12 : decode cX4_home 12 = .ok (.ireturn, 1) := by decide +kernel
theorem dX4_home_13 : decode cX4_home 13 = .ok (.aload_n 0, 1) := by decide +kernel
theorem dX4_home_14 : decode cX4_home 14 = .ok (.getfield 34, 3) := by decide +kernel
theorem dX4_home_17 : decode cX4_home 17 = .ok (.iconst 1, 1) := by decide +kernel
theorem dX4_home_18 : decode cX4_home 18 = .ok (.invokevirtual 150, 3) := by decide +kernel
theorem dX4_home_21 : decode cX4_home 21 = .ok (.istore_n 1, 1) := by decide +kernel
theorem dX4_home_22 : decode cX4_home 22 = .ok (.aload_n 0, 1) := by decide +kernel
theorem dX4_home_23 : decode cX4_home 23 = .ok (.getfield 34, 3) := by decide +kernel
theorem dX4_home_26 : decode cX4_home 26 = .ok (.iconst 1, 1) := by decide +kernel
theorem dX4_home_27 : decode cX4_home 27 = .ok (.iconst 0, 1) := by decide +kernel
theorem dX4_home_28 : decode cX4_home 28 = .ok (.invokevirtual 157, 3) := by decide +kernel
theorem dX4_home_31 : decode cX4_home 31 = .ok (.iload_n 1, 1) := by decide +kernel
theorem dX4_home_32 : decode cX4_home 32 = .ok (.ireturn, 1) := by decide +kernel
theorem dX4_day_0 : decode cX4_day 0 = .ok (.aload_n 0, 1) := by decide +kernel
theorem dX4_day_1 : decode cX4_day 1 = .ok (.getfield 34, 3) := by decide +kernel
theorem dX4_day_4 : decode cX4_day 4 = .ok (.getfield 63, 3) := by decide +kernel
theorem dX4_day_7 : decode cX4_day 7 = .ok (.sipush 999, 3) := by decide +kernel
theorem dX4_day_10 : decode cX4_day 10 = .ok (.if_icmp .ge 13, 3) := by decide +kernel
theorem dX4_day_13 : decode cX4_day 13 = .ok (.aload_n 0, 1) := by decide +kernel
theorem dX4_day_14 : decode cX4_day 14 = .ok (.getfield 34, 3) := by decide +kernel
theorem dX4_day_17 : decode cX4_day 17 = .ok (.invokevirtual 153, 3) := by decide +kernel
theorem dX4_day_20 : decode cX4_day 20 = .ok (.ifCond .eq 6, 3) := by decide +kernel
theorem dX4_day_23 : decode cX4_day 23 = .ok (.bipush (-3), 2) := by decide +kernel
theorem dX4_day_25 : decode cX4_day 25 = .ok (.ireturn, 1) := by decide +kernel
theorem dX4_day_26 : decode cX4_day 26 = .ok (.aload_n 0, 1) := by decide +kernel
theorem dX4_day_27 : decode cX4_day 27 = .ok (.getfield 34, 3) := by decide +kernel
theorem dX4_day_30 : decode cX4_day 30 = .ok (.invokevirtual 160, 3) := by decide +kernel
theorem dX4_day_33 : decode cX4_day 33 = .ok (.aload_n 0, 1) := by decide +kernel
theorem dX4_day_34 : decode cX4_day 34 = .ok (.getfield 34, 3) := by decide +kernel
theorem dX4_day_37 : decode cX4_day 37 = .ok (.getfield 69, 3) := by decide +kernel
theorem dX4_day_40 : decode cX4_day 40 = .ok (.ireturn, 1) := by decide +kernel
theorem dX4_run_0 : decode cX4_run 0 = .ok (.iload_n 1, 1) := by decide +kernel
theorem dX4_run_1 : decode cX4_run 1 = .ok (.iconst 0, 1) := by decide +kernel
theorem dX4_run_2 : decode cX4_run 2 = .ok (.bipush 40, 2) := by decide +kernel
theorem dX4_run_4 : decode cX4_run 4 = .ok (.invokestatic 55, 3) := by decide +kernel
theorem dX4_run_7 : decode cX4_run 7 = .ok (.ifCond .eq 22, 3) := by decide +kernel
theorem dX4_run_10 : decode cX4_run 10 = .ok (.iload_n 2, 1) := by decide +kernel
theorem dX4_run_11 : decode cX4_run 11 = .ok (.iconst 0, 1) := by decide +kernel
theorem dX4_run_12 : decode cX4_run 12 = .ok (.iconst 2, 1) := by decide +kernel
theorem dX4_run_13 : decode cX4_run 13 = .ok (.invokestatic 55, 3) := by decide +kernel
theorem dX4_run_16 : decode cX4_run 16 = .ok (.ifCond .ne 16, 3) := by decide +kernel
theorem dX4_run_19 : decode cX4_run 19 = .ok (.iload_n 2, 1) := by decide +kernel
theorem dX4_run_20 : decode cX4_run 20 = .ok (.bipush 10, 2) := by decide +kernel
theorem dX4_run_22 : decode cX4_run 22 = .ok (.isub, 1) := by decide +kernel
theorem dX4_run_23 : decode cX4_run 23 = .ok (.invokestatic 85, 3) := by decide +kernel
theorem dX4_run_26 : decode cX4_run 26 = .ok (.ifCond .ne 6, 3) := by decide +kernel
theorem dX4_run_29 : decode cX4_run 29 = .ok (.bipush (-2), 2) := by decide +kernel
theorem dX4_run_31 : decode cX4_run 31 = .ok (.ireturn, 1) := by decide +kernel
theorem dX4_run_32 : decode cX4_run 32 = .ok (.aload_n 0, 1) := by decide +kernel
theorem dX4_run_33 : decode cX4_run 33 = .ok (.getfield 38, 3) := by decide +kernel
theorem dX4_run_36 : decode cX4_run 36 = .ok (.aload_n 0, 1) := by decide +kernel
theorem dX4_run_37 : decode cX4_run 37 = .ok (.getfield 34, 3) := by decide +kernel
theorem dX4_run_40 : decode cX4_run 40 = .ok (.invokevirtual 163, 3) := by decide +kernel
theorem dX4_run_43 : decode cX4_run 43 = .ok (.aload_n 0, 1) := by decide +kernel
theorem dX4_run_44 : decode cX4_run 44 = .ok (.getfield 38, 3) := by decide +kernel
theorem dX4_run_47 : decode cX4_run 47 = .ok (.iload_n 1, 1) := by decide +kernel
theorem dX4_run_48 : decode cX4_run 48 = .ok (.invokevirtual 167, 3) := by decide +kernel
theorem dX4_run_51 : decode cX4_run 51 = .ok (.iload_n 2, 1) := by decide +kernel
theorem dX4_run_52 : decode cX4_run 52 = .ok (.tableswitch 53 0 2 #[28, 36, 45], 28) := by decide +kernel
theorem dX4_run_80 : decode cX4_run 80 = .ok (.aload_n 0, 1) := by decide +kernel
theorem dX4_run_81 : decode cX4_run 81 = .ok (.getfield 38, 3) := by decide +kernel
theorem dX4_run_84 : decode cX4_run 84 = .ok (.getfield 69, 3) := by decide +kernel
theorem dX4_run_87 : decode cX4_run 87 = .ok (.ireturn, 1) := by decide +kernel
theorem dX4_run_88 : decode cX4_run 88 = .ok (.aload_n 0, 1) := by decide +kernel
theorem dX4_run_89 : decode cX4_run 89 = .ok (.getfield 38, 3) := by decide +kernel
theorem dX4_run_92 : decode cX4_run 92 = .ok (.iconst 2, 1) := by decide +kernel
theorem dX4_run_93 : decode cX4_run 93 = .ok (.invokevirtual 150, 3) := by decide +kernel
theorem dX4_run_96 : decode cX4_run 96 = .ok (.ireturn, 1) := by decide +kernel
theorem dX4_run_97 : decode cX4_run 97 = .ok (.aload_n 0, 1) := by decide +kernel
theorem dX4_run_98 : decode cX4_run 98 = .ok (.getfield 38, 3) := by decide +kernel
theorem dX4_run_101 : decode cX4_run 101 = .ok (.invokevirtual 170, 3) := by decide +kernel
theorem dX4_run_104 : decode cX4_run 104 = .ok (.ireturn, 1) := by decide +kernel
theorem dX4_run_105 : decode cX4_run 105 = .ok (.aload_n 0, 1) := by decide +kernel
theorem dX4_run_106 : decode cX4_run 106 = .ok (.getfield 38, 3) := by decide +kernel
theorem dX4_run_109 : decode cX4_run 109 = .ok (.getfield 72, 3) := by decide +kernel
theorem dX4_run_112 : decode cX4_run 112 = .ok (.iload_n 2, 1) := by decide +kernel
theorem dX4_run_113 : decode cX4_run 113 = .ok (.bipush 10, 2) := by decide +kernel
theorem dX4_run_115 : decode cX4_run 115 = .ok (.isub, 1) := by decide +kernel
theorem dX4_run_116 : decode cX4_run 116 = .ok (.iaload, 1) := by decide +kernel
theorem dX4_run_117 : decode cX4_run 117 = .ok (.ireturn, 1) := by decide +kernel
theorem dX4_down_0 : decode cX4_down 0 = .ok (.aload_n 0, 1) := by decide +kernel
theorem dX4_down_1 : decode cX4_down 1 = .ok (.getfield 38, 3) := by decide +kernel
theorem dX4_down_4 : decode cX4_down 4 = .ok (.aload_n 0, 1) := by decide +kernel
theorem dX4_down_5 : decode cX4_down 5 = .ok (.getfield 34, 3) := by decide +kernel
theorem dX4_down_8 : decode cX4_down 8 = .ok (.invokevirtual 163, 3) := by decide +kernel
theorem dX4_down_11 : decode cX4_down 11 = .ok (.iconst 0, 1) := by decide +kernel
theorem dX4_down_12 : decode cX4_down 12 = .ok (.istore_n 1, 1) := by decide +kernel
theorem dX4_down_13 : decode cX4_down 13 = .ok (.iload_n 1, 1) := by decide +kernel
theorem dX4_down_14 : decode cX4_down 14 = .ok (.bipush 60, 2) := by decide +kernel
theorem dX4_down_16 : decode cX4_down 16 = .ok (.if_icmp .gt 28, 3) := by decide +kernel
theorem dX4_down_19 : decode cX4_down 19 = .ok (.aload_n 0, 1) := by decide +kernel
theorem dX4_down_20 : decode cX4_down 20 = .ok (.getfield 38, 3) := by decide +kernel
theorem dX4_down_23 : decode cX4_down 23 = .ok (.invokevirtual 153, 3) := by decide +kernel
theorem dX4_down_26 : decode cX4_down 26 = .ok (.ifCond .eq 5, 3) := by decide +kernel
theorem dX4_down_29 : decode cX4_down 29 = .ok (.iload_n 1, 1) := by decide +kernel
theorem dX4_down_30 : decode cX4_down 30 = .ok (.ireturn, 1) := by decide +kernel
theorem dX4_down_31 : decode cX4_down 31 = .ok (.aload_n 0, 1) := by decide +kernel
theorem dX4_down_32 : decode cX4_down 32 = .ok (.getfield 38, 3) := by decide +kernel
theorem dX4_down_35 : decode cX4_down 35 = .ok (.invokevirtual 160, 3) := by decide +kernel
theorem dX4_down_38 : decode cX4_down 38 = .ok (.iinc 1 1, 3) := by decide +kernel
theorem dX4_down_41 : decode cX4_down 41 = .ok (.goto (-28), 3) := by decide +kernel
theorem dX4_down_44 : decode cX4_down 44 = .ok (.iconst (-1), 1) := by decide +kernel
theorem dX4_down_45 : decode cX4_down 45 = .ok (.ireturn, 1) := by decide +kernel
theorem dX4_yard_0 : decode cX4_yard 0 = .ok (.iload_n 1, 1) := by decide +kernel
theorem dX4_yard_1 : decode cX4_yard 1 = .ok (.iconst 0, 1) := by decide +kernel
theorem dX4_yard_2 : decode cX4_yard 2 = .ok (.bipush 20, 2) := by decide +kernel
theorem dX4_yard_4 : decode cX4_yard 4 = .ok (.invokestatic 55, 3) := by decide +kernel
theorem dX4_yard_7 : decode cX4_yard 7 = .ok (.ifCond .eq 12, 3) := by decide +kernel
theorem dX4_yard_10 : decode cX4_yard 10 = .ok (.iload_n 2, 1) := by decide +kernel
theorem dX4_yard_11 : decode cX4_yard 11 = .ok (.iconst 0, 1) := by decide +kernel
theorem dX4_yard_12 : decode cX4_yard 12 = .ok (.iconst 1, 1) := by decide +kernel
theorem dX4_yard_13 : decode cX4_yard 13 = .ok (.invokestatic 55, 3) := by decide +kernel
theorem dX4_yard_16 : decode cX4_yard 16 = .ok (.ifCond .ne 6, 3) := by decide +kernel
theorem dX4_yard_19 : decode cX4_yard 19 = .ok (.bipush (-2), 2) := by decide +kernel
theorem dX4_yard_21 : decode cX4_yard 21 = .ok (.ireturn, 1) := by decide +kernel
theorem dX4_yard_22 : decode cX4_yard 22 = .ok (.aload_n 0, 1) := by decide +kernel
theorem dX4_yard_23 : decode cX4_yard 23 = .ok (.getfield 34, 3) := by decide +kernel
theorem dX4_yard_26 : decode cX4_yard 26 = .ok (.iconst 0, 1) := by decide +kernel
theorem dX4_yard_27 : decode cX4_yard 27 = .ok (.invokevirtual 150, 3) := by decide +kernel
theorem dX4_yard_30 : decode cX4_yard 30 = .ok (.ifCond .ne 7, 3) := by decide +kernel
theorem dX4_yard_33 : decode cX4_yard 33 = .ok (.iconst 0, 1) := by decide +kernel
theorem dX4_yard_34 : decode cX4_yard 34 = .ok (.goto 17, 3) := by decide +kernel
theorem dX4_yard_37 : decode cX4_yard 37 = .ok (.iconst 3, 1) := by decide +kernel
theorem dX4_yard_38 : decode cX4_yard 38 = .ok (.bipush 10, 2) := by decide +kernel
theorem dX4_yard_40 : decode cX4_yard 40 = .ok (.aload_n 0, 1) := by decide +kernel
theorem dX4_yard_41 : decode cX4_yard 41 = .ok (.getfield 34, 3) := by decide +kernel
theorem dX4_yard_44 : decode cX4_yard 44 = .ok (.invokevirtual 174, 3) := by decide +kernel
theorem dX4_yard_47 : decode cX4_yard 47 = .ok (.isub, 1) := by decide +kernel
theorem dX4_yard_48 : decode cX4_yard 48 = .ok (.invokestatic 177, 3) := by decide +kernel
theorem dX4_yard_51 : decode cX4_yard 51 = .ok (.istore_n 3, 1) := by decide +kernel
theorem dX4_yard_52 : decode cX4_yard 52 = .ok (.iconst 0, 1) := by decide +kernel
theorem dX4_yard_53 : decode cX4_yard 53 = .ok (.istore 4, 2) := by decide +kernel
theorem dX4_yard_55 : decode cX4_yard 55 = .ok (.bipush 101, 2) := by decide +kernel
theorem dX4_yard_57 : decode cX4_yard 57 = .ok (.istore 5, 2) := by decide +kernel
theorem dX4_yard_59 : decode cX4_yard 59 = .ok (.iconst 0, 1) := by decide +kernel
theorem dX4_yard_60 : decode cX4_yard 60 = .ok (.istore 6, 2) := by decide +kernel
theorem dX4_yard_62 : decode cX4_yard 62 = .ok (.iload 6, 2) := by decide +kernel
theorem dX4_yard_64 : decode cX4_yard 64 = .ok (.getstatic 182, 3) := by decide +kernel
theorem dX4_yard_67 : decode cX4_yard 67 = .ok (.iload_n 3, 1) := by decide +kernel
theorem dX4_yard_68 : decode cX4_yard 68 = .ok (.iaload, 1) := by decide +kernel
theorem dX4_yard_69 : decode cX4_yard 69 = .ok (.if_icmp .ge 39, 3) := by decide +kernel
theorem dX4_yard_72 : decode cX4_yard 72 = .ok (.iload 5, 2) := by decide +kernel
theorem dX4_yard_74 : decode cX4_yard 74 = .ok (.ifCond .le 34, 3) := by decide +kernel
theorem dX4_yard_77 : decode cX4_yard 77 = .ok (.aload_n 0, 1) := by decide +kernel
theorem dX4_yard_78 : decode cX4_yard 78 = .ok (.iload 6, 2) := by decide +kernel
theorem dX4_yard_80 : decode cX4_yard 80 = .ok (.iload_n 3, 1) := by decide +kernel
theorem dX4_yard_81 : decode cX4_yard 81 = .ok (.iload_n 1, 1) := by decide +kernel
theorem dX4_yard_82 : decode cX4_yard 82 = .ok (.invokevirtual 185, 3) := by decide +kernel
theorem dX4_yard_85 : decode cX4_yard 85 = .ok (.istore 7, 2) := by decide +kernel
theorem dX4_yard_87 : decode cX4_yard 87 = .ok (.iload 7, 2) := by decide +kernel
theorem dX4_yard_89 : decode cX4_yard 89 = .ok (.iload 5, 2) := by decide +kernel
theorem dX4_yard_91 : decode cX4_yard 91 = .ok (.if_icmp .ge 11, 3) := by decide +kernel
theorem dX4_yard_94 : decode cX4_yard 94 = .ok (.iload 6, 2) := by decide +kernel
theorem dX4_yard_96 : decode cX4_yard 96 = .ok (.istore 4, 2) := by decide +kernel
theorem dX4_yard_98 : decode cX4_yard 98 = .ok (.iload 7, 2) := by decide +kernel
theorem dX4_yard_100 : decode cX4_yard 100 = .ok (.istore 5, 2) := by decide +kernel
theorem dX4_yard_102 : decode cX4_yard 102 = .ok (.iinc 6 1, 3) := by decide +kernel
theorem dX4_yard_105 : decode cX4_yard 105 = .ok (.goto (-43), 3) := by decide +kernel
theorem dX4_yard_108 : decode cX4_yard 108 = .ok (.iload_n 2, 1) := by decide +kernel
theorem dX4_yard_109 : decode cX4_yard 109 = .ok (.ifCond .ne 8, 3) := by decide +kernel
theorem dX4_yard_112 : decode cX4_yard 112 = .ok (.iload 4, 2) := by decide +kernel
theorem dX4_yard_114 : decode cX4_yard 114 = .ok (.goto 5, 3) := by decide +kernel
theorem dX4_yard_117 : decode cX4_yard 117 = .ok (.iload 5, 2) := by decide +kernel
theorem dX4_yard_119 : decode cX4_yard 119 = .ok (.ireturn, 1) := by decide +kernel
theorem dX4_waterBy_0 : decode cX4_waterBy 0 = .ok (.aload_n 0, 1) := by decide +kernel
theorem dX4_waterBy_1 : decode cX4_waterBy 1 = .ok (.getfield 38, 3) := by decide +kernel
theorem dX4_waterBy_4 : decode cX4_waterBy 4 = .ok (.aload_n 0, 1) := by decide +kernel
theorem dX4_waterBy_5 : decode cX4_waterBy 5 = .ok (.getfield 34, 3) := by decide +kernel
theorem dX4_waterBy_8 : decode cX4_waterBy 8 = .ok (.invokevirtual 163, 3) := by decide +kernel
theorem dX4_waterBy_11 : decode cX4_waterBy 11 = .ok (.iconst (-1), 1) := by decide +kernel
theorem dX4_waterBy_12 : decode cX4_waterBy 12 = .ok (.istore 4, 2) := by decide +kernel
theorem dX4_waterBy_14 : decode cX4_waterBy 14 = .ok (.iload_n 2, 1) := by decide +kernel
theorem dX4_waterBy_15 : decode cX4_waterBy 15 = .ok (.iconst 1, 1) := by decide +kernel
theorem dX4_waterBy_16 : decode cX4_waterBy 16 = .ok (.isub, 1) := by decide +kernel
theorem dX4_waterBy_17 : decode cX4_waterBy 17 = .ok (.istore 5, 2) := by decide +kernel
theorem dX4_waterBy_19 : decode cX4_waterBy 19 = .ok (.iload 5, 2) := by decide +kernel
theorem dX4_waterBy_21 : decode cX4_waterBy 21 = .ok (.ifCond .lt 82, 3) := by decide +kernel
theorem dX4_waterBy_24 : decode cX4_waterBy 24 = .ok (.iload_n 1, 1) := by decide +kernel
theorem dX4_waterBy_25 : decode cX4_waterBy 25 = .ok (.getstatic 182, 3) := by decide +kernel
theorem dX4_waterBy_28 : decode cX4_waterBy 28 = .ok (.iload 5, 2) := by decide +kernel
theorem dX4_waterBy_30 : decode cX4_waterBy 30 = .ok (.iaload, 1) := by decide +kernel
theorem dX4_waterBy_31 : decode cX4_waterBy 31 = .ok (.idiv, 1) := by decide +kernel
theorem dX4_waterBy_32 : decode cX4_waterBy 32 = .ok (.bipush 6, 2) := by decide +kernel
theorem dX4_waterBy_34 : decode cX4_waterBy 34 = .ok (.irem, 1) := by decide +kernel
theorem dX4_waterBy_35 : decode cX4_waterBy 35 = .ok (.iconst 1, 1) := by decide +kernel
theorem dX4_waterBy_36 : decode cX4_waterBy 36 = .ok (.isub, 1) := by decide +kernel
theorem dX4_waterBy_37 : decode cX4_waterBy 37 = .ok (.istore 6, 2) := by decide +kernel
theorem dX4_waterBy_39 : decode cX4_waterBy 39 = .ok (.aload_n 0, 1) := by decide +kernel
theorem dX4_waterBy_40 : decode cX4_waterBy 40 = .ok (.getfield 38, 3) := by decide +kernel
theorem dX4_waterBy_43 : decode cX4_waterBy 43 = .ok (.iload 4, 2) := by decide +kernel
theorem dX4_waterBy_45 : decode cX4_waterBy 45 = .ok (.iconst 1, 1) := by decide +kernel
theorem dX4_waterBy_46 : decode cX4_waterBy 46 = .ok (.iadd, 1) := by decide +kernel
theorem dX4_waterBy_47 : decode cX4_waterBy 47 = .ok (.invokevirtual 188, 3) := by decide +kernel
theorem dX4_waterBy_50 : decode cX4_waterBy 50 = .ok (.istore 4, 2) := by decide +kernel
theorem dX4_waterBy_52 : decode cX4_waterBy 52 = .ok (.iload 4, 2) := by decide +kernel
theorem dX4_waterBy_54 : decode cX4_waterBy 54 = .ok (.iconst (-1), 1) := by decide +kernel
theorem dX4_waterBy_55 : decode cX4_waterBy 55 = .ok (.if_icmp .eq 28, 3) := by decide +kernel
theorem dX4_waterBy_58 : decode cX4_waterBy 58 = .ok (.aload_n 0, 1) := by decide +kernel
theorem dX4_waterBy_59 : decode cX4_waterBy 59 = .ok (.getfield 38, 3) := by decide +kernel
theorem dX4_waterBy_62 : decode cX4_waterBy 62 = .ok (.iload 6, 2) := by decide +kernel
theorem dX4_waterBy_64 : decode cX4_waterBy 64 = .ok (.invokevirtual 92, 3) := by decide +kernel
theorem dX4_waterBy_67 : decode cX4_waterBy 67 = .ok (.ifCond .eq 16, 3) := by decide +kernel
theorem dX4_waterBy_70 : decode cX4_waterBy 70 = .ok (.aload_n 0, 1) := by decide +kernel
theorem dX4_waterBy_71 : decode cX4_waterBy 71 = .ok (.getfield 38, 3) := by decide +kernel
theorem dX4_waterBy_74 : decode cX4_waterBy 74 = .ok (.getfield 108, 3) := by decide +kernel
theorem dX4_waterBy_77 : decode cX4_waterBy 77 = .ok (.iload 6, 2) := by decide +kernel
theorem dX4_waterBy_79 : decode cX4_waterBy 79 = .ok (.iaload, 1) := by decide +kernel
theorem dX4_waterBy_80 : decode cX4_waterBy 80 = .ok (.ifCond .eq 6, 3) := by decide +kernel
theorem dX4_waterBy_83 : decode cX4_waterBy 83 = .ok (.bipush 101, 2) := by decide +kernel
theorem dX4_waterBy_85 : decode cX4_waterBy 85 = .ok (.ireturn, 1) := by decide +kernel
theorem dX4_waterBy_86 : decode cX4_waterBy 86 = .ok (.aload_n 0, 1) := by decide +kernel
theorem dX4_waterBy_87 : decode cX4_waterBy 87 = .ok (.getfield 38, 3) := by decide +kernel
theorem dX4_waterBy_90 : decode cX4_waterBy 90 = .ok (.iload 6, 2) := by decide +kernel
theorem dX4_waterBy_92 : decode cX4_waterBy 92 = .ok (.iload 4, 2) := by decide +kernel
theorem dX4_waterBy_94 : decode cX4_waterBy 94 = .ok (.invokevirtual 143, 3) := by decide +kernel
theorem dX4_waterBy_97 : decode cX4_waterBy 97 = .ok (.iinc 5 (-1), 3) := by decide +kernel
theorem dX4_waterBy_100 : decode cX4_waterBy 100 = .ok (.goto (-81), 3) := by decide +kernel
theorem dX4_waterBy_103 : decode cX4_waterBy 103 = .ok (.aload_n 0, 1) := by decide +kernel
theorem dX4_waterBy_104 : decode cX4_waterBy 104 = .ok (.getfield 38, 3) := by decide +kernel
theorem dX4_waterBy_107 : decode cX4_waterBy 107 = .ok (.invokevirtual 147, 3) := by decide +kernel
theorem dX4_waterBy_110 : decode cX4_waterBy 110 = .ok (.aload_n 0, 1) := by decide +kernel
theorem dX4_waterBy_111 : decode cX4_waterBy 111 = .ok (.getfield 38, 3) := by decide +kernel
theorem dX4_waterBy_114 : decode cX4_waterBy 114 = .ok (.iload_n 3, 1) := by decide +kernel
theorem dX4_waterBy_115 : decode cX4_waterBy 115 = .ok (.invokevirtual 167, 3) := by decide +kernel
theorem dX4_waterBy_118 : decode cX4_waterBy 118 = .ok (.aload_n 0, 1) := by decide +kernel
theorem dX4_waterBy_119 : decode cX4_waterBy 119 = .ok (.getfield 38, 3) := by decide +kernel
theorem dX4_waterBy_122 : decode cX4_waterBy 122 = .ok (.getfield 69, 3) := by decide +kernel
theorem dX4_waterBy_125 : decode cX4_waterBy 125 = .ok (.ireturn, 1) := by decide +kernel
theorem dX4_stands_0 : decode cX4_stands 0 = .ok (.iload_n 1, 1) := by decide +kernel
theorem dX4_stands_1 : decode cX4_stands 1 = .ok (.iconst 1, 1) := by decide +kernel
theorem dX4_stands_2 : decode cX4_stands 2 = .ok (.bipush 40, 2) := by decide +kernel
theorem dX4_stands_4 : decode cX4_stands 4 = .ok (.invokestatic 55, 3) := by decide +kernel
theorem dX4_stands_7 : decode cX4_stands 7 = .ok (.ifCond .ne 6, 3) := by decide +kernel
theorem dX4_stands_10 : decode cX4_stands 10 = .ok (.bipush (-2), 2) := by decide +kernel
theorem dX4_stands_12 : decode cX4_stands 12 = .ok (.ireturn, 1) := by decide +kernel
theorem dX4_stands_13 : decode cX4_stands 13 = .ok (.bipush 99, 2) := by decide +kernel
theorem dX4_stands_15 : decode cX4_stands 15 = .ok (.istore_n 2, 1) := by decide +kernel
theorem dX4_stands_16 : decode cX4_stands 16 = .ok (.iload_n 2, 1) := by decide +kernel
theorem dX4_stands_17 : decode cX4_stands 17 = .ok (.ifCond .lt 48, 3) := by decide +kernel
theorem dX4_stands_20 : decode cX4_stands 20 = .ok (.aload_n 0, 1) := by decide +kernel
theorem dX4_stands_21 : decode cX4_stands 21 = .ok (.getfield 38, 3) := by decide +kernel
theorem dX4_stands_24 : decode cX4_stands 24 = .ok (.aload_n 0, 1) := by decide +kernel
theorem dX4_stands_25 : decode cX4_stands 25 = .ok (.getfield 34, 3) := by decide +kernel
theorem dX4_stands_28 : decode cX4_stands 28 = .ok (.invokevirtual 163, 3) := by decide +kernel
theorem dX4_stands_31 : decode cX4_stands 31 = .ok (.aload_n 0, 1) := by decide +kernel
theorem dX4_stands_32 : decode cX4_stands 32 = .ok (.getfield 38, 3) := by decide +kernel
theorem dX4_stands_35 : decode cX4_stands 35 = .ok (.iload_n 2, 1) := by decide +kernel
theorem dX4_stands_36 : decode cX4_stands 36 = .ok (.putfield 66, 3) := by decide +kernel
theorem dX4_stands_39 : decode cX4_stands 39 = .ok (.aload_n 0, 1) := by decide +kernel
theorem dX4_stands_40 : decode cX4_stands 40 = .ok (.getfield 38, 3) := by decide +kernel
theorem dX4_stands_43 : decode cX4_stands 43 = .ok (.iload_n 1, 1) := by decide +kernel
theorem dX4_stands_44 : decode cX4_stands 44 = .ok (.invokevirtual 167, 3) := by decide +kernel
theorem dX4_stands_47 : decode cX4_stands 47 = .ok (.aload_n 0, 1) := by decide +kernel
theorem dX4_stands_48 : decode cX4_stands 48 = .ok (.getfield 38, 3) := by decide +kernel
theorem dX4_stands_51 : decode cX4_stands 51 = .ok (.invokevirtual 153, 3) := by decide +kernel
theorem dX4_stands_54 : decode cX4_stands 54 = .ok (.ifCond .ne 5, 3) := by decide +kernel
theorem dX4_stands_57 : decode cX4_stands 57 = .ok (.iload_n 2, 1) := by decide +kernel
theorem dX4_stands_58 : decode cX4_stands 58 = .ok (.ireturn, 1) := by decide +kernel
theorem dX4_stands_59 : decode cX4_stands 59 = .ok (.iinc 2 (-1), 3) := by decide +kernel
theorem dX4_stands_62 : decode cX4_stands 62 = .ok (.goto (-46), 3) := by decide +kernel
theorem dX4_stands_65 : decode cX4_stands 65 = .ok (.iconst (-1), 1) := by decide +kernel
theorem dX4_stands_66 : decode cX4_stands 66 = .ok (.ireturn, 1) := by decide +kernel
theorem dX4_go_0 : decode cX4_go 0 = .ok (.iload_n 1, 1) := by decide +kernel
theorem dX4_go_1 : decode cX4_go 1 = .ok (.iconst 0, 1) := by decide +kernel
theorem dX4_go_2 : decode cX4_go 2 = .ok (.bipush 40, 2) := by decide +kernel
theorem dX4_go_4 : decode cX4_go 4 = .ok (.invokestatic 55, 3) := by decide +kernel
theorem dX4_go_7 : decode cX4_go 7 = .ok (.ifCond .eq 12, 3) := by decide +kernel
theorem dX4_go_10 : decode cX4_go 10 = .ok (.iload_n 2, 1) := by decide +kernel
theorem dX4_go_11 : decode cX4_go 11 = .ok (.iconst 0, 1) := by decide +kernel
theorem dX4_go_12 : decode cX4_go 12 = .ok (.iconst 1, 1) := by decide +kernel
theorem dX4_go_13 : decode cX4_go 13 = .ok (.invokestatic 55, 3) := by decide +kernel
theorem dX4_go_16 : decode cX4_go 16 = .ok (.ifCond .ne 6, 3) := by decide +kernel
theorem dX4_go_19 : decode cX4_go 19 = .ok (.bipush (-2), 2) := by decide +kernel
theorem dX4_go_21 : decode cX4_go 21 = .ok (.ireturn, 1) := by decide +kernel
theorem dX4_go_22 : decode cX4_go 22 = .ok (.iconst (-1), 1) := by decide +kernel
theorem dX4_go_23 : decode cX4_go 23 = .ok (.istore_n 3, 1) := by decide +kernel
theorem dX4_go_24 : decode cX4_go 24 = .ok (.bipush 6, 2) := by decide +kernel
theorem dX4_go_26 : decode cX4_go 26 = .ok (.istore 4, 2) := by decide +kernel
theorem dX4_go_28 : decode cX4_go 28 = .ok (.iconst 0, 1) := by decide +kernel
theorem dX4_go_29 : decode cX4_go 29 = .ok (.istore 5, 2) := by decide +kernel
theorem dX4_go_31 : decode cX4_go 31 = .ok (.iload 5, 2) := by decide +kernel
theorem dX4_go_33 : decode cX4_go 33 = .ok (.iconst 1, 1) := by decide +kernel
theorem dX4_go_34 : decode cX4_go 34 = .ok (.aload_n 0, 1) := by decide +kernel
theorem dX4_go_35 : decode cX4_go 35 = .ok (.getfield 34, 3) := by decide +kernel
theorem dX4_go_38 : decode cX4_go 38 = .ok (.getfield 191, 3) := by decide +kernel
theorem dX4_go_41 : decode cX4_go 41 = .ok (.ishl, 1) := by decide +kernel
theorem dX4_go_42 : decode cX4_go 42 = .ok (.if_icmp .ge 40, 3) := by decide +kernel
theorem dX4_go_45 : decode cX4_go 45 = .ok (.iload 5, 2) := by decide +kernel
theorem dX4_go_47 : decode cX4_go 47 = .ok (.invokestatic 194, 3) := by decide +kernel
theorem dX4_go_50 : decode cX4_go 50 = .ok (.istore 6, 2) := by decide +kernel
theorem dX4_go_52 : decode cX4_go 52 = .ok (.iload 6, 2) := by decide +kernel
theorem dX4_go_54 : decode cX4_go 54 = .ok (.iload 4, 2) := by decide +kernel
theorem dX4_go_56 : decode cX4_go 56 = .ok (.if_icmp .ge 20, 3) := by decide +kernel
theorem dX4_go_59 : decode cX4_go 59 = .ok (.aload_n 0, 1) := by decide +kernel
theorem dX4_go_60 : decode cX4_go 60 = .ok (.iload 5, 2) := by decide +kernel
theorem dX4_go_62 : decode cX4_go 62 = .ok (.iload_n 1, 1) := by decide +kernel
theorem dX4_go_63 : decode cX4_go 63 = .ok (.invokevirtual 199, 3) := by decide +kernel
theorem dX4_go_66 : decode cX4_go 66 = .ok (.ifCond .eq 10, 3) := by decide +kernel
theorem dX4_go_69 : decode cX4_go 69 = .ok (.iload 5, 2) := by decide +kernel
theorem dX4_go_71 : decode cX4_go 71 = .ok (.istore_n 3, 1) := by decide +kernel
theorem dX4_go_72 : decode cX4_go 72 = .ok (.iload 6, 2) := by decide +kernel
theorem dX4_go_74 : decode cX4_go 74 = .ok (.istore 4, 2) := by decide +kernel
theorem dX4_go_76 : decode cX4_go 76 = .ok (.iinc 5 1, 3) := by decide +kernel
theorem dX4_go_79 : decode cX4_go 79 = .ok (.goto (-48), 3) := by decide +kernel
theorem dX4_go_82 : decode cX4_go 82 = .ok (.iload_n 2, 1) := by decide +kernel
theorem dX4_go_83 : decode cX4_go 83 = .ok (.ifCond .eq 8, 3) := by decide +kernel
theorem dX4_go_86 : decode cX4_go 86 = .ok (.iload_n 3, 1) := by decide +kernel
theorem dX4_go_87 : decode cX4_go 87 = .ok (.iconst (-1), 1) := by decide +kernel
theorem dX4_go_88 : decode cX4_go 88 = .ok (.if_icmp .ne 7, 3) := by decide +kernel
theorem dX4_go_91 : decode cX4_go 91 = .ok (.iload_n 3, 1) := by decide +kernel
theorem dX4_go_92 : decode cX4_go 92 = .ok (.goto 5, 3) := by decide +kernel
theorem dX4_go_95 : decode cX4_go 95 = .ok (.iload 4, 2) := by decide +kernel
theorem dX4_go_97 : decode cX4_go 97 = .ok (.ireturn, 1) := by decide +kernel
theorem dX4_comesHomeWith_0 : decode cX4_comesHomeWith 0 = .ok (.iload_n 1, 1) := by decide +kernel
theorem dX4_comesHomeWith_1 : decode cX4_comesHomeWith 1 = .ok (.aload_n 0, 1) := by decide +kernel
theorem dX4_comesHomeWith_2 : decode cX4_comesHomeWith 2 = .ok (.getfield 34, 3) := by decide +kernel
theorem dX4_comesHomeWith_5 : decode cX4_comesHomeWith 5 = .ok (.iconst 2, 1) := by decide +kernel
theorem dX4_comesHomeWith_6 : decode cX4_comesHomeWith 6 = .ok (.invokevirtual 150, 3) := by decide +kernel
theorem dX4_comesHomeWith_9 : decode cX4_comesHomeWith 9 = .ok (.iand, 1) := by decide +kernel
theorem dX4_comesHomeWith_10 : decode cX4_comesHomeWith 10 = .ok (.ifCond .eq 5, 3) := by decide +kernel
theorem dX4_comesHomeWith_13 : decode cX4_comesHomeWith 13 = .ok (.iconst 0, 1) := by decide +kernel
theorem dX4_comesHomeWith_14 : decode cX4_comesHomeWith 14 = .ok (.ireturn, 1) := by decide +kernel
theorem dX4_comesHomeWith_15 : decode cX4_comesHomeWith 15 = .ok (.aload_n 0, 1) := by decide +kernel
theorem dX4_comesHomeWith_16 : decode cX4_comesHomeWith 16 = .ok (.getfield 38, 3) := by decide +kernel
theorem dX4_comesHomeWith_19 : decode cX4_comesHomeWith 19 = .ok (.aload_n 0, 1) := by decide +kernel
theorem dX4_comesHomeWith_20 : decode cX4_comesHomeWith 20 = .ok (.getfield 34, 3) := by decide +kernel
theorem dX4_comesHomeWith_23 : decode cX4_comesHomeWith 23 = .ok (.invokevirtual 163, 3) := by decide +kernel
theorem dX4_comesHomeWith_26 : decode cX4_comesHomeWith 26 = .ok (.aload_n 0, 1) := by decide +kernel
theorem dX4_comesHomeWith_27 : decode cX4_comesHomeWith 27 = .ok (.getfield 38, 3) := by decide +kernel
theorem dX4_comesHomeWith_30 : decode cX4_comesHomeWith 30 = .ok (.iconst 1, 1) := by decide +kernel
theorem dX4_comesHomeWith_31 : decode cX4_comesHomeWith 31 = .ok (.iconst 0, 1) := by decide +kernel
theorem dX4_comesHomeWith_32 : decode cX4_comesHomeWith 32 = .ok (.invokevirtual 157, 3) := by decide +kernel
theorem dX4_comesHomeWith_35 : decode cX4_comesHomeWith 35 = .ok (.iconst 0, 1) := by decide +kernel
theorem dX4_comesHomeWith_36 : decode cX4_comesHomeWith 36 = .ok (.istore_n 3, 1) := by decide +kernel
theorem dX4_comesHomeWith_37 : decode cX4_comesHomeWith 37 = .ok (.iload_n 3, 1) := by decide +kernel
theorem dX4_comesHomeWith_38 : decode cX4_comesHomeWith 38 = .ok (.aload_n 0, 1) := by decide +kernel
theorem dX4_comesHomeWith_39 : decode cX4_comesHomeWith 39 = .ok (.getfield 38, 3) := by decide +kernel
theorem dX4_comesHomeWith_42 : decode cX4_comesHomeWith 42 = .ok (.getfield 191, 3) := by decide +kernel
theorem dX4_comesHomeWith_45 : decode cX4_comesHomeWith 45 = .ok (.if_icmp .ge 28, 3) := by decide +kernel
theorem dX4_comesHomeWith_48 : decode cX4_comesHomeWith 48 = .ok (.iload_n 1, 1) := by decide +kernel
theorem dX4_comesHomeWith_49 : decode cX4_comesHomeWith 49 = .ok (.iload_n 3, 1) := by decide +kernel
theorem dX4_comesHomeWith_50 : decode cX4_comesHomeWith 50 = .ok (.ishr, 1) := by decide +kernel
theorem dX4_comesHomeWith_51 : decode cX4_comesHomeWith 51 = .ok (.iconst 1, 1) := by decide +kernel
theorem dX4_comesHomeWith_52 : decode cX4_comesHomeWith 52 = .ok (.iand, 1) := by decide +kernel
theorem dX4_comesHomeWith_53 : decode cX4_comesHomeWith 53 = .ok (.iconst 1, 1) := by decide +kernel
theorem dX4_comesHomeWith_54 : decode cX4_comesHomeWith 54 = .ok (.if_icmp .ne 13, 3) := by decide +kernel
theorem dX4_comesHomeWith_57 : decode cX4_comesHomeWith 57 = .ok (.aload_n 0, 1) := by decide +kernel
theorem dX4_comesHomeWith_58 : decode cX4_comesHomeWith 58 = .ok (.getfield 38, 3) := by decide +kernel
theorem dX4_comesHomeWith_61 : decode cX4_comesHomeWith 61 = .ok (.getfield 108, 3) := by decide +kernel
theorem dX4_comesHomeWith_64 : decode cX4_comesHomeWith 64 = .ok (.iload_n 3, 1) := by decide +kernel
theorem dX4_comesHomeWith_65 : decode cX4_comesHomeWith 65 = .ok (.iconst 1, 1) := by decide +kernel
theorem dX4_comesHomeWith_66 : decode cX4_comesHomeWith 66 = .ok (.iastore, 1) := by decide +kernel
theorem dX4_comesHomeWith_67 : decode cX4_comesHomeWith 67 = .ok (.iinc 3 1, 3) := by decide +kernel
theorem dX4_comesHomeWith_70 : decode cX4_comesHomeWith 70 = .ok (.goto (-33), 3) := by decide +kernel
theorem dX4_comesHomeWith_73 : decode cX4_comesHomeWith 73 = .ok (.aload_n 0, 1) := by decide +kernel
theorem dX4_comesHomeWith_74 : decode cX4_comesHomeWith 74 = .ok (.getfield 38, 3) := by decide +kernel
theorem dX4_comesHomeWith_77 : decode cX4_comesHomeWith 77 = .ok (.iload_n 2, 1) := by decide +kernel
theorem dX4_comesHomeWith_78 : decode cX4_comesHomeWith 78 = .ok (.invokevirtual 167, 3) := by decide +kernel
theorem dX4_comesHomeWith_81 : decode cX4_comesHomeWith 81 = .ok (.aload_n 0, 1) := by decide +kernel
theorem dX4_comesHomeWith_82 : decode cX4_comesHomeWith 82 = .ok (.getfield 38, 3) := by decide +kernel
theorem dX4_comesHomeWith_85 : decode cX4_comesHomeWith 85 = .ok (.invokevirtual 153, 3) := by decide +kernel
theorem dX4_comesHomeWith_88 : decode cX4_comesHomeWith 88 = .ok (.ifCond .ne 7, 3) := by decide +kernel
theorem dX4_comesHomeWith_91 : decode cX4_comesHomeWith 91 = .ok (.iconst 1, 1) := by decide +kernel
theorem dX4_comesHomeWith_92 : decode cX4_comesHomeWith 92 = .ok (.goto 4, 3) := by decide +kernel
theorem dX4_comesHomeWith_95 : decode cX4_comesHomeWith 95 = .ok (.iconst 0, 1) := by decide +kernel
theorem dX4_comesHomeWith_96 : decode cX4_comesHomeWith 96 = .ok (.ireturn, 1) := by decide +kernel
theorem dX4_worst_0 : decode cX4_worst 0 = .ok (.iconst (-1), 1) := by decide +kernel
theorem dX4_worst_1 : decode cX4_worst 1 = .ok (.istore_n 1, 1) := by decide +kernel
theorem dX4_worst_2 : decode cX4_worst 2 = .ok (.iconst 0, 1) := by decide +kernel
theorem dX4_worst_3 : decode cX4_worst 3 = .ok (.istore_n 2, 1) := by decide +kernel
theorem dX4_worst_4 : decode cX4_worst 4 = .ok (.iconst 0, 1) := by decide +kernel
theorem dX4_worst_5 : decode cX4_worst 5 = .ok (.istore_n 3, 1) := by decide +kernel
theorem dX4_worst_6 : decode cX4_worst 6 = .ok (.iload_n 3, 1) := by decide +kernel
theorem dX4_worst_7 : decode cX4_worst 7 = .ok (.bipush 10, 2) := by decide +kernel
theorem dX4_worst_9 : decode cX4_worst 9 = .ok (.if_icmp .ge 30, 3) := by decide +kernel
theorem dX4_worst_12 : decode cX4_worst 12 = .ok (.aload_n 0, 1) := by decide +kernel
theorem dX4_worst_13 : decode cX4_worst 13 = .ok (.getfield 34, 3) := by decide +kernel
theorem dX4_worst_16 : decode cX4_worst 16 = .ok (.iload_n 3, 1) := by decide +kernel
theorem dX4_worst_17 : decode cX4_worst 17 = .ok (.invokevirtual 101, 3) := by decide +kernel
theorem dX4_worst_20 : decode cX4_worst 20 = .ok (.istore 4, 2) := by decide +kernel
theorem dX4_worst_22 : decode cX4_worst 22 = .ok (.iload 4, 2) := by decide +kernel
theorem dX4_worst_24 : decode cX4_worst 24 = .ok (.iload_n 2, 1) := by decide +kernel
theorem dX4_worst_25 : decode cX4_worst 25 = .ok (.if_icmp .le 8, 3) := by decide +kernel
theorem dX4_worst_28 : decode cX4_worst 28 = .ok (.iload_n 3, 1) := by decide +kernel
theorem dX4_worst_29 : decode cX4_worst 29 = .ok (.istore_n 1, 1) := by decide +kernel
theorem dX4_worst_30 : decode cX4_worst 30 = .ok (.iload 4, 2) := by decide +kernel
theorem dX4_worst_32 : decode cX4_worst 32 = .ok (.istore_n 2, 1) := by decide +kernel
theorem dX4_worst_33 : decode cX4_worst 33 = .ok (.iinc 3 1, 3) := by decide +kernel
theorem dX4_worst_36 : decode cX4_worst 36 = .ok (.goto (-30), 3) := by decide +kernel
theorem dX4_worst_39 : decode cX4_worst 39 = .ok (.iload_n 1, 1) := by decide +kernel
theorem dX4_worst_40 : decode cX4_worst 40 = .ok (.ireturn, 1) := by decide +kernel
theorem dX4_mean_0 : decode cX4_mean 0 = .ok (.iload_n 1, 1) := by decide +kernel
theorem dX4_mean_1 : decode cX4_mean 1 = .ok (.iconst 0, 1) := by decide +kernel
theorem dX4_mean_2 : decode cX4_mean 2 = .ok (.iconst 1, 1) := by decide +kernel
theorem dX4_mean_3 : decode cX4_mean 3 = .ok (.invokestatic 55, 3) := by decide +kernel
theorem dX4_mean_6 : decode cX4_mean 6 = .ok (.ifCond .ne 7, 3) := by decide +kernel
theorem dX4_mean_9 : decode cX4_mean 9 = .ok (.ldc2_w 203, 3) := by decide +kernel
theorem dX4_mean_12 : decode cX4_mean 12 = .ok (.lreturn, 1) := by decide +kernel
theorem dX4_mean_13 : decode cX4_mean 13 = .ok (.iconst 0, 1) := by decide +kernel
theorem dX4_mean_14 : decode cX4_mean 14 = .ok (.istore_n 2, 1) := by decide +kernel
theorem dX4_mean_15 : decode cX4_mean 15 = .ok (.iconst 0, 1) := by decide +kernel
theorem dX4_mean_16 : decode cX4_mean 16 = .ok (.istore_n 3, 1) := by decide +kernel
theorem dX4_mean_17 : decode cX4_mean 17 = .ok (.iload_n 3, 1) := by decide +kernel
theorem dX4_mean_18 : decode cX4_mean 18 = .ok (.bipush 10, 2) := by decide +kernel
theorem dX4_mean_20 : decode cX4_mean 20 = .ok (.if_icmp .ge 21, 3) := by decide +kernel
theorem dX4_mean_23 : decode cX4_mean 23 = .ok (.iload_n 2, 1) := by decide +kernel
theorem dX4_mean_24 : decode cX4_mean 24 = .ok (.aload_n 0, 1) := by decide +kernel
theorem dX4_mean_25 : decode cX4_mean 25 = .ok (.getfield 34, 3) := by decide +kernel
theorem dX4_mean_28 : decode cX4_mean 28 = .ok (.getfield 72, 3) := by decide +kernel
theorem dX4_mean_31 : decode cX4_mean 31 = .ok (.iload_n 3, 1) := by decide +kernel
theorem dX4_mean_32 : decode cX4_mean 32 = .ok (.iaload, 1) := by decide +kernel
theorem dX4_mean_33 : decode cX4_mean 33 = .ok (.iadd, 1) := by decide +kernel
theorem dX4_mean_34 : decode cX4_mean 34 = .ok (.istore_n 2, 1) := by decide +kernel
theorem dX4_mean_35 : decode cX4_mean 35 = .ok (.iinc 3 1, 3) := by decide +kernel
theorem dX4_mean_38 : decode cX4_mean 38 = .ok (.goto (-21), 3) := by decide +kernel
theorem dX4_mean_41 : decode cX4_mean 41 = .ok (.iload_n 2, 1) := by decide +kernel
theorem dX4_mean_42 : decode cX4_mean 42 = .ok (.bipush 10, 2) := by decide +kernel
theorem dX4_mean_44 : decode cX4_mean 44 = .ok (.iload_n 1, 1) := by decide +kernel
theorem dX4_mean_45 : decode cX4_mean 45 = .ok (.invokestatic 205, 3) := by decide +kernel
theorem dX4_mean_48 : decode cX4_mean 48 = .ok (.lreturn, 1) := by decide +kernel
theorem dX4_tells_0 : decode cX4_tells 0 = .ok (.iload_n 1, 1) := by decide +kernel
theorem dX4_tells_1 : decode cX4_tells 1 = .ok (.invokestatic 209, 3) := by decide +kernel
theorem dX4_tells_4 : decode cX4_tells 4 = .ok (.ifCond .eq 24, 3) := by decide +kernel
theorem dX4_tells_7 : decode cX4_tells 7 = .ok (.aload_n 0, 1) := by decide +kernel
theorem dX4_tells_8 : decode cX4_tells 8 = .ok (.getfield 34, 3) := by decide +kernel
theorem dX4_tells_11 : decode cX4_tells 11 = .ok (.iload_n 2, 1) := by decide +kernel
theorem dX4_tells_12 : decode cX4_tells 12 = .ok (.invokevirtual 92, 3) := by decide +kernel
theorem dX4_tells_15 : decode cX4_tells 15 = .ok (.ifCond .eq 13, 3) := by decide +kernel
theorem dX4_tells_18 : decode cX4_tells 18 = .ok (.iload_n 3, 1) := by decide +kernel
theorem dX4_tells_19 : decode cX4_tells 19 = .ok (.iconst 0, 1) := by decide +kernel
theorem dX4_tells_20 : decode cX4_tells 20 = .ok (.bipush 8, 2) := by decide +kernel
theorem dX4_tells_22 : decode cX4_tells 22 = .ok (.invokestatic 55, 3) := by decide +kernel
theorem dX4_tells_25 : decode cX4_tells 25 = .ok (.ifCond .ne 6, 3) := by decide +kernel
theorem dX4_tells_28 : decode cX4_tells 28 = .ok (.bipush (-2), 2) := by decide +kernel
theorem dX4_tells_30 : decode cX4_tells 30 = .ok (.ireturn, 1) := by decide +kernel
theorem dX4_tells_31 : decode cX4_tells 31 = .ok (.aload_n 0, 1) := by decide +kernel
theorem dX4_tells_32 : decode cX4_tells 32 = .ok (.getfield 46, 3) := by decide +kernel
theorem dX4_tells_35 : decode cX4_tells 35 = .ok (.iload_n 1, 1) := by decide +kernel
theorem dX4_tells_36 : decode cX4_tells 36 = .ok (.aaload, 1) := by decide +kernel
theorem dX4_tells_37 : decode cX4_tells 37 = .ok (.astore 4, 2) := by decide +kernel
theorem dX4_tells_39 : decode cX4_tells 39 = .ok (.aload 4, 2) := by decide +kernel
theorem dX4_tells_41 : decode cX4_tells 41 = .ok (.invokevirtual 212, 3) := by decide +kernel
theorem dX4_tells_44 : decode cX4_tells 44 = .ok (.ifCond .eq 6, 3) := by decide +kernel
theorem dX4_tells_47 : decode cX4_tells 47 = .ok (.bipush (-11), 2) := by decide +kernel
theorem dX4_tells_49 : decode cX4_tells 49 = .ok (.ireturn, 1) := by decide +kernel
theorem dX4_tells_50 : decode cX4_tells 50 = .ok (.aload 4, 2) := by decide +kernel
theorem dX4_tells_52 : decode cX4_tells 52 = .ok (.getfield 215, 3) := by decide +kernel
theorem dX4_tells_55 : decode cX4_tells 55 = .ok (.bipush 20, 2) := by decide +kernel
theorem dX4_tells_57 : decode cX4_tells 57 = .ok (.if_icmp .le 6, 3) := by decide +kernel
theorem dX4_tells_60 : decode cX4_tells 60 = .ok (.bipush (-2), 2) := by decide +kernel
theorem dX4_tells_62 : decode cX4_tells 62 = .ok (.ireturn, 1) := by decide +kernel
theorem dX4_tells_63 : decode cX4_tells 63 = .ok (.iload_n 3, 1) := by decide +kernel
theorem dX4_tells_64 : decode cX4_tells 64 = .ok (.tableswitch 120 0 7 #[48, 58, 69, 80, 89, 80, 98, 107], 48) := by decide +kernel
theorem dX4_tells_112 : decode cX4_tells 112 = .ok (.aload_n 0, 1) := by decide +kernel
theorem dX4_tells_113 : decode cX4_tells 113 = .ok (.aload 4, 2) := by decide +kernel
theorem dX4_tells_115 : decode cX4_tells 115 = .ok (.iload_n 2, 1) := by decide +kernel
theorem dX4_tells_116 : decode cX4_tells 116 = .ok (.iconst 0, 1) := by decide +kernel
theorem dX4_tells_117 : decode cX4_tells 117 = .ok (.iconst 0, 1) := by decide +kernel
theorem dX4_tells_118 : decode cX4_tells 118 = .ok (.invokevirtual 216, 3) := by decide +kernel
theorem dX4_tells_121 : decode cX4_tells 121 = .ok (.ireturn, 1) := by decide +kernel
theorem dX4_tells_122 : decode cX4_tells 122 = .ok (.aload_n 0, 1) := by decide +kernel
theorem dX4_tells_123 : decode cX4_tells 123 = .ok (.aload 4, 2) := by decide +kernel
theorem dX4_tells_125 : decode cX4_tells 125 = .ok (.iload_n 2, 1) := by decide +kernel
theorem dX4_tells_126 : decode cX4_tells 126 = .ok (.iload_n 3, 1) := by decide +kernel
theorem dX4_tells_127 : decode cX4_tells 127 = .ok (.bipush 6, 2) := by decide +kernel
theorem dX4_tells_129 : decode cX4_tells 129 = .ok (.invokevirtual 220, 3) := by decide +kernel
theorem dX4_tells_132 : decode cX4_tells 132 = .ok (.ireturn, 1) := by decide +kernel
theorem dX4_tells_133 : decode cX4_tells 133 = .ok (.aload_n 0, 1) := by decide +kernel
theorem dX4_tells_134 : decode cX4_tells 134 = .ok (.aload 4, 2) := by decide +kernel
theorem dX4_tells_136 : decode cX4_tells 136 = .ok (.iload_n 2, 1) := by decide +kernel
theorem dX4_tells_137 : decode cX4_tells 137 = .ok (.iload_n 3, 1) := by decide +kernel
theorem dX4_tells_138 : decode cX4_tells 138 = .ok (.bipush 10, 2) := by decide +kernel
theorem dX4_tells_140 : decode cX4_tells 140 = .ok (.invokevirtual 220, 3) := by decide +kernel
theorem dX4_tells_143 : decode cX4_tells 143 = .ok (.ireturn, 1) := by decide +kernel
theorem dX4_tells_144 : decode cX4_tells 144 = .ok (.aload_n 0, 1) := by decide +kernel
theorem dX4_tells_145 : decode cX4_tells 145 = .ok (.aload 4, 2) := by decide +kernel
theorem dX4_tells_147 : decode cX4_tells 147 = .ok (.iload_n 2, 1) := by decide +kernel
theorem dX4_tells_148 : decode cX4_tells 148 = .ok (.iload_n 3, 1) := by decide +kernel
theorem dX4_tells_149 : decode cX4_tells 149 = .ok (.invokevirtual 223, 3) := by decide +kernel
theorem dX4_tells_152 : decode cX4_tells 152 = .ok (.ireturn, 1) := by decide +kernel
theorem dX4_tells_153 : decode cX4_tells 153 = .ok (.aload_n 0, 1) := by decide +kernel
theorem dX4_tells_154 : decode cX4_tells 154 = .ok (.aload 4, 2) := by decide +kernel
theorem dX4_tells_156 : decode cX4_tells 156 = .ok (.iload_n 2, 1) := by decide +kernel
theorem dX4_tells_157 : decode cX4_tells 157 = .ok (.iconst 3, 1) := by decide +kernel
theorem dX4_tells_158 : decode cX4_tells 158 = .ok (.invokevirtual 227, 3) := by decide +kernel
theorem dX4_tells_161 : decode cX4_tells 161 = .ok (.ireturn, 1) := by decide +kernel
theorem dX4_tells_162 : decode cX4_tells 162 = .ok (.aload_n 0, 1) := by decide +kernel
theorem dX4_tells_163 : decode cX4_tells 163 = .ok (.aload 4, 2) := by decide +kernel
theorem dX4_tells_165 : decode cX4_tells 165 = .ok (.iload_n 2, 1) := by decide +kernel
theorem dX4_tells_166 : decode cX4_tells 166 = .ok (.iconst 5, 1) := by decide +kernel
theorem dX4_tells_167 : decode cX4_tells 167 = .ok (.invokevirtual 227, 3) := by decide +kernel
theorem dX4_tells_170 : decode cX4_tells 170 = .ok (.ireturn, 1) := by decide +kernel
theorem dX4_tells_171 : decode cX4_tells 171 = .ok (.aload_n 0, 1) := by decide +kernel
theorem dX4_tells_172 : decode cX4_tells 172 = .ok (.aload 4, 2) := by decide +kernel
theorem dX4_tells_174 : decode cX4_tells 174 = .ok (.iload_n 2, 1) := by decide +kernel
theorem dX4_tells_175 : decode cX4_tells 175 = .ok (.iload_n 3, 1) := by decide +kernel
theorem dX4_tells_176 : decode cX4_tells 176 = .ok (.aload_n 0, 1) := by decide +kernel
theorem dX4_tells_177 : decode cX4_tells 177 = .ok (.getfield 18, 3) := by decide +kernel
theorem dX4_tells_180 : decode cX4_tells 180 = .ok (.invokevirtual 220, 3) := by decide +kernel
theorem dX4_tells_183 : decode cX4_tells 183 = .ok (.ireturn, 1) := by decide +kernel
theorem dX4_tells_184 : decode cX4_tells 184 = .ok (.aload_n 0, 1) := by decide +kernel
theorem dX4_tells_185 : decode cX4_tells 185 = .ok (.aload 4, 2) := by decide +kernel
theorem dX4_tells_187 : decode cX4_tells 187 = .ok (.iload_n 2, 1) := by decide +kernel
theorem dX4_tells_188 : decode cX4_tells 188 = .ok (.iload_n 3, 1) := by decide +kernel
theorem dX4_tells_189 : decode cX4_tells 189 = .ok (.bipush 10, 2) := by decide +kernel
theorem dX4_tells_191 : decode cX4_tells 191 = .ok (.invokevirtual 220, 3) := by decide +kernel
theorem dX4_tells_194 : decode cX4_tells 194 = .ok (.ireturn, 1) := by decide +kernel
theorem dX4_firstOtherwise_0 : decode cX4_firstOtherwise 0 = .ok (.aload_n 0, 1) := by decide +kernel
theorem dX4_firstOtherwise_1 : decode cX4_firstOtherwise 1 = .ok (.getfield 38, 3) := by decide +kernel
theorem dX4_firstOtherwise_4 : decode cX4_firstOtherwise 4 = .ok (.aload_n 0, 1) := by decide +kernel
theorem dX4_firstOtherwise_5 : decode cX4_firstOtherwise 5 = .ok (.getfield 34, 3) := by decide +kernel
theorem dX4_firstOtherwise_8 : decode cX4_firstOtherwise 8 = .ok (.invokevirtual 163, 3) := by decide +kernel
theorem dX4_firstOtherwise_11 : decode cX4_firstOtherwise 11 = .ok (.iload_n 3, 1) := by decide +kernel
theorem dX4_firstOtherwise_12 : decode cX4_firstOtherwise 12 = .ok (.tableswitch 134 1 8 #[48, 62, 76, 134, 90, 134, 102, 119], 48) := by decide +kernel
theorem dX4_firstOtherwise_60 : decode cX4_firstOtherwise 60 = .ok (.aload_n 0, 1) := by decide +kernel
theorem dX4_firstOtherwise_61 : decode cX4_firstOtherwise 61 = .ok (.getfield 38, 3) := by decide +kernel
theorem dX4_firstOtherwise_64 : decode cX4_firstOtherwise 64 = .ok (.getfield 105, 3) := by decide +kernel
theorem dX4_firstOtherwise_67 : decode cX4_firstOtherwise 67 = .ok (.iload_n 2, 1) := by decide +kernel
theorem dX4_firstOtherwise_68 : decode cX4_firstOtherwise 68 = .ok (.iload 4, 2) := by decide +kernel
theorem dX4_firstOtherwise_70 : decode cX4_firstOtherwise 70 = .ok (.iastore, 1) := by decide +kernel
theorem dX4_firstOtherwise_71 : decode cX4_firstOtherwise 71 = .ok (.goto 75, 3) := by decide +kernel
theorem dX4_firstOtherwise_74 : decode cX4_firstOtherwise 74 = .ok (.aload_n 0, 1) := by decide +kernel
theorem dX4_firstOtherwise_75 : decode cX4_firstOtherwise 75 = .ok (.getfield 38, 3) := by decide +kernel
theorem dX4_firstOtherwise_78 : decode cX4_firstOtherwise 78 = .ok (.getfield 75, 3) := by decide +kernel
theorem dX4_firstOtherwise_81 : decode cX4_firstOtherwise 81 = .ok (.iload_n 2, 1) := by decide +kernel
theorem dX4_firstOtherwise_82 : decode cX4_firstOtherwise 82 = .ok (.iload 4, 2) := by decide +kernel
theorem dX4_firstOtherwise_84 : decode cX4_firstOtherwise 84 = .ok (.iastore, 1) := by decide +kernel
theorem dX4_firstOtherwise_85 : decode cX4_firstOtherwise 85 = .ok (.goto 61, 3) := by decide +kernel
theorem dX4_firstOtherwise_88 : decode cX4_firstOtherwise 88 = .ok (.aload_n 0, 1) := by decide +kernel
theorem dX4_firstOtherwise_89 : decode cX4_firstOtherwise 89 = .ok (.getfield 38, 3) := by decide +kernel
theorem dX4_firstOtherwise_92 : decode cX4_firstOtherwise 92 = .ok (.getfield 78, 3) := by decide +kernel
theorem dX4_firstOtherwise_95 : decode cX4_firstOtherwise 95 = .ok (.iload_n 2, 1) := by decide +kernel
theorem dX4_firstOtherwise_96 : decode cX4_firstOtherwise 96 = .ok (.iload 4, 2) := by decide +kernel
theorem dX4_firstOtherwise_98 : decode cX4_firstOtherwise 98 = .ok (.iastore, 1) := by decide +kernel
theorem dX4_firstOtherwise_99 : decode cX4_firstOtherwise 99 = .ok (.goto 47, 3) := by decide +kernel
theorem dX4_firstOtherwise_102 : decode cX4_firstOtherwise 102 = .ok (.aload_n 0, 1) := by decide +kernel
theorem dX4_firstOtherwise_103 : decode cX4_firstOtherwise 103 = .ok (.getfield 38, 3) := by decide +kernel
theorem dX4_firstOtherwise_106 : decode cX4_firstOtherwise 106 = .ok (.iload 4, 2) := by decide +kernel
theorem dX4_firstOtherwise_108 : decode cX4_firstOtherwise 108 = .ok (.putfield 66, 3) := by decide +kernel
theorem dX4_firstOtherwise_111 : decode cX4_firstOtherwise 111 = .ok (.goto 35, 3) := by decide +kernel
theorem dX4_firstOtherwise_114 : decode cX4_firstOtherwise 114 = .ok (.aload_n 0, 1) := by decide +kernel
theorem dX4_firstOtherwise_115 : decode cX4_firstOtherwise 115 = .ok (.getfield 38, 3) := by decide +kernel
theorem dX4_firstOtherwise_118 : decode cX4_firstOtherwise 118 = .ok (.aload_n 0, 1) := by decide +kernel
theorem dX4_firstOtherwise_119 : decode cX4_firstOtherwise 119 = .ok (.getfield 11, 3) := by decide +kernel
theorem dX4_firstOtherwise_122 : decode cX4_firstOtherwise 122 = .ok (.iload 4, 2) := by decide +kernel
theorem dX4_firstOtherwise_124 : decode cX4_firstOtherwise 124 = .ok (.aaload, 1) := by decide +kernel
theorem dX4_firstOtherwise_125 : decode cX4_firstOtherwise 125 = .ok (.putfield 136, 3) := by decide +kernel
theorem dX4_firstOtherwise_128 : decode cX4_firstOtherwise 128 = .ok (.goto 18, 3) := by decide +kernel
theorem dX4_firstOtherwise_131 : decode cX4_firstOtherwise 131 = .ok (.aload_n 0, 1) := by decide +kernel
theorem dX4_firstOtherwise_132 : decode cX4_firstOtherwise 132 = .ok (.getfield 38, 3) := by decide +kernel
theorem dX4_firstOtherwise_135 : decode cX4_firstOtherwise 135 = .ok (.getfield 72, 3) := by decide +kernel
theorem dX4_firstOtherwise_138 : decode cX4_firstOtherwise 138 = .ok (.iload 4, 2) := by decide +kernel
theorem dX4_firstOtherwise_140 : decode cX4_firstOtherwise 140 = .ok (.bipush 99, 2) := by decide +kernel
theorem dX4_firstOtherwise_142 : decode cX4_firstOtherwise 142 = .ok (.iastore, 1) := by decide +kernel
theorem dX4_firstOtherwise_143 : decode cX4_firstOtherwise 143 = .ok (.goto 3, 3) := by decide +kernel
theorem dX4_firstOtherwise_146 : decode cX4_firstOtherwise 146 = .ok (.iconst 0, 1) := by decide +kernel
theorem dX4_firstOtherwise_147 : decode cX4_firstOtherwise 147 = .ok (.istore 5, 2) := by decide +kernel
theorem dX4_firstOtherwise_149 : decode cX4_firstOtherwise 149 = .ok (.iload 5, 2) := by decide +kernel
theorem dX4_firstOtherwise_151 : decode cX4_firstOtherwise 151 = .ok (.aload_n 1, 1) := by decide +kernel
theorem dX4_firstOtherwise_152 : decode cX4_firstOtherwise 152 = .ok (.getfield 215, 3) := by decide +kernel
theorem dX4_firstOtherwise_155 : decode cX4_firstOtherwise 155 = .ok (.if_icmp .ge 36, 3) := by decide +kernel
theorem dX4_firstOtherwise_158 : decode cX4_firstOtherwise 158 = .ok (.aload_n 0, 1) := by decide +kernel
theorem dX4_firstOtherwise_159 : decode cX4_firstOtherwise 159 = .ok (.getfield 38, 3) := by decide +kernel
theorem dX4_firstOtherwise_162 : decode cX4_firstOtherwise 162 = .ok (.invokevirtual 160, 3) := by decide +kernel
theorem dX4_firstOtherwise_165 : decode cX4_firstOtherwise 165 = .ok (.aload_n 0, 1) := by decide +kernel
theorem dX4_firstOtherwise_166 : decode cX4_firstOtherwise 166 = .ok (.getfield 38, 3) := by decide +kernel
theorem dX4_firstOtherwise_169 : decode cX4_firstOtherwise 169 = .ok (.getfield 69, 3) := by decide +kernel
theorem dX4_firstOtherwise_172 : decode cX4_firstOtherwise 172 = .ok (.aload_n 1, 1) := by decide +kernel
theorem dX4_firstOtherwise_173 : decode cX4_firstOtherwise 173 = .ok (.getfield 230, 3) := by decide +kernel
theorem dX4_firstOtherwise_176 : decode cX4_firstOtherwise 176 = .ok (.iload 5, 2) := by decide +kernel
theorem dX4_firstOtherwise_178 : decode cX4_firstOtherwise 178 = .ok (.iaload, 1) := by decide +kernel
theorem dX4_firstOtherwise_179 : decode cX4_firstOtherwise 179 = .ok (.if_icmp .eq 6, 3) := by decide +kernel
theorem dX4_firstOtherwise_182 : decode cX4_firstOtherwise 182 = .ok (.iload 5, 2) := by decide +kernel
theorem dX4_firstOtherwise_184 : decode cX4_firstOtherwise 184 = .ok (.ireturn, 1) := by decide +kernel
theorem dX4_firstOtherwise_185 : decode cX4_firstOtherwise 185 = .ok (.iinc 5 1, 3) := by decide +kernel
theorem dX4_firstOtherwise_188 : decode cX4_firstOtherwise 188 = .ok (.goto (-39), 3) := by decide +kernel
theorem dX4_firstOtherwise_191 : decode cX4_firstOtherwise 191 = .ok (.iconst (-1), 1) := by decide +kernel
theorem dX4_firstOtherwise_192 : decode cX4_firstOtherwise 192 = .ok (.ireturn, 1) := by decide +kernel
theorem dX4_bitsThatFit_0 : decode cX4_bitsThatFit 0 = .ok (.iconst 0, 1) := by decide +kernel
theorem dX4_bitsThatFit_1 : decode cX4_bitsThatFit 1 = .ok (.istore 5, 2) := by decide +kernel
theorem dX4_bitsThatFit_3 : decode cX4_bitsThatFit 3 = .ok (.iconst 0, 1) := by decide +kernel
theorem dX4_bitsThatFit_4 : decode cX4_bitsThatFit 4 = .ok (.istore 6, 2) := by decide +kernel
theorem dX4_bitsThatFit_6 : decode cX4_bitsThatFit 6 = .ok (.iload 6, 2) := by decide +kernel
theorem dX4_bitsThatFit_8 : decode cX4_bitsThatFit 8 = .ok (.iload 4, 2) := by decide +kernel
theorem dX4_bitsThatFit_10 : decode cX4_bitsThatFit 10 = .ok (.if_icmp .ge 31, 3) := by decide +kernel
theorem dX4_bitsThatFit_13 : decode cX4_bitsThatFit 13 = .ok (.aload_n 0, 1) := by decide +kernel
theorem dX4_bitsThatFit_14 : decode cX4_bitsThatFit 14 = .ok (.aload_n 1, 1) := by decide +kernel
theorem dX4_bitsThatFit_15 : decode cX4_bitsThatFit 15 = .ok (.iload_n 2, 1) := by decide +kernel
theorem dX4_bitsThatFit_16 : decode cX4_bitsThatFit 16 = .ok (.iload_n 3, 1) := by decide +kernel
theorem dX4_bitsThatFit_17 : decode cX4_bitsThatFit 17 = .ok (.iload 6, 2) := by decide +kernel
theorem dX4_bitsThatFit_19 : decode cX4_bitsThatFit 19 = .ok (.invokevirtual 216, 3) := by decide +kernel
theorem dX4_bitsThatFit_22 : decode cX4_bitsThatFit 22 = .ok (.iconst (-1), 1) := by decide +kernel
theorem dX4_bitsThatFit_23 : decode cX4_bitsThatFit 23 = .ok (.if_icmp .ne 12, 3) := by decide +kernel
theorem dX4_bitsThatFit_26 : decode cX4_bitsThatFit 26 = .ok (.iload 5, 2) := by decide +kernel
theorem dX4_bitsThatFit_28 : decode cX4_bitsThatFit 28 = .ok (.iconst 1, 1) := by decide +kernel
theorem dX4_bitsThatFit_29 : decode cX4_bitsThatFit 29 = .ok (.iload 6, 2) := by decide +kernel
theorem dX4_bitsThatFit_31 : decode cX4_bitsThatFit 31 = .ok (.ishl, 1) := by decide +kernel
theorem dX4_bitsThatFit_32 : decode cX4_bitsThatFit 32 = .ok (.ior, 1) := by decide +kernel
theorem dX4_bitsThatFit_33 : decode cX4_bitsThatFit 33 = .ok (.istore 5, 2) := by decide +kernel
theorem dX4_bitsThatFit_35 : decode cX4_bitsThatFit 35 = .ok (.iinc 6 1, 3) := by decide +kernel
theorem dX4_bitsThatFit_38 : decode cX4_bitsThatFit 38 = .ok (.goto (-32), 3) := by decide +kernel
theorem dX4_bitsThatFit_41 : decode cX4_bitsThatFit 41 = .ok (.iload 5, 2) := by decide +kernel
theorem dX4_bitsThatFit_43 : decode cX4_bitsThatFit 43 = .ok (.ireturn, 1) := by decide +kernel
theorem dX4_howManyFit_0 : decode cX4_howManyFit 0 = .ok (.iconst 0, 1) := by decide +kernel
theorem dX4_howManyFit_1 : decode cX4_howManyFit 1 = .ok (.istore 4, 2) := by decide +kernel
theorem dX4_howManyFit_3 : decode cX4_howManyFit 3 = .ok (.iconst 0, 1) := by decide +kernel
theorem dX4_howManyFit_4 : decode cX4_howManyFit 4 = .ok (.istore 5, 2) := by decide +kernel
theorem dX4_howManyFit_6 : decode cX4_howManyFit 6 = .ok (.iload 5, 2) := by decide +kernel
theorem dX4_howManyFit_8 : decode cX4_howManyFit 8 = .ok (.bipush 99, 2) := by decide +kernel
theorem dX4_howManyFit_10 : decode cX4_howManyFit 10 = .ok (.if_icmp .gt 25, 3) := by decide +kernel
theorem dX4_howManyFit_13 : decode cX4_howManyFit 13 = .ok (.aload_n 0, 1) := by decide +kernel
theorem dX4_howManyFit_14 : decode cX4_howManyFit 14 = .ok (.aload_n 1, 1) := by decide +kernel
theorem dX4_howManyFit_15 : decode cX4_howManyFit 15 = .ok (.iload_n 2, 1) := by decide +kernel
theorem dX4_howManyFit_16 : decode cX4_howManyFit 16 = .ok (.iload_n 3, 1) := by decide +kernel
theorem dX4_howManyFit_17 : decode cX4_howManyFit 17 = .ok (.iload 5, 2) := by decide +kernel
theorem dX4_howManyFit_19 : decode cX4_howManyFit 19 = .ok (.invokevirtual 216, 3) := by decide +kernel
theorem dX4_howManyFit_22 : decode cX4_howManyFit 22 = .ok (.iconst (-1), 1) := by decide +kernel
theorem dX4_howManyFit_23 : decode cX4_howManyFit 23 = .ok (.if_icmp .ne 6, 3) := by decide +kernel
theorem dX4_howManyFit_26 : decode cX4_howManyFit 26 = .ok (.iinc 4 1, 3) := by decide +kernel
theorem dX4_howManyFit_29 : decode cX4_howManyFit 29 = .ok (.iinc 5 1, 3) := by decide +kernel
theorem dX4_howManyFit_32 : decode cX4_howManyFit 32 = .ok (.goto (-26), 3) := by decide +kernel
theorem dX4_howManyFit_35 : decode cX4_howManyFit 35 = .ok (.iload 4, 2) := by decide +kernel
theorem dX4_howManyFit_37 : decode cX4_howManyFit 37 = .ok (.ireturn, 1) := by decide +kernel
theorem dX4_leastThatFits_0 : decode cX4_leastThatFits 0 = .ok (.iconst 0, 1) := by decide +kernel
theorem dX4_leastThatFits_1 : decode cX4_leastThatFits 1 = .ok (.istore 4, 2) := by decide +kernel
theorem dX4_leastThatFits_3 : decode cX4_leastThatFits 3 = .ok (.iload 4, 2) := by decide +kernel
theorem dX4_leastThatFits_5 : decode cX4_leastThatFits 5 = .ok (.bipush 99, 2) := by decide +kernel
theorem dX4_leastThatFits_7 : decode cX4_leastThatFits 7 = .ok (.if_icmp .gt 25, 3) := by decide +kernel
theorem dX4_leastThatFits_10 : decode cX4_leastThatFits 10 = .ok (.aload_n 0, 1) := by decide +kernel
theorem dX4_leastThatFits_11 : decode cX4_leastThatFits 11 = .ok (.aload_n 1, 1) := by decide +kernel
theorem dX4_leastThatFits_12 : decode cX4_leastThatFits 12 = .ok (.iload_n 2, 1) := by decide +kernel
theorem dX4_leastThatFits_13 : decode cX4_leastThatFits 13 = .ok (.iload_n 3, 1) := by decide +kernel
theorem dX4_leastThatFits_14 : decode cX4_leastThatFits 14 = .ok (.iload 4, 2) := by decide +kernel
theorem dX4_leastThatFits_16 : decode cX4_leastThatFits 16 = .ok (.invokevirtual 216, 3) := by decide +kernel
theorem dX4_leastThatFits_19 : decode cX4_leastThatFits 19 = .ok (.iconst (-1), 1) := by decide +kernel
theorem dX4_leastThatFits_20 : decode cX4_leastThatFits 20 = .ok (.if_icmp .ne 6, 3) := by decide +kernel
theorem dX4_leastThatFits_23 : decode cX4_leastThatFits 23 = .ok (.iload 4, 2) := by decide +kernel
theorem dX4_leastThatFits_25 : decode cX4_leastThatFits 25 = .ok (.ireturn, 1) := by decide +kernel
theorem dX4_leastThatFits_26 : decode cX4_leastThatFits 26 = .ok (.iinc 4 1, 3) := by decide +kernel
theorem dX4_leastThatFits_29 : decode cX4_leastThatFits 29 = .ok (.goto (-26), 3) := by decide +kernel
theorem dX4_leastThatFits_32 : decode cX4_leastThatFits 32 = .ok (.iconst (-1), 1) := by decide +kernel
theorem dX4_leastThatFits_33 : decode cX4_leastThatFits 33 = .ok (.ireturn, 1) := by decide +kernel
theorem dX4_film_0 : decode cX4_film 0 = .ok (.iload_n 1, 1) := by decide +kernel
theorem dX4_film_1 : decode cX4_film 1 = .ok (.invokestatic 209, 3) := by decide +kernel
theorem dX4_film_4 : decode cX4_film 4 = .ok (.ifCond .eq 13, 3) := by decide +kernel
theorem dX4_film_7 : decode cX4_film 7 = .ok (.iload_n 2, 1) := by decide +kernel
theorem dX4_film_8 : decode cX4_film 8 = .ok (.iconst 0, 1) := by decide +kernel
theorem dX4_film_9 : decode cX4_film 9 = .ok (.bipush 20, 2) := by decide +kernel
theorem dX4_film_11 : decode cX4_film 11 = .ok (.invokestatic 55, 3) := by decide +kernel
theorem dX4_film_14 : decode cX4_film 14 = .ok (.ifCond .ne 6, 3) := by decide +kernel
theorem dX4_film_17 : decode cX4_film 17 = .ok (.bipush (-2), 2) := by decide +kernel
theorem dX4_film_19 : decode cX4_film 19 = .ok (.ireturn, 1) := by decide +kernel
theorem dX4_film_20 : decode cX4_film 20 = .ok (.aload_n 0, 1) := by decide +kernel
theorem dX4_film_21 : decode cX4_film 21 = .ok (.getfield 46, 3) := by decide +kernel
theorem dX4_film_24 : decode cX4_film 24 = .ok (.iload_n 1, 1) := by decide +kernel
theorem dX4_film_25 : decode cX4_film 25 = .ok (.aaload, 1) := by decide +kernel
theorem dX4_film_26 : decode cX4_film 26 = .ok (.astore_n 3, 1) := by decide +kernel
theorem dX4_film_27 : decode cX4_film 27 = .ok (.aload_n 3, 1) := by decide +kernel
theorem dX4_film_28 : decode cX4_film 28 = .ok (.iconst 0, 1) := by decide +kernel
theorem dX4_film_29 : decode cX4_film 29 = .ok (.iload_n 2, 1) := by decide +kernel
theorem dX4_film_30 : decode cX4_film 30 = .ok (.invokevirtual 233, 3) := by decide +kernel
theorem dX4_film_33 : decode cX4_film 33 = .ok (.aload_n 0, 1) := by decide +kernel
theorem dX4_film_34 : decode cX4_film 34 = .ok (.getfield 38, 3) := by decide +kernel
theorem dX4_film_37 : decode cX4_film 37 = .ok (.aload_n 0, 1) := by decide +kernel
theorem dX4_film_38 : decode cX4_film 38 = .ok (.getfield 34, 3) := by decide +kernel
theorem dX4_film_41 : decode cX4_film 41 = .ok (.invokevirtual 163, 3) := by decide +kernel
theorem dX4_film_44 : decode cX4_film 44 = .ok (.iconst 0, 1) := by decide +kernel
theorem dX4_film_45 : decode cX4_film 45 = .ok (.istore 4, 2) := by decide +kernel
theorem dX4_film_47 : decode cX4_film 47 = .ok (.iload 4, 2) := by decide +kernel
theorem dX4_film_49 : decode cX4_film 49 = .ok (.iload_n 2, 1) := by decide +kernel
theorem dX4_film_50 : decode cX4_film 50 = .ok (.if_icmp .ge 29, 3) := by decide +kernel
theorem dX4_film_53 : decode cX4_film 53 = .ok (.aload_n 0, 1) := by decide +kernel
theorem dX4_film_54 : decode cX4_film 54 = .ok (.getfield 38, 3) := by decide +kernel
theorem dX4_film_57 : decode cX4_film 57 = .ok (.invokevirtual 160, 3) := by decide +kernel
theorem dX4_film_60 : decode cX4_film 60 = .ok (.aload_n 3, 1) := by decide +kernel
theorem dX4_film_61 : decode cX4_film 61 = .ok (.iload 4, 2) := by decide +kernel
theorem dX4_film_63 : decode cX4_film 63 = .ok (.aload_n 0, 1) := by decide +kernel
theorem dX4_film_64 : decode cX4_film 64 = .ok (.getfield 38, 3) := by decide +kernel
theorem dX4_film_67 : decode cX4_film 67 = .ok (.getfield 69, 3) := by decide +kernel
theorem dX4_film_70 : decode cX4_film 70 = .ok (.invokevirtual 235, 3) := by decide +kernel
theorem dX4_film_73 : decode cX4_film 73 = .ok (.iinc 4 1, 3) := by decide +kernel
theorem dX4_film_76 : decode cX4_film 76 = .ok (.goto (-29), 3) := by decide +kernel
theorem dX4_film_79 : decode cX4_film 79 = .ok (.iload_n 2, 1) := by decide +kernel
theorem dX4_film_80 : decode cX4_film 80 = .ok (.ireturn, 1) := by decide +kernel
theorem dX4_drawn_0 : decode cX4_drawn 0 = .ok (.iload_n 2, 1) := by decide +kernel
theorem dX4_drawn_1 : decode cX4_drawn 1 = .ok (.iconst 0, 1) := by decide +kernel
theorem dX4_drawn_2 : decode cX4_drawn 2 = .ok (.bipush 40, 2) := by decide +kernel
theorem dX4_drawn_4 : decode cX4_drawn 4 = .ok (.invokestatic 55, 3) := by decide +kernel
theorem dX4_drawn_7 : decode cX4_drawn 7 = .ok (.ifCond .ne 6, 3) := by decide +kernel
theorem dX4_drawn_10 : decode cX4_drawn 10 = .ok (.bipush (-2), 2) := by decide +kernel
theorem dX4_drawn_12 : decode cX4_drawn 12 = .ok (.ireturn, 1) := by decide +kernel
theorem dX4_drawn_13 : decode cX4_drawn 13 = .ok (.aload_n 0, 1) := by decide +kernel
theorem dX4_drawn_14 : decode cX4_drawn 14 = .ok (.iload_n 1, 1) := by decide +kernel
theorem dX4_drawn_15 : decode cX4_drawn 15 = .ok (.iload_n 2, 1) := by decide +kernel
theorem dX4_drawn_16 : decode cX4_drawn 16 = .ok (.invokevirtual 238, 3) := by decide +kernel
theorem dX4_drawn_19 : decode cX4_drawn 19 = .ok (.ireturn, 1) := by decide +kernel
theorem dX4_waterDrawn_0 : decode cX4_waterDrawn 0 = .ok (.aload_n 0, 1) := by decide +kernel
theorem dX4_waterDrawn_1 : decode cX4_waterDrawn 1 = .ok (.getfield 38, 3) := by decide +kernel
theorem dX4_waterDrawn_4 : decode cX4_waterDrawn 4 = .ok (.aload_n 0, 1) := by decide +kernel
theorem dX4_waterDrawn_5 : decode cX4_waterDrawn 5 = .ok (.getfield 34, 3) := by decide +kernel
theorem dX4_waterDrawn_8 : decode cX4_waterDrawn 8 = .ok (.invokevirtual 163, 3) := by decide +kernel
theorem dX4_waterDrawn_11 : decode cX4_waterDrawn 11 = .ok (.iload_n 1, 1) := by decide +kernel
theorem dX4_waterDrawn_12 : decode cX4_waterDrawn 12 = .ok (.istore_n 3, 1) := by decide +kernel
theorem dX4_waterDrawn_13 : decode cX4_waterDrawn 13 = .ok (.iconst 0, 1) := by decide +kernel
theorem dX4_waterDrawn_14 : decode cX4_waterDrawn 14 = .ok (.istore 4, 2) := by decide +kernel
theorem dX4_waterDrawn_16 : decode cX4_waterDrawn 16 = .ok (.iload 4, 2) := by decide +kernel
theorem dX4_waterDrawn_18 : decode cX4_waterDrawn 18 = .ok (.iload_n 2, 1) := by decide +kernel
theorem dX4_waterDrawn_19 : decode cX4_waterDrawn 19 = .ok (.if_icmp .ge 39, 3) := by decide +kernel
theorem dX4_waterDrawn_22 : decode cX4_waterDrawn 22 = .ok (.iload_n 3, 1) := by decide +kernel
theorem dX4_waterDrawn_23 : decode cX4_waterDrawn 23 = .ok (.ldc 241, 2) := by decide +kernel
theorem dX4_waterDrawn_25 : decode cX4_waterDrawn 25 = .ok (.imul, 1) := by decide +kernel
theorem dX4_waterDrawn_26 : decode cX4_waterDrawn 26 = .ok (.sipush 12345, 3) := by decide +kernel
theorem dX4_waterDrawn_29 : decode cX4_waterDrawn 29 = .ok (.iadd, 1) := by decide +kernel
theorem dX4_waterDrawn_30 : decode cX4_waterDrawn 30 = .ok (.istore_n 3, 1) := by decide +kernel
theorem dX4_waterDrawn_31 : decode cX4_waterDrawn 31 = .ok (.aload_n 0, 1) := by decide +kernel
theorem dX4_waterDrawn_32 : decode cX4_waterDrawn 32 = .ok (.getfield 38, 3) := by decide +kernel
theorem dX4_waterDrawn_35 : decode cX4_waterDrawn 35 = .ok (.iload_n 3, 1) := by decide +kernel
theorem dX4_waterDrawn_36 : decode cX4_waterDrawn 36 = .ok (.bipush 9, 2) := by decide +kernel
theorem dX4_waterDrawn_38 : decode cX4_waterDrawn 38 = .ok (.iushr, 1) := by decide +kernel
theorem dX4_waterDrawn_39 : decode cX4_waterDrawn 39 = .ok (.bipush 100, 2) := by decide +kernel
theorem dX4_waterDrawn_41 : decode cX4_waterDrawn 41 = .ok (.irem, 1) := by decide +kernel
theorem dX4_waterDrawn_42 : decode cX4_waterDrawn 42 = .ok (.putfield 66, 3) := by decide +kernel
theorem dX4_waterDrawn_45 : decode cX4_waterDrawn 45 = .ok (.aload_n 0, 1) := by decide +kernel
theorem dX4_waterDrawn_46 : decode cX4_waterDrawn 46 = .ok (.getfield 38, 3) := by decide +kernel
theorem dX4_waterDrawn_49 : decode cX4_waterDrawn 49 = .ok (.invokevirtual 160, 3) := by decide +kernel
theorem dX4_waterDrawn_52 : decode cX4_waterDrawn 52 = .ok (.iinc 4 1, 3) := by decide +kernel
theorem dX4_waterDrawn_55 : decode cX4_waterDrawn 55 = .ok (.goto (-39), 3) := by decide +kernel
theorem dX4_waterDrawn_58 : decode cX4_waterDrawn 58 = .ok (.aload_n 0, 1) := by decide +kernel
theorem dX4_waterDrawn_59 : decode cX4_waterDrawn 59 = .ok (.getfield 38, 3) := by decide +kernel
theorem dX4_waterDrawn_62 : decode cX4_waterDrawn 62 = .ok (.getfield 69, 3) := by decide +kernel
theorem dX4_waterDrawn_65 : decode cX4_waterDrawn 65 = .ok (.ireturn, 1) := by decide +kernel
theorem dX4_chance_0 : decode cX4_chance 0 = .ok (.iload_n 2, 1) := by decide +kernel
theorem dX4_chance_1 : decode cX4_chance 1 = .ok (.iconst 1, 1) := by decide +kernel
theorem dX4_chance_2 : decode cX4_chance 2 = .ok (.bipush 20, 2) := by decide +kernel
theorem dX4_chance_4 : decode cX4_chance 4 = .ok (.invokestatic 55, 3) := by decide +kernel
theorem dX4_chance_7 : decode cX4_chance 7 = .ok (.ifCond .eq 12, 3) := by decide +kernel
theorem dX4_chance_10 : decode cX4_chance 10 = .ok (.iload_n 3, 1) := by decide +kernel
theorem dX4_chance_11 : decode cX4_chance 11 = .ok (.iconst 0, 1) := by decide +kernel
theorem dX4_chance_12 : decode cX4_chance 12 = .ok (.iconst 1, 1) := by decide +kernel
theorem dX4_chance_13 : decode cX4_chance 13 = .ok (.invokestatic 55, 3) := by decide +kernel
theorem dX4_chance_16 : decode cX4_chance 16 = .ok (.ifCond .ne 7, 3) := by decide +kernel
theorem dX4_chance_19 : decode cX4_chance 19 = .ok (.ldc2_w 203, 3) := by decide +kernel
theorem dX4_chance_22 : decode cX4_chance 22 = .ok (.lreturn, 1) := by decide +kernel
theorem dX4_chance_23 : decode cX4_chance 23 = .ok (.iconst 0, 1) := by decide +kernel
theorem dX4_chance_24 : decode cX4_chance 24 = .ok (.istore 4, 2) := by decide +kernel
theorem dX4_chance_26 : decode cX4_chance 26 = .ok (.iconst 0, 1) := by decide +kernel
theorem dX4_chance_27 : decode cX4_chance 27 = .ok (.istore 5, 2) := by decide +kernel
theorem dX4_chance_29 : decode cX4_chance 29 = .ok (.iload 5, 2) := by decide +kernel
theorem dX4_chance_31 : decode cX4_chance 31 = .ok (.iload_n 2, 1) := by decide +kernel
theorem dX4_chance_32 : decode cX4_chance 32 = .ok (.if_icmp .ge 27, 3) := by decide +kernel
theorem dX4_chance_35 : decode cX4_chance 35 = .ok (.aload_n 0, 1) := by decide +kernel
theorem dX4_chance_36 : decode cX4_chance 36 = .ok (.iload_n 1, 1) := by decide +kernel
theorem dX4_chance_37 : decode cX4_chance 37 = .ok (.iload 5, 2) := by decide +kernel
theorem dX4_chance_39 : decode cX4_chance 39 = .ok (.iadd, 1) := by decide +kernel
theorem dX4_chance_40 : decode cX4_chance 40 = .ok (.bipush 10, 2) := by decide +kernel
theorem dX4_chance_42 : decode cX4_chance 42 = .ok (.invokevirtual 238, 3) := by decide +kernel
theorem dX4_chance_45 : decode cX4_chance 45 = .ok (.bipush 100, 2) := by decide +kernel
theorem dX4_chance_47 : decode cX4_chance 47 = .ok (.if_icmp .lt 6, 3) := by decide +kernel
theorem dX4_chance_50 : decode cX4_chance 50 = .ok (.iinc 4 1, 3) := by decide +kernel
theorem dX4_chance_53 : decode cX4_chance 53 = .ok (.iinc 5 1, 3) := by decide +kernel
theorem dX4_chance_56 : decode cX4_chance 56 = .ok (.goto (-27), 3) := by decide +kernel
theorem dX4_chance_59 : decode cX4_chance 59 = .ok (.iload 4, 2) := by decide +kernel
theorem dX4_chance_61 : decode cX4_chance 61 = .ok (.iload_n 2, 1) := by decide +kernel
theorem dX4_chance_62 : decode cX4_chance 62 = .ok (.iload_n 3, 1) := by decide +kernel
theorem dX4_chance_63 : decode cX4_chance 63 = .ok (.invokestatic 205, 3) := by decide +kernel
theorem dX4_chance_66 : decode cX4_chance 66 = .ok (.lreturn, 1) := by decide +kernel
theorem dX4_image_0 : decode cX4_image 0 = .ok (.aload_n 0, 1) := by decide +kernel
theorem dX4_image_1 : decode cX4_image 1 = .ok (.getfield 41, 3) := by decide +kernel
theorem dX4_image_4 : decode cX4_image 4 = .ok (.aload_n 0, 1) := by decide +kernel
theorem dX4_image_5 : decode cX4_image 5 = .ok (.getfield 34, 3) := by decide +kernel
theorem dX4_image_8 : decode cX4_image 8 = .ok (.invokevirtual 163, 3) := by decide +kernel
theorem dX4_image_11 : decode cX4_image 11 = .ok (.aload_n 0, 1) := by decide +kernel
theorem dX4_image_12 : decode cX4_image 12 = .ok (.iconst 1, 1) := by decide +kernel
theorem dX4_image_13 : decode cX4_image 13 = .ok (.putfield 242, 3) := by decide +kernel
theorem dX4_image_16 : decode cX4_image 16 = .ok (.aload_n 0, 1) := by decide +kernel
theorem dX4_image_17 : decode cX4_image 17 = .ok (.getfield 41, 3) := by decide +kernel
theorem dX4_image_20 : decode cX4_image 20 = .ok (.getfield 191, 3) := by decide +kernel
theorem dX4_image_23 : decode cX4_image 23 = .ok (.ireturn, 1) := by decide +kernel
theorem dX4_back_0 : decode cX4_back 0 = .ok (.aload_n 0, 1) := by decide +kernel
theorem dX4_back_1 : decode cX4_back 1 = .ok (.getfield 242, 3) := by decide +kernel
theorem dX4_back_4 : decode cX4_back 4 = .ok (.ifCond .ne 6, 3) := by decide +kernel
theorem dX4_back_7 : decode cX4_back 7 = .ok (.bipush (-3), 2) := by decide +kernel
theorem dX4_back_9 : decode cX4_back 9 = .ok (.ireturn, 1) := by decide +kernel
theorem dX4_back_10 : decode cX4_back 10 = .ok (.aload_n 0, 1) := by decide +kernel
theorem dX4_back_11 : decode cX4_back 11 = .ok (.getfield 34, 3) := by decide +kernel
theorem dX4_back_14 : decode cX4_back 14 = .ok (.aload_n 0, 1) := by decide +kernel
theorem dX4_back_15 : decode cX4_back 15 = .ok (.getfield 41, 3) := by decide +kernel
theorem dX4_back_18 : decode cX4_back 18 = .ok (.invokevirtual 163, 3) := by decide +kernel
theorem dX4_back_21 : decode cX4_back 21 = .ok (.aload_n 0, 1) := by decide +kernel
theorem dX4_back_22 : decode cX4_back 22 = .ok (.getfield 34, 3) := by decide +kernel
theorem dX4_back_25 : decode cX4_back 25 = .ok (.getfield 191, 3) := by decide +kernel
theorem dX4_back_28 : decode cX4_back 28 = .ok (.ireturn, 1) := by decide +kernel
theorem dX4_count_0 : decode cX4_count 0 = .ok (.iload_n 1, 1) := by decide +kernel
theorem dX4_count_1 : decode cX4_count 1 = .ok (.tableswitch 91 0 5 #[39, 47, 55, 67, 72, 80], 39) := by decide +kernel
theorem dX4_count_40 : decode cX4_count 40 = .ok (.aload_n 0, 1) := by decide +kernel
theorem dX4_count_41 : decode cX4_count 41 = .ok (.getfield 34, 3) := by decide +kernel
theorem dX4_count_44 : decode cX4_count 44 = .ok (.getfield 191, 3) := by decide +kernel
theorem dX4_count_47 : decode cX4_count 47 = .ok (.ireturn, 1) := by decide +kernel
theorem dX4_count_48 : decode cX4_count 48 = .ok (.aload_n 0, 1) := by decide +kernel
theorem dX4_count_49 : decode cX4_count 49 = .ok (.getfield 34, 3) := by decide +kernel
theorem dX4_count_52 : decode cX4_count 52 = .ok (.invokevirtual 174, 3) := by decide +kernel
theorem dX4_count_55 : decode cX4_count 55 = .ok (.ireturn, 1) := by decide +kernel
theorem dX4_count_56 : decode cX4_count 56 = .ok (.aload_n 0, 1) := by decide +kernel
theorem dX4_count_57 : decode cX4_count 57 = .ok (.getfield 34, 3) := by decide +kernel
theorem dX4_count_60 : decode cX4_count 60 = .ok (.iconst 1, 1) := by decide +kernel
theorem dX4_count_61 : decode cX4_count 61 = .ok (.invokevirtual 150, 3) := by decide +kernel
theorem dX4_count_64 : decode cX4_count 64 = .ok (.invokestatic 194, 3) := by decide +kernel
theorem dX4_count_67 : decode cX4_count 67 = .ok (.ireturn, 1) := by decide +kernel
theorem dX4_count_68 : decode cX4_count 68 = .ok (.aload_n 0, 1) := by decide +kernel
theorem dX4_count_69 : decode cX4_count 69 = .ok (.getfield 18, 3) := by decide +kernel
theorem dX4_count_72 : decode cX4_count 72 = .ok (.ireturn, 1) := by decide +kernel
theorem dX4_count_73 : decode cX4_count 73 = .ok (.aload_n 0, 1) := by decide +kernel
theorem dX4_count_74 : decode cX4_count 74 = .ok (.getfield 25, 3) := by decide +kernel
theorem dX4_count_77 : decode cX4_count 77 = .ok (.getfield 126, 3) := by decide +kernel
theorem dX4_count_80 : decode cX4_count 80 = .ok (.ireturn, 1) := by decide +kernel
theorem dX4_count_81 : decode cX4_count 81 = .ok (.aload_n 0, 1) := by decide +kernel
theorem dX4_count_82 : decode cX4_count 82 = .ok (.getfield 34, 3) := by decide +kernel
theorem dX4_count_85 : decode cX4_count 85 = .ok (.getfield 136, 3) := by decide +kernel
theorem dX4_count_88 : decode cX4_count 88 = .ok (.getfield 140, 3) := by decide +kernel
theorem dX4_count_91 : decode cX4_count 91 = .ok (.ireturn, 1) := by decide +kernel
theorem dX4_count_92 : decode cX4_count 92 = .ok (.bipush (-2), 2) := by decide +kernel
theorem dX4_count_94 : decode cX4_count 94 = .ok (.ireturn, 1) := by decide +kernel
theorem dX4_sheet_0 : decode cX4_sheet 0 = .ok (.iload_n 1, 1) := by decide +kernel
theorem dX4_sheet_1 : decode cX4_sheet 1 = .ok (.invokestatic 209, 3) := by decide +kernel
theorem dX4_sheet_4 : decode cX4_sheet 4 = .ok (.ifCond .eq 12, 3) := by decide +kernel
theorem dX4_sheet_7 : decode cX4_sheet 7 = .ok (.iload_n 2, 1) := by decide +kernel
theorem dX4_sheet_8 : decode cX4_sheet 8 = .ok (.iconst (-1), 1) := by decide +kernel
theorem dX4_sheet_9 : decode cX4_sheet 9 = .ok (.iconst 2, 1) := by decide +kernel
theorem dX4_sheet_10 : decode cX4_sheet 10 = .ok (.invokestatic 55, 3) := by decide +kernel
theorem dX4_sheet_13 : decode cX4_sheet 13 = .ok (.ifCond .ne 6, 3) := by decide +kernel
theorem dX4_sheet_16 : decode cX4_sheet 16 = .ok (.bipush (-2), 2) := by decide +kernel
theorem dX4_sheet_18 : decode cX4_sheet 18 = .ok (.ireturn, 1) := by decide +kernel
theorem dX4_sheet_19 : decode cX4_sheet 19 = .ok (.iload_n 2, 1) := by decide +kernel
theorem dX4_sheet_20 : decode cX4_sheet 20 = .ok (.iconst (-1), 1) := by decide +kernel
theorem dX4_sheet_21 : decode cX4_sheet 21 = .ok (.if_icmp .ne 16, 3) := by decide +kernel
theorem dX4_sheet_24 : decode cX4_sheet 24 = .ok (.aload_n 0, 1) := by decide +kernel
theorem dX4_sheet_25 : decode cX4_sheet 25 = .ok (.getfield 46, 3) := by decide +kernel
theorem dX4_sheet_28 : decode cX4_sheet 28 = .ok (.iload_n 1, 1) := by decide +kernel
theorem dX4_sheet_29 : decode cX4_sheet 29 = .ok (.aaload, 1) := by decide +kernel
theorem dX4_sheet_30 : decode cX4_sheet 30 = .ok (.iconst (-1), 1) := by decide +kernel
theorem dX4_sheet_31 : decode cX4_sheet 31 = .ok (.iconst 0, 1) := by decide +kernel
theorem dX4_sheet_32 : decode cX4_sheet 32 = .ok (.invokevirtual 233, 3) := by decide +kernel
theorem dX4_sheet_35 : decode cX4_sheet 35 = .ok (.iconst 1, 1) := by decide +kernel
theorem dX4_sheet_36 : decode cX4_sheet 36 = .ok (.ireturn, 1) := by decide +kernel
theorem dX4_sheet_37 : decode cX4_sheet 37 = .ok (.iload_n 3, 1) := by decide +kernel
theorem dX4_sheet_38 : decode cX4_sheet 38 = .ok (.bipush 40, 2) := by decide +kernel
theorem dX4_sheet_40 : decode cX4_sheet 40 = .ok (.if_icmp .le 6, 3) := by decide +kernel
theorem dX4_sheet_43 : decode cX4_sheet 43 = .ok (.bipush (-2), 2) := by decide +kernel
theorem dX4_sheet_45 : decode cX4_sheet 45 = .ok (.ireturn, 1) := by decide +kernel
theorem dX4_sheet_46 : decode cX4_sheet 46 = .ok (.iload_n 3, 1) := by decide +kernel
theorem dX4_sheet_47 : decode cX4_sheet 47 = .ok (.ifCond .ge 6, 3) := by decide +kernel
theorem dX4_sheet_50 : decode cX4_sheet 50 = .ok (.bipush (-14), 2) := by decide +kernel
theorem dX4_sheet_52 : decode cX4_sheet 52 = .ok (.ireturn, 1) := by decide +kernel
theorem dX4_sheet_53 : decode cX4_sheet 53 = .ok (.aload_n 0, 1) := by decide +kernel
theorem dX4_sheet_54 : decode cX4_sheet 54 = .ok (.getfield 46, 3) := by decide +kernel
theorem dX4_sheet_57 : decode cX4_sheet 57 = .ok (.iload_n 1, 1) := by decide +kernel
theorem dX4_sheet_58 : decode cX4_sheet 58 = .ok (.aaload, 1) := by decide +kernel
theorem dX4_sheet_59 : decode cX4_sheet 59 = .ok (.iload_n 2, 1) := by decide +kernel
theorem dX4_sheet_60 : decode cX4_sheet 60 = .ok (.iload_n 3, 1) := by decide +kernel
theorem dX4_sheet_61 : decode cX4_sheet 61 = .ok (.invokevirtual 233, 3) := by decide +kernel
theorem dX4_sheet_64 : decode cX4_sheet 64 = .ok (.iconst 1, 1) := by decide +kernel
theorem dX4_sheet_65 : decode cX4_sheet 65 = .ok (.ireturn, 1) := by decide +kernel
theorem dX4_cell_0 : decode cX4_cell 0 = .ok (.iload_n 1, 1) := by decide +kernel
theorem dX4_cell_1 : decode cX4_cell 1 = .ok (.invokestatic 209, 3) := by decide +kernel
theorem dX4_cell_4 : decode cX4_cell 4 = .ok (.ifCond .ne 6, 3) := by decide +kernel
theorem dX4_cell_7 : decode cX4_cell 7 = .ok (.bipush (-2), 2) := by decide +kernel
theorem dX4_cell_9 : decode cX4_cell 9 = .ok (.ireturn, 1) := by decide +kernel
theorem dX4_cell_10 : decode cX4_cell 10 = .ok (.aload_n 0, 1) := by decide +kernel
theorem dX4_cell_11 : decode cX4_cell 11 = .ok (.getfield 46, 3) := by decide +kernel
theorem dX4_cell_14 : decode cX4_cell 14 = .ok (.iload_n 1, 1) := by decide +kernel
theorem dX4_cell_15 : decode cX4_cell 15 = .ok (.aaload, 1) := by decide +kernel
theorem dX4_cell_16 : decode cX4_cell 16 = .ok (.astore 4, 2) := by decide +kernel
theorem dX4_cell_18 : decode cX4_cell 18 = .ok (.aload 4, 2) := by decide +kernel
theorem dX4_cell_20 : decode cX4_cell 20 = .ok (.invokevirtual 212, 3) := by decide +kernel
theorem dX4_cell_23 : decode cX4_cell 23 = .ok (.ifCond .eq 6, 3) := by decide +kernel
theorem dX4_cell_26 : decode cX4_cell 26 = .ok (.bipush (-11), 2) := by decide +kernel
theorem dX4_cell_28 : decode cX4_cell 28 = .ok (.ireturn, 1) := by decide +kernel
theorem dX4_cell_29 : decode cX4_cell 29 = .ok (.aload 4, 2) := by decide +kernel
theorem dX4_cell_31 : decode cX4_cell 31 = .ok (.iload_n 2, 1) := by decide +kernel
theorem dX4_cell_32 : decode cX4_cell 32 = .ok (.iconst 1, 1) := by decide +kernel
theorem dX4_cell_33 : decode cX4_cell 33 = .ok (.invokevirtual 246, 3) := by decide +kernel
theorem dX4_cell_36 : decode cX4_cell 36 = .ok (.ifCond .ne 6, 3) := by decide +kernel
theorem dX4_cell_39 : decode cX4_cell 39 = .ok (.bipush (-12), 2) := by decide +kernel
theorem dX4_cell_41 : decode cX4_cell 41 = .ok (.ireturn, 1) := by decide +kernel
theorem dX4_cell_42 : decode cX4_cell 42 = .ok (.aload 4, 2) := by decide +kernel
theorem dX4_cell_44 : decode cX4_cell 44 = .ok (.iload_n 2, 1) := by decide +kernel
theorem dX4_cell_45 : decode cX4_cell 45 = .ok (.iload_n 3, 1) := by decide +kernel
theorem dX4_cell_46 : decode cX4_cell 46 = .ok (.invokevirtual 235, 3) := by decide +kernel
theorem dX4_cell_49 : decode cX4_cell 49 = .ok (.iconst 1, 1) := by decide +kernel
theorem dX4_cell_50 : decode cX4_cell 50 = .ok (.ireturn, 1) := by decide +kernel
theorem dX4_copy_0 : decode cX4_copy 0 = .ok (.iload_n 1, 1) := by decide +kernel
theorem dX4_copy_1 : decode cX4_copy 1 = .ok (.invokestatic 209, 3) := by decide +kernel
theorem dX4_copy_4 : decode cX4_copy 4 = .ok (.ifCond .eq 10, 3) := by decide +kernel
theorem dX4_copy_7 : decode cX4_copy 7 = .ok (.iload_n 3, 1) := by decide +kernel
theorem dX4_copy_8 : decode cX4_copy 8 = .ok (.invokestatic 209, 3) := by decide +kernel
theorem dX4_copy_11 : decode cX4_copy 11 = .ok (.ifCond .ne 6, 3) := by decide +kernel
theorem dX4_copy_14 : decode cX4_copy 14 = .ok (.bipush (-2), 2) := by decide +kernel
theorem dX4_copy_16 : decode cX4_copy 16 = .ok (.ireturn, 1) := by decide +kernel
theorem dX4_copy_17 : decode cX4_copy 17 = .ok (.aload_n 0, 1) := by decide +kernel
theorem dX4_copy_18 : decode cX4_copy 18 = .ok (.getfield 46, 3) := by decide +kernel
theorem dX4_copy_21 : decode cX4_copy 21 = .ok (.iload_n 1, 1) := by decide +kernel
theorem dX4_copy_22 : decode cX4_copy 22 = .ok (.aaload, 1) := by decide +kernel
theorem dX4_copy_23 : decode cX4_copy 23 = .ok (.astore 6, 2) := by decide +kernel
theorem dX4_copy_25 : decode cX4_copy 25 = .ok (.aload_n 0, 1) := by decide +kernel
theorem dX4_copy_26 : decode cX4_copy 26 = .ok (.getfield 46, 3) := by decide +kernel
theorem dX4_copy_29 : decode cX4_copy 29 = .ok (.iload_n 3, 1) := by decide +kernel
theorem dX4_copy_30 : decode cX4_copy 30 = .ok (.aaload, 1) := by decide +kernel
theorem dX4_copy_31 : decode cX4_copy 31 = .ok (.astore 7, 2) := by decide +kernel
theorem dX4_copy_33 : decode cX4_copy 33 = .ok (.aload 6, 2) := by decide +kernel
theorem dX4_copy_35 : decode cX4_copy 35 = .ok (.invokevirtual 212, 3) := by decide +kernel
theorem dX4_copy_38 : decode cX4_copy 38 = .ok (.ifCond .ne 11, 3) := by decide +kernel
theorem dX4_copy_41 : decode cX4_copy 41 = .ok (.aload 7, 2) := by decide +kernel
theorem dX4_copy_43 : decode cX4_copy 43 = .ok (.invokevirtual 212, 3) := by decide +kernel
theorem dX4_copy_46 : decode cX4_copy 46 = .ok (.ifCond .eq 6, 3) := by decide +kernel
theorem dX4_copy_49 : decode cX4_copy 49 = .ok (.bipush (-11), 2) := by decide +kernel
theorem dX4_copy_51 : decode cX4_copy 51 = .ok (.ireturn, 1) := by decide +kernel
theorem dX4_copy_52 : decode cX4_copy 52 = .ok (.aload 6, 2) := by decide +kernel
theorem dX4_copy_54 : decode cX4_copy 54 = .ok (.getfield 249, 3) := by decide +kernel
theorem dX4_copy_57 : decode cX4_copy 57 = .ok (.aload 7, 2) := by decide +kernel
theorem dX4_copy_59 : decode cX4_copy 59 = .ok (.getfield 249, 3) := by decide +kernel
theorem dX4_copy_62 : decode cX4_copy 62 = .ok (.if_icmp .eq 6, 3) := by decide +kernel
theorem dX4_copy_65 : decode cX4_copy 65 = .ok (.bipush (-13), 2) := by decide +kernel
theorem dX4_copy_67 : decode cX4_copy 67 = .ok (.ireturn, 1) := by decide +kernel
theorem dX4_copy_68 : decode cX4_copy 68 = .ok (.aload 6, 2) := by decide +kernel
theorem dX4_copy_70 : decode cX4_copy 70 = .ok (.iload_n 2, 1) := by decide +kernel
theorem dX4_copy_71 : decode cX4_copy 71 = .ok (.iload 5, 2) := by decide +kernel
theorem dX4_copy_73 : decode cX4_copy 73 = .ok (.invokevirtual 246, 3) := by decide +kernel
theorem dX4_copy_76 : decode cX4_copy 76 = .ok (.ifCond .eq 15, 3) := by decide +kernel
theorem dX4_copy_79 : decode cX4_copy 79 = .ok (.aload 7, 2) := by decide +kernel
theorem dX4_copy_81 : decode cX4_copy 81 = .ok (.iload 4, 2) := by decide +kernel
theorem dX4_copy_83 : decode cX4_copy 83 = .ok (.iload 5, 2) := by decide +kernel
theorem dX4_copy_85 : decode cX4_copy 85 = .ok (.invokevirtual 246, 3) := by decide +kernel
theorem dX4_copy_88 : decode cX4_copy 88 = .ok (.ifCond .ne 6, 3) := by decide +kernel
theorem dX4_copy_91 : decode cX4_copy 91 = .ok (.bipush (-12), 2) := by decide +kernel
theorem dX4_copy_93 : decode cX4_copy 93 = .ok (.ireturn, 1) := by decide +kernel
theorem dX4_copy_94 : decode cX4_copy 94 = .ok (.aload 6, 2) := by decide +kernel
theorem dX4_copy_96 : decode cX4_copy 96 = .ok (.getfield 230, 3) := by decide +kernel
theorem dX4_copy_99 : decode cX4_copy 99 = .ok (.iload_n 2, 1) := by decide +kernel
theorem dX4_copy_100 : decode cX4_copy 100 = .ok (.aload 7, 2) := by decide +kernel
theorem dX4_copy_102 : decode cX4_copy 102 = .ok (.getfield 230, 3) := by decide +kernel
theorem dX4_copy_105 : decode cX4_copy 105 = .ok (.iload 4, 2) := by decide +kernel
theorem dX4_copy_107 : decode cX4_copy 107 = .ok (.iload 5, 2) := by decide +kernel
theorem dX4_copy_109 : decode cX4_copy 109 = .ok (.invokestatic 252, 3) := by decide +kernel
theorem dX4_copy_112 : decode cX4_copy 112 = .ok (.iload 5, 2) := by decide +kernel
theorem dX4_copy_114 : decode cX4_copy 114 = .ok (.ireturn, 1) := by decide +kernel
theorem dX4_gang_0 : decode cX4_gang 0 = .ok (.iload_n 1, 1) := by decide +kernel
theorem dX4_gang_1 : decode cX4_gang 1 = .ok (.invokestatic 209, 3) := by decide +kernel
theorem dX4_gang_4 : decode cX4_gang 4 = .ok (.ifCond .eq 22, 3) := by decide +kernel
theorem dX4_gang_7 : decode cX4_gang 7 = .ok (.iload_n 2, 1) := by decide +kernel
theorem dX4_gang_8 : decode cX4_gang 8 = .ok (.iconst 0, 1) := by decide +kernel
theorem dX4_gang_9 : decode cX4_gang 9 = .ok (.iconst 2, 1) := by decide +kernel
theorem dX4_gang_10 : decode cX4_gang 10 = .ok (.invokestatic 55, 3) := by decide +kernel
theorem dX4_gang_13 : decode cX4_gang 13 = .ok (.ifCond .eq 13, 3) := by decide +kernel
theorem dX4_gang_16 : decode cX4_gang 16 = .ok (.iload 4, 2) := by decide +kernel
theorem dX4_gang_18 : decode cX4_gang 18 = .ok (.iconst 0, 1) := by decide +kernel
theorem dX4_gang_19 : decode cX4_gang 19 = .ok (.iconst 5, 1) := by decide +kernel
theorem dX4_gang_20 : decode cX4_gang 20 = .ok (.invokestatic 55, 3) := by decide +kernel
theorem dX4_gang_23 : decode cX4_gang 23 = .ok (.ifCond .ne 6, 3) := by decide +kernel
theorem dX4_gang_26 : decode cX4_gang 26 = .ok (.bipush (-2), 2) := by decide +kernel
theorem dX4_gang_28 : decode cX4_gang 28 = .ok (.ireturn, 1) := by decide +kernel
theorem dX4_gang_29 : decode cX4_gang 29 = .ok (.aload_n 0, 1) := by decide +kernel
theorem dX4_gang_30 : decode cX4_gang 30 = .ok (.getfield 46, 3) := by decide +kernel
theorem dX4_gang_33 : decode cX4_gang 33 = .ok (.iload_n 1, 1) := by decide +kernel
theorem dX4_gang_34 : decode cX4_gang 34 = .ok (.aaload, 1) := by decide +kernel
theorem dX4_gang_35 : decode cX4_gang 35 = .ok (.astore 5, 2) := by decide +kernel
theorem dX4_gang_37 : decode cX4_gang 37 = .ok (.aload 5, 2) := by decide +kernel
theorem dX4_gang_39 : decode cX4_gang 39 = .ok (.invokevirtual 212, 3) := by decide +kernel
theorem dX4_gang_42 : decode cX4_gang 42 = .ok (.ifCond .eq 6, 3) := by decide +kernel
theorem dX4_gang_45 : decode cX4_gang 45 = .ok (.bipush (-11), 2) := by decide +kernel
theorem dX4_gang_47 : decode cX4_gang 47 = .ok (.ireturn, 1) := by decide +kernel
theorem dX4_gang_48 : decode cX4_gang 48 = .ok (.aload 5, 2) := by decide +kernel
theorem dX4_gang_50 : decode cX4_gang 50 = .ok (.getfield 249, 3) := by decide +kernel
theorem dX4_gang_53 : decode cX4_gang 53 = .ok (.iload_n 2, 1) := by decide +kernel
theorem dX4_gang_54 : decode cX4_gang 54 = .ok (.if_icmp .eq 6, 3) := by decide +kernel
theorem dX4_gang_57 : decode cX4_gang 57 = .ok (.bipush (-13), 2) := by decide +kernel
theorem dX4_gang_59 : decode cX4_gang 59 = .ok (.ireturn, 1) := by decide +kernel
theorem dX4_gang_60 : decode cX4_gang 60 = .ok (.iconst 0, 1) := by decide +kernel
theorem dX4_gang_61 : decode cX4_gang 61 = .ok (.istore 6, 2) := by decide +kernel
theorem dX4_gang_63 : decode cX4_gang 63 = .ok (.iload_n 3, 1) := by decide +kernel
theorem dX4_gang_64 : decode cX4_gang 64 = .ok (.istore 7, 2) := by decide +kernel
theorem dX4_gang_66 : decode cX4_gang 66 = .ok (.iconst 0, 1) := by decide +kernel
theorem dX4_gang_67 : decode cX4_gang 67 = .ok (.istore 8, 2) := by decide +kernel
theorem dX4_gang_69 : decode cX4_gang 69 = .ok (.iload 8, 2) := by decide +kernel
theorem dX4_gang_71 : decode cX4_gang 71 = .ok (.iload 4, 2) := by decide +kernel
theorem dX4_gang_73 : decode cX4_gang 73 = .ok (.if_icmp .ge 64, 3) := by decide +kernel
theorem dX4_gang_76 : decode cX4_gang 76 = .ok (.aload 5, 2) := by decide +kernel
theorem dX4_gang_78 : decode cX4_gang 78 = .ok (.iload 7, 2) := by decide +kernel
theorem dX4_gang_80 : decode cX4_gang 80 = .ok (.iconst 3, 1) := by decide +kernel
theorem dX4_gang_81 : decode cX4_gang 81 = .ok (.invokevirtual 246, 3) := by decide +kernel
theorem dX4_gang_84 : decode cX4_gang 84 = .ok (.ifCond .ne 6, 3) := by decide +kernel
theorem dX4_gang_87 : decode cX4_gang 87 = .ok (.bipush (-12), 2) := by decide +kernel
theorem dX4_gang_89 : decode cX4_gang 89 = .ok (.ireturn, 1) := by decide +kernel
theorem dX4_gang_90 : decode cX4_gang 90 = .ok (.aload_n 0, 1) := by decide +kernel
theorem dX4_gang_91 : decode cX4_gang 91 = .ok (.aload 5, 2) := by decide +kernel
theorem dX4_gang_93 : decode cX4_gang 93 = .ok (.getfield 230, 3) := by decide +kernel
theorem dX4_gang_96 : decode cX4_gang 96 = .ok (.iload 7, 2) := by decide +kernel
theorem dX4_gang_98 : decode cX4_gang 98 = .ok (.iaload, 1) := by decide +kernel
theorem dX4_gang_99 : decode cX4_gang 99 = .ok (.aload 5, 2) := by decide +kernel
theorem dX4_gang_101 : decode cX4_gang 101 = .ok (.getfield 230, 3) := by decide +kernel
theorem dX4_gang_104 : decode cX4_gang 104 = .ok (.iload 7, 2) := by decide +kernel
theorem dX4_gang_106 : decode cX4_gang 106 = .ok (.iconst 1, 1) := by decide +kernel
theorem dX4_gang_107 : decode cX4_gang 107 = .ok (.iadd, 1) := by decide +kernel
theorem dX4_gang_108 : decode cX4_gang 108 = .ok (.iaload, 1) := by decide +kernel
theorem dX4_gang_109 : decode cX4_gang 109 = .ok (.aload 5, 2) := by decide +kernel
theorem dX4_gang_111 : decode cX4_gang 111 = .ok (.getfield 230, 3) := by decide +kernel
theorem dX4_gang_114 : decode cX4_gang 114 = .ok (.iload 7, 2) := by decide +kernel
theorem dX4_gang_116 : decode cX4_gang 116 = .ok (.iconst 2, 1) := by decide +kernel
theorem dX4_gang_117 : decode cX4_gang 117 = .ok (.iadd, 1) := by decide +kernel
theorem dX4_gang_118 : decode cX4_gang 118 = .ok (.iaload, 1) := by decide +kernel
theorem dX4_gang_119 : decode cX4_gang 119 = .ok (.invokevirtual 258, 3) := by decide +kernel
theorem dX4_gang_122 : decode cX4_gang 122 = .ok (.ifCond .lt 6, 3) := by decide +kernel
theorem dX4_gang_125 : decode cX4_gang 125 = .ok (.iinc 6 1, 3) := by decide +kernel
theorem dX4_gang_128 : decode cX4_gang 128 = .ok (.iinc 7 3, 3) := by decide +kernel
theorem dX4_gang_131 : decode cX4_gang 131 = .ok (.iinc 8 1, 3) := by decide +kernel
theorem dX4_gang_134 : decode cX4_gang 134 = .ok (.goto (-65), 3) := by decide +kernel
theorem dX4_gang_137 : decode cX4_gang 137 = .ok (.iload 6, 2) := by decide +kernel
theorem dX4_gang_139 : decode cX4_gang 139 = .ok (.ireturn, 1) := by decide +kernel
theorem dX4_taken_0 : decode cX4_taken 0 = .ok (.iload_n 2, 1) := by decide +kernel
theorem dX4_taken_1 : decode cX4_taken 1 = .ok (.iconst 0, 1) := by decide +kernel
theorem dX4_taken_2 : decode cX4_taken 2 = .ok (.iconst 5, 1) := by decide +kernel
theorem dX4_taken_3 : decode cX4_taken 3 = .ok (.invokestatic 55, 3) := by decide +kernel
theorem dX4_taken_6 : decode cX4_taken 6 = .ok (.ifCond .ne 6, 3) := by decide +kernel
theorem dX4_taken_9 : decode cX4_taken 9 = .ok (.bipush (-2), 2) := by decide +kernel
theorem dX4_taken_11 : decode cX4_taken 11 = .ok (.ireturn, 1) := by decide +kernel
theorem dX4_taken_12 : decode cX4_taken 12 = .ok (.aload_n 0, 1) := by decide +kernel
theorem dX4_taken_13 : decode cX4_taken 13 = .ok (.getfield 34, 3) := by decide +kernel
theorem dX4_taken_16 : decode cX4_taken 16 = .ok (.iload_n 1, 1) := by decide +kernel
theorem dX4_taken_17 : decode cX4_taken 17 = .ok (.invokevirtual 92, 3) := by decide +kernel
theorem dX4_taken_20 : decode cX4_taken 20 = .ok (.ifCond .ne 6, 3) := by decide +kernel
theorem dX4_taken_23 : decode cX4_taken 23 = .ok (.bipush (-11), 2) := by decide +kernel
theorem dX4_taken_25 : decode cX4_taken 25 = .ok (.ireturn, 1) := by decide +kernel
theorem dX4_taken_26 : decode cX4_taken 26 = .ok (.aload_n 0, 1) := by decide +kernel
theorem dX4_taken_27 : decode cX4_taken 27 = .ok (.getfield 34, 3) := by decide +kernel
theorem dX4_taken_30 : decode cX4_taken 30 = .ok (.getfield 105, 3) := by decide +kernel
theorem dX4_taken_33 : decode cX4_taken 33 = .ok (.iload_n 1, 1) := by decide +kernel
theorem dX4_taken_34 : decode cX4_taken 34 = .ok (.iaload, 1) := by decide +kernel
theorem dX4_taken_35 : decode cX4_taken 35 = .ok (.istore_n 3, 1) := by decide +kernel
theorem dX4_taken_36 : decode cX4_taken 36 = .ok (.iconst 0, 1) := by decide +kernel
theorem dX4_taken_37 : decode cX4_taken 37 = .ok (.istore 4, 2) := by decide +kernel
theorem dX4_taken_39 : decode cX4_taken 39 = .ok (.iload 4, 2) := by decide +kernel
theorem dX4_taken_41 : decode cX4_taken 41 = .ok (.bipush 6, 2) := by decide +kernel
theorem dX4_taken_43 : decode cX4_taken 43 = .ok (.if_icmp .ge 39, 3) := by decide +kernel
theorem dX4_taken_46 : decode cX4_taken 46 = .ok (.iload_n 3, 1) := by decide +kernel
theorem dX4_taken_47 : decode cX4_taken 47 = .ok (.iconst 0, 1) := by decide +kernel
theorem dX4_taken_48 : decode cX4_taken 48 = .ok (.iconst 5, 1) := by decide +kernel
theorem dX4_taken_49 : decode cX4_taken 49 = .ok (.invokestatic 55, 3) := by decide +kernel
theorem dX4_taken_52 : decode cX4_taken 52 = .ok (.ifCond .eq 30, 3) := by decide +kernel
theorem dX4_taken_55 : decode cX4_taken 55 = .ok (.iload_n 3, 1) := by decide +kernel
theorem dX4_taken_56 : decode cX4_taken 56 = .ok (.iload_n 2, 1) := by decide +kernel
theorem dX4_taken_57 : decode cX4_taken 57 = .ok (.if_icmp .ne 13, 3) := by decide +kernel
theorem dX4_taken_60 : decode cX4_taken 60 = .ok (.aload_n 0, 1) := by decide +kernel
theorem dX4_taken_61 : decode cX4_taken 61 = .ok (.getfield 34, 3) := by decide +kernel
theorem dX4_taken_64 : decode cX4_taken 64 = .ok (.getfield 75, 3) := by decide +kernel
theorem dX4_taken_67 : decode cX4_taken 67 = .ok (.iload_n 1, 1) := by decide +kernel
theorem dX4_taken_68 : decode cX4_taken 68 = .ok (.iaload, 1) := by decide +kernel
theorem dX4_taken_69 : decode cX4_taken 69 = .ok (.ireturn, 1) := by decide +kernel
theorem dX4_taken_70 : decode cX4_taken 70 = .ok (.getstatic 261, 3) := by decide +kernel
theorem dX4_taken_73 : decode cX4_taken 73 = .ok (.iload_n 3, 1) := by decide +kernel
theorem dX4_taken_74 : decode cX4_taken 74 = .ok (.iaload, 1) := by decide +kernel
theorem dX4_taken_75 : decode cX4_taken 75 = .ok (.istore_n 3, 1) := by decide +kernel
theorem dX4_taken_76 : decode cX4_taken 76 = .ok (.iinc 4 1, 3) := by decide +kernel
theorem dX4_taken_79 : decode cX4_taken 79 = .ok (.goto (-40), 3) := by decide +kernel
theorem dX4_taken_82 : decode cX4_taken 82 = .ok (.bipush (-13), 2) := by decide +kernel
theorem dX4_taken_84 : decode cX4_taken 84 = .ok (.ireturn, 1) := by decide +kernel
theorem dX4_within_0 : decode cX4_within 0 = .ok (.iload_n 0, 1) := by decide +kernel
theorem dX4_within_1 : decode cX4_within 1 = .ok (.iload_n 1, 1) := by decide +kernel
theorem dX4_within_2 : decode cX4_within 2 = .ok (.if_icmp .lt 12, 3) := by decide +kernel
theorem dX4_within_5 : decode cX4_within 5 = .ok (.iload_n 0, 1) := by decide +kernel
theorem dX4_within_6 : decode cX4_within 6 = .ok (.iload_n 2, 1) := by decide +kernel
theorem dX4_within_7 : decode cX4_within 7 = .ok (.if_icmp .gt 7, 3) := by decide +kernel
theorem dX4_within_10 : decode cX4_within 10 = .ok (.iconst 1, 1) := by decide +kernel
theorem dX4_within_11 : decode cX4_within 11 = .ok (.goto 4, 3) := by decide +kernel
theorem dX4_within_14 : decode cX4_within 14 = .ok (.iconst 0, 1) := by decide +kernel
theorem dX4_within_15 : decode cX4_within 15 = .ok (.ireturn, 1) := by decide +kernel
theorem dX4_isPart_0 : decode cX4_isPart 0 = .ok (.iload_n 0, 1) := by decide +kernel
theorem dX4_isPart_1 : decode cX4_isPart 1 = .ok (.iconst 0, 1) := by decide +kernel
theorem dX4_isPart_2 : decode cX4_isPart 2 = .ok (.bipush 9, 2) := by decide +kernel
theorem dX4_isPart_4 : decode cX4_isPart 4 = .ok (.invokestatic 55, 3) := by decide +kernel
theorem dX4_isPart_7 : decode cX4_isPart 7 = .ok (.ireturn, 1) := by decide +kernel
theorem dX4_isUnder_0 : decode cX4_isUnder 0 = .ok (.iload_n 0, 1) := by decide +kernel
theorem dX4_isUnder_1 : decode cX4_isUnder 1 = .ok (.iconst 2, 1) := by decide +kernel
theorem dX4_isUnder_2 : decode cX4_isUnder 2 = .ok (.irem, 1) := by decide +kernel
theorem dX4_isUnder_3 : decode cX4_isUnder 3 = .ok (.ifCond .ne 7, 3) := by decide +kernel
theorem dX4_isUnder_6 : decode cX4_isUnder 6 = .ok (.iconst 1, 1) := by decide +kernel
theorem dX4_isUnder_7 : decode cX4_isUnder 7 = .ok (.goto 4, 3) := by decide +kernel
theorem dX4_isUnder_10 : decode cX4_isUnder 10 = .ok (.iconst 0, 1) := by decide +kernel
theorem dX4_isUnder_11 : decode cX4_isUnder 11 = .ok (.ireturn, 1) := by decide +kernel
theorem dX4_isSheet_0 : decode cX4_isSheet 0 = .ok (.iload_n 0, 1) := by decide +kernel
theorem dX4_isSheet_1 : decode cX4_isSheet 1 = .ok (.iconst 0, 1) := by decide +kernel
theorem dX4_isSheet_2 : decode cX4_isSheet 2 = .ok (.iconst 3, 1) := by decide +kernel
theorem dX4_isSheet_3 : decode cX4_isSheet 3 = .ok (.invokestatic 55, 3) := by decide +kernel
theorem dX4_isSheet_6 : decode cX4_isSheet 6 = .ok (.ireturn, 1) := by decide +kernel
theorem dX4_isText_0 : decode cX4_isText 0 = .ok (.iload_n 1, 1) := by decide +kernel
theorem dX4_isText_1 : decode cX4_isText 1 = .ok (.iconst 0, 1) := by decide +kernel
theorem dX4_isText_2 : decode cX4_isText 2 = .ok (.aload_n 0, 1) := by decide +kernel
theorem dX4_isText_3 : decode cX4_isText 3 = .ok (.getfield 18, 3) := by decide +kernel
theorem dX4_isText_6 : decode cX4_isText 6 = .ok (.iconst 1, 1) := by decide +kernel
theorem dX4_isText_7 : decode cX4_isText 7 = .ok (.isub, 1) := by decide +kernel
theorem dX4_isText_8 : decode cX4_isText 8 = .ok (.invokestatic 55, 3) := by decide +kernel
theorem dX4_isText_11 : decode cX4_isText 11 = .ok (.ireturn, 1) := by decide +kernel
theorem dX4_lowestTerms_0 : decode cX4_lowestTerms 0 = .ok (.iconst 1, 1) := by decide +kernel
theorem dX4_lowestTerms_1 : decode cX4_lowestTerms 1 = .ok (.istore_n 3, 1) := by decide +kernel
theorem dX4_lowestTerms_2 : decode cX4_lowestTerms 2 = .ok (.iconst 2, 1) := by decide +kernel
theorem dX4_lowestTerms_3 : decode cX4_lowestTerms 3 = .ok (.istore 4, 2) := by decide +kernel
theorem dX4_lowestTerms_5 : decode cX4_lowestTerms 5 = .ok (.iload 4, 2) := by decide +kernel
theorem dX4_lowestTerms_7 : decode cX4_lowestTerms 7 = .ok (.iload_n 1, 1) := by decide +kernel
theorem dX4_lowestTerms_8 : decode cX4_lowestTerms 8 = .ok (.if_icmp .gt 26, 3) := by decide +kernel
theorem dX4_lowestTerms_11 : decode cX4_lowestTerms 11 = .ok (.iload_n 0, 1) := by decide +kernel
theorem dX4_lowestTerms_12 : decode cX4_lowestTerms 12 = .ok (.iload 4, 2) := by decide +kernel
theorem dX4_lowestTerms_14 : decode cX4_lowestTerms 14 = .ok (.irem, 1) := by decide +kernel
theorem dX4_lowestTerms_15 : decode cX4_lowestTerms 15 = .ok (.ifCond .ne 13, 3) := by decide +kernel
theorem dX4_lowestTerms_18 : decode cX4_lowestTerms 18 = .ok (.iload_n 1, 1) := by decide +kernel
theorem dX4_lowestTerms_19 : decode cX4_lowestTerms 19 = .ok (.iload 4, 2) := by decide +kernel
theorem dX4_lowestTerms_21 : decode cX4_lowestTerms 21 = .ok (.irem, 1) := by decide +kernel
theorem dX4_lowestTerms_22 : decode cX4_lowestTerms 22 = .ok (.ifCond .ne 6, 3) := by decide +kernel
theorem dX4_lowestTerms_25 : decode cX4_lowestTerms 25 = .ok (.iload 4, 2) := by decide +kernel
theorem dX4_lowestTerms_27 : decode cX4_lowestTerms 27 = .ok (.istore_n 3, 1) := by decide +kernel
theorem dX4_lowestTerms_28 : decode cX4_lowestTerms 28 = .ok (.iinc 4 1, 3) := by decide +kernel
theorem dX4_lowestTerms_31 : decode cX4_lowestTerms 31 = .ok (.goto (-26), 3) := by decide +kernel
theorem dX4_lowestTerms_34 : decode cX4_lowestTerms 34 = .ok (.iload_n 2, 1) := by decide +kernel
theorem dX4_lowestTerms_35 : decode cX4_lowestTerms 35 = .ok (.ifCond .ne 10, 3) := by decide +kernel
theorem dX4_lowestTerms_38 : decode cX4_lowestTerms 38 = .ok (.iload_n 0, 1) := by decide +kernel
theorem dX4_lowestTerms_39 : decode cX4_lowestTerms 39 = .ok (.iload_n 3, 1) := by decide +kernel
theorem dX4_lowestTerms_40 : decode cX4_lowestTerms 40 = .ok (.idiv, 1) := by decide +kernel
theorem dX4_lowestTerms_41 : decode cX4_lowestTerms 41 = .ok (.i2l, 1) := by decide +kernel
theorem dX4_lowestTerms_42 : decode cX4_lowestTerms 42 = .ok (.goto 7, 3) := by decide +kernel
theorem dX4_lowestTerms_45 : decode cX4_lowestTerms 45 = .ok (.iload_n 1, 1) := by decide +kernel
theorem dX4_lowestTerms_46 : decode cX4_lowestTerms 46 = .ok (.iload_n 3, 1) := by decide +kernel
theorem dX4_lowestTerms_47 : decode cX4_lowestTerms 47 = .ok (.idiv, 1) := by decide +kernel
theorem dX4_lowestTerms_48 : decode cX4_lowestTerms 48 = .ok (.i2l, 1) := by decide +kernel
theorem dX4_lowestTerms_49 : decode cX4_lowestTerms 49 = .ok (.lreturn, 1) := by decide +kernel
theorem dJ6_bitCount_0f7a4_0 : decode cJ6_bitCount_0f7a4 0 = .ok (.iload_n 0, 1) := by decide +kernel
theorem dJ6_bitCount_0f7a4_1 : decode cJ6_bitCount_0f7a4 1 = .ok (.iload_n 0, 1) := by decide +kernel
theorem dJ6_bitCount_0f7a4_2 : decode cJ6_bitCount_0f7a4 2 = .ok (.iconst 1, 1) := by decide +kernel
theorem dJ6_bitCount_0f7a4_3 : decode cJ6_bitCount_0f7a4 3 = .ok (.iushr, 1) := by decide +kernel
theorem dJ6_bitCount_0f7a4_4 : decode cJ6_bitCount_0f7a4 4 = .ok (.ldc_w 265, 3) := by decide +kernel
theorem dJ6_bitCount_0f7a4_7 : decode cJ6_bitCount_0f7a4 7 = .ok (.iand, 1) := by decide +kernel
theorem dJ6_bitCount_0f7a4_8 : decode cJ6_bitCount_0f7a4 8 = .ok (.isub, 1) := by decide +kernel
theorem dJ6_bitCount_0f7a4_9 : decode cJ6_bitCount_0f7a4 9 = .ok (.istore_n 0, 1) := by decide +kernel
theorem dJ6_bitCount_0f7a4_10 : decode cJ6_bitCount_0f7a4 10 = .ok (.iload_n 0, 1) := by decide +kernel
theorem dJ6_bitCount_0f7a4_11 : decode cJ6_bitCount_0f7a4 11 = .ok (.ldc_w 266, 3) := by decide +kernel
theorem dJ6_bitCount_0f7a4_14 : decode cJ6_bitCount_0f7a4 14 = .ok (.iand, 1) := by decide +kernel
theorem dJ6_bitCount_0f7a4_15 : decode cJ6_bitCount_0f7a4 15 = .ok (.iload_n 0, 1) := by decide +kernel
theorem dJ6_bitCount_0f7a4_16 : decode cJ6_bitCount_0f7a4 16 = .ok (.iconst 2, 1) := by decide +kernel
theorem dJ6_bitCount_0f7a4_17 : decode cJ6_bitCount_0f7a4 17 = .ok (.iushr, 1) := by decide +kernel
theorem dJ6_bitCount_0f7a4_18 : decode cJ6_bitCount_0f7a4 18 = .ok (.ldc_w 266, 3) := by decide +kernel
theorem dJ6_bitCount_0f7a4_21 : decode cJ6_bitCount_0f7a4 21 = .ok (.iand, 1) := by decide +kernel
theorem dJ6_bitCount_0f7a4_22 : decode cJ6_bitCount_0f7a4 22 = .ok (.iadd, 1) := by decide +kernel
theorem dJ6_bitCount_0f7a4_23 : decode cJ6_bitCount_0f7a4 23 = .ok (.istore_n 0, 1) := by decide +kernel
theorem dJ6_bitCount_0f7a4_24 : decode cJ6_bitCount_0f7a4 24 = .ok (.iload_n 0, 1) := by decide +kernel
theorem dJ6_bitCount_0f7a4_25 : decode cJ6_bitCount_0f7a4 25 = .ok (.iload_n 0, 1) := by decide +kernel
theorem dJ6_bitCount_0f7a4_26 : decode cJ6_bitCount_0f7a4 26 = .ok (.iconst 4, 1) := by decide +kernel
theorem dJ6_bitCount_0f7a4_27 : decode cJ6_bitCount_0f7a4 27 = .ok (.iushr, 1) := by decide +kernel
theorem dJ6_bitCount_0f7a4_28 : decode cJ6_bitCount_0f7a4 28 = .ok (.iadd, 1) := by decide +kernel
theorem dJ6_bitCount_0f7a4_29 : decode cJ6_bitCount_0f7a4 29 = .ok (.ldc_w 267, 3) := by decide +kernel
theorem dJ6_bitCount_0f7a4_32 : decode cJ6_bitCount_0f7a4 32 = .ok (.iand, 1) := by decide +kernel
theorem dJ6_bitCount_0f7a4_33 : decode cJ6_bitCount_0f7a4 33 = .ok (.istore_n 0, 1) := by decide +kernel
theorem dJ6_bitCount_0f7a4_34 : decode cJ6_bitCount_0f7a4 34 = .ok (.iload_n 0, 1) := by decide +kernel
theorem dJ6_bitCount_0f7a4_35 : decode cJ6_bitCount_0f7a4 35 = .ok (.iload_n 0, 1) := by decide +kernel
theorem dJ6_bitCount_0f7a4_36 : decode cJ6_bitCount_0f7a4 36 = .ok (.bipush 8, 2) := by decide +kernel
theorem dJ6_bitCount_0f7a4_38 : decode cJ6_bitCount_0f7a4 38 = .ok (.iushr, 1) := by decide +kernel
theorem dJ6_bitCount_0f7a4_39 : decode cJ6_bitCount_0f7a4 39 = .ok (.iadd, 1) := by decide +kernel
theorem dJ6_bitCount_0f7a4_40 : decode cJ6_bitCount_0f7a4 40 = .ok (.istore_n 0, 1) := by decide +kernel
theorem dJ6_bitCount_0f7a4_41 : decode cJ6_bitCount_0f7a4 41 = .ok (.iload_n 0, 1) := by decide +kernel
theorem dJ6_bitCount_0f7a4_42 : decode cJ6_bitCount_0f7a4 42 = .ok (.iload_n 0, 1) := by decide +kernel
theorem dJ6_bitCount_0f7a4_43 : decode cJ6_bitCount_0f7a4 43 = .ok (.bipush 16, 2) := by decide +kernel
theorem dJ6_bitCount_0f7a4_45 : decode cJ6_bitCount_0f7a4 45 = .ok (.iushr, 1) := by decide +kernel
theorem dJ6_bitCount_0f7a4_46 : decode cJ6_bitCount_0f7a4 46 = .ok (.iadd, 1) := by decide +kernel
theorem dJ6_bitCount_0f7a4_47 : decode cJ6_bitCount_0f7a4 47 = .ok (.istore_n 0, 1) := by decide +kernel
theorem dJ6_bitCount_0f7a4_48 : decode cJ6_bitCount_0f7a4 48 = .ok (.iload_n 0, 1) := by decide +kernel
theorem dJ6_bitCount_0f7a4_49 : decode cJ6_bitCount_0f7a4 49 = .ok (.bipush 63, 2) := by decide +kernel
theorem dJ6_bitCount_0f7a4_51 : decode cJ6_bitCount_0f7a4 51 = .ok (.iand, 1) := by decide +kernel
theorem dJ6_bitCount_0f7a4_52 : decode cJ6_bitCount_0f7a4 52 = .ok (.ireturn, 1) := by decide +kernel
theorem dJ9_max_7cf53_0 : decode cJ9_max_7cf53 0 = .ok (.iload_n 0, 1) := by decide +kernel
theorem dJ9_max_7cf53_1 : decode cJ9_max_7cf53 1 = .ok (.iload_n 1, 1) := by decide +kernel
theorem dJ9_max_7cf53_2 : decode cJ9_max_7cf53 2 = .ok (.if_icmp .lt 7, 3) := by decide +kernel
theorem dJ9_max_7cf53_5 : decode cJ9_max_7cf53 5 = .ok (.iload_n 0, 1) := by decide +kernel
theorem dJ9_max_7cf53_6 : decode cJ9_max_7cf53 6 = .ok (.goto 4, 3) := by decide +kernel
theorem dJ9_max_7cf53_9 : decode cJ9_max_7cf53 9 = .ok (.iload_n 1, 1) := by decide +kernel
theorem dJ9_max_7cf53_10 : decode cJ9_max_7cf53 10 = .ok (.ireturn, 1) := by decide +kernel
theorem dJ9_min_7cf53_0 : decode cJ9_min_7cf53 0 = .ok (.iload_n 0, 1) := by decide +kernel
theorem dJ9_min_7cf53_1 : decode cJ9_min_7cf53 1 = .ok (.iload_n 1, 1) := by decide +kernel
theorem dJ9_min_7cf53_2 : decode cJ9_min_7cf53 2 = .ok (.if_icmp .gt 7, 3) := by decide +kernel
theorem dJ9_min_7cf53_5 : decode cJ9_min_7cf53 5 = .ok (.iload_n 0, 1) := by decide +kernel
theorem dJ9_min_7cf53_6 : decode cJ9_min_7cf53 6 = .ok (.goto 4, 3) := by decide +kernel
theorem dJ9_min_7cf53_9 : decode cJ9_min_7cf53 9 = .ok (.iload_n 1, 1) := by decide +kernel
theorem dJ9_min_7cf53_10 : decode cJ9_min_7cf53 10 = .ok (.ireturn, 1) := by decide +kernel
theorem dJ0_length_8abf5_0 : decode cJ0_length_8abf5 0 = .ok (.aload_n 0, 1) := by decide +kernel
theorem dJ0_length_8abf5_1 : decode cJ0_length_8abf5 1 = .ok (.getfield 9, 3) := by decide +kernel
theorem dJ0_length_8abf5_4 : decode cJ0_length_8abf5 4 = .ok (.arraylength, 1) := by decide +kernel
theorem dJ0_length_8abf5_5 : decode cJ0_length_8abf5 5 = .ok (.aload_n 0, 1) := by decide +kernel
theorem dJ0_length_8abf5_6 : decode cJ0_length_8abf5 6 = .ok (.invokevirtual 335, 3) := by decide +kernel
theorem dJ0_length_8abf5_9 : decode cJ0_length_8abf5 9 = .ok (.ishr, 1) := by decide +kernel
theorem dJ0_length_8abf5_10 : decode cJ0_length_8abf5 10 = .ok (.ireturn, 1) := by decide +kernel
theorem dJ0_charAt_5068e_0 : decode cJ0_charAt_5068e 0 = .ok (.aload_n 0, 1) := by decide +kernel
theorem dJ0_charAt_5068e_1 : decode cJ0_charAt_5068e 1 = .ok (.invokevirtual 492, 3) := by decide +kernel
theorem dJ0_charAt_5068e_4 : decode cJ0_charAt_5068e 4 = .ok (.ifCond .eq 12, 3) := by decide +kernel
theorem dJ0_charAt_5068e_7 : decode cJ0_charAt_5068e 7 = .ok (.aload_n 0, 1) := by decide +kernel
theorem dJ0_charAt_5068e_8 : decode cJ0_charAt_5068e 8 = .ok (.getfield 9, 3) := by decide +kernel
theorem dJ0_charAt_5068e_11 : decode cJ0_charAt_5068e 11 = .ok (.iload_n 1, 1) := by decide +kernel
theorem dJ0_charAt_5068e_12 : decode cJ0_charAt_5068e 12 = .ok (.invokestatic 495, 3) := by decide +kernel
theorem dJ0_charAt_5068e_15 : decode cJ0_charAt_5068e 15 = .ok (.ireturn, 1) := by decide +kernel
theorem dJ0_charAt_5068e_16 : decode cJ0_charAt_5068e 16 = .ok (.aload_n 0, 1) := by decide +kernel
theorem dJ0_charAt_5068e_17 : decode cJ0_charAt_5068e 17 = .ok (.getfield 9, 3) := by decide +kernel
theorem dJ0_charAt_5068e_20 : decode cJ0_charAt_5068e 20 = .ok (.iload_n 1, 1) := by decide +kernel
theorem dJ0_charAt_5068e_21 : decode cJ0_charAt_5068e 21 = .ok (.invokestatic 498, 3) := by decide +kernel
theorem dJ0_charAt_5068e_24 : decode cJ0_charAt_5068e 24 = .ok (.ireturn, 1) := by decide +kernel
theorem dJ0_coder_7d493_0 : decode cJ0_coder_7d493 0 = .ok (.getstatic 38, 3) := by decide +kernel
theorem dJ0_coder_7d493_3 : decode cJ0_coder_7d493 3 = .ok (.ifCond .eq 10, 3) := by decide +kernel
theorem dJ0_coder_7d493_6 : decode cJ0_coder_7d493 6 = .ok (.aload_n 0, 1) := by decide +kernel
theorem dJ0_coder_7d493_7 : decode cJ0_coder_7d493 7 = .ok (.getfield 15, 3) := by decide +kernel
theorem dJ0_coder_7d493_10 : decode cJ0_coder_7d493 10 = .ok (.goto 4, 3) := by decide +kernel
theorem dJ0_coder_7d493_13 : decode cJ0_coder_7d493 13 = .ok (.iconst 1, 1) := by decide +kernel
theorem dJ0_coder_7d493_14 : decode cJ0_coder_7d493 14 = .ok (.ireturn, 1) := by decide +kernel
theorem dJ0_isLatin1_aae02_0 : decode cJ0_isLatin1_aae02 0 = .ok (.getstatic 38, 3) := by decide +kernel
theorem dJ0_isLatin1_aae02_3 : decode cJ0_isLatin1_aae02 3 = .ok (.ifCond .eq 14, 3) := by decide +kernel
theorem dJ0_isLatin1_aae02_6 : decode cJ0_isLatin1_aae02 6 = .ok (.aload_n 0, 1) := by decide +kernel
theorem dJ0_isLatin1_aae02_7 : decode cJ0_isLatin1_aae02 7 = .ok (.getfield 15, 3) := by decide +kernel
theorem dJ0_isLatin1_aae02_10 : decode cJ0_isLatin1_aae02 10 = .ok (.ifCond .ne 7, 3) := by decide +kernel
theorem dJ0_isLatin1_aae02_13 : decode cJ0_isLatin1_aae02 13 = .ok (.iconst 1, 1) := by decide +kernel
theorem dJ0_isLatin1_aae02_14 : decode cJ0_isLatin1_aae02 14 = .ok (.goto 4, 3) := by decide +kernel
theorem dJ0_isLatin1_aae02_17 : decode cJ0_isLatin1_aae02 17 = .ok (.iconst 0, 1) := by decide +kernel
theorem dJ0_isLatin1_aae02_18 : decode cJ0_isLatin1_aae02 18 = .ok (.ireturn, 1) := by decide +kernel
theorem dJ0_checkIndex_df160_0 : decode cJ0_checkIndex_df160 0 = .ok (.iload_n 0, 1) := by decide +kernel
theorem dJ0_checkIndex_df160_1 : decode cJ0_checkIndex_df160 1 = .ok (.iload_n 1, 1) := by decide +kernel
theorem dJ0_checkIndex_df160_2 : decode cJ0_checkIndex_df160 2 = .ok (.getstatic 1053, 3) := by decide +kernel
theorem dJ0_checkIndex_df160_5 : decode cJ0_checkIndex_df160 5 = .ok (.invokestatic 1059, 3) := by decide +kernel
theorem dJ0_checkIndex_df160_8 : decode cJ0_checkIndex_df160 8 = .ok (.pop, 1) := by decide +kernel
theorem dJ0_checkIndex_df160_9 : decode cJ0_checkIndex_df160 9 = .ok (.return_, 1) := by decide +kernel
theorem dJ1_charAt_3b067_0 : decode cJ1_charAt_3b067 0 = .ok (.iload_n 1, 1) := by decide +kernel
theorem dJ1_charAt_3b067_1 : decode cJ1_charAt_3b067 1 = .ok (.aload_n 0, 1) := by decide +kernel
theorem dJ1_charAt_3b067_2 : decode cJ1_charAt_3b067 2 = .ok (.arraylength, 1) := by decide +kernel
theorem dJ1_charAt_3b067_3 : decode cJ1_charAt_3b067 3 = .ok (.invokestatic 9, 3) := by decide +kernel
theorem dJ1_charAt_3b067_6 : decode cJ1_charAt_3b067 6 = .ok (.aload_n 0, 1) := by decide +kernel
theorem dJ1_charAt_3b067_7 : decode cJ1_charAt_3b067 7 = .ok (.iload_n 1, 1) := by decide +kernel
theorem dJ1_charAt_3b067_8 : decode cJ1_charAt_3b067 8 = .ok (.baload, 1) := by decide +kernel
theorem dJ1_charAt_3b067_9 : decode cJ1_charAt_3b067 9 = .ok (.sipush 255, 3) := by decide +kernel
theorem dJ1_charAt_3b067_12 : decode cJ1_charAt_3b067 12 = .ok (.iand, 1) := by decide +kernel
theorem dJ1_charAt_3b067_13 : decode cJ1_charAt_3b067 13 = .ok (.i2c, 1) := by decide +kernel
theorem dJ1_charAt_3b067_14 : decode cJ1_charAt_3b067 14 = .ok (.ireturn, 1) := by decide +kernel
theorem dJ2_getChar_3b067_0 : decode cJ2_getChar_3b067 0 = .ok (.getstatic 44, 3) := by decide +kernel
theorem dJ2_getChar_3b067_3 : decode cJ2_getChar_3b067 3 = .ok (.ifCond .ne 25, 3) := by decide +kernel
theorem dJ2_getChar_3b067_6 : decode cJ2_getChar_3b067 6 = .ok (.iload_n 1, 1) := by decide +kernel
theorem dJ2_getChar_3b067_7 : decode cJ2_getChar_3b067 7 = .ok (.ifCond .lt 11, 3) := by decide +kernel
theorem dJ2_getChar_3b067_10 : decode cJ2_getChar_3b067 10 = .ok (.iload_n 1, 1) := by decide +kernel
theorem dJ2_getChar_3b067_11 : decode cJ2_getChar_3b067 11 = .ok (.aload_n 0, 1) := by decide +kernel
theorem dJ2_getChar_3b067_12 : decode cJ2_getChar_3b067 12 = .ok (.invokestatic 48, 3) := by decide +kernel
theorem dJ2_getChar_3b067_15 : decode cJ2_getChar_3b067 15 = .ok (.if_icmp .lt 13, 3) := by decide +kernel
theorem dJ2_getChar_3b067_18 : decode cJ2_getChar_3b067 18 = .ok (.new 52, 3) := by decide +kernel
theorem dJ2_getChar_3b067_21 : decode cJ2_getChar_3b067 21 = .ok (.dup, 1) := by decide +kernel
theorem dJ2_getChar_3b067_22 : decode cJ2_getChar_3b067 22 = .ok (.ldc 54, 2) := by decide +kernel
theorem dJ2_getChar_3b067_24 : decode cJ2_getChar_3b067 24 = .ok (.invokespecial 56, 3) := by decide +kernel
theorem dJ2_getChar_3b067_27 : decode cJ2_getChar_3b067 27 = .ok (.athrow, 1) := by decide +kernel
theorem dJ2_getChar_3b067_28 : decode cJ2_getChar_3b067 28 = .ok (.iload_n 1, 1) := by decide +kernel
theorem dJ2_getChar_3b067_29 : decode cJ2_getChar_3b067 29 = .ok (.iconst 1, 1) := by decide +kernel
theorem dJ2_getChar_3b067_30 : decode cJ2_getChar_3b067 30 = .ok (.ishl, 1) := by decide +kernel
theorem dJ2_getChar_3b067_31 : decode cJ2_getChar_3b067 31 = .ok (.istore_n 1, 1) := by decide +kernel
theorem dJ2_getChar_3b067_32 : decode cJ2_getChar_3b067 32 = .ok (.aload_n 0, 1) := by decide +kernel
theorem dJ2_getChar_3b067_33 : decode cJ2_getChar_3b067 33 = .ok (.iload_n 1, 1) := by decide +kernel
theorem dJ2_getChar_3b067_34 : decode cJ2_getChar_3b067 34 = .ok (.iinc 1 1, 3) := by decide +kernel
theorem dJ2_getChar_3b067_37 : decode cJ2_getChar_3b067 37 = .ok (.baload, 1) := by decide +kernel
theorem dJ2_getChar_3b067_38 : decode cJ2_getChar_3b067 38 = .ok (.sipush 255, 3) := by decide +kernel
theorem dJ2_getChar_3b067_41 : decode cJ2_getChar_3b067 41 = .ok (.iand, 1) := by decide +kernel
theorem dJ2_getChar_3b067_42 : decode cJ2_getChar_3b067 42 = .ok (.getstatic 59, 3) := by decide +kernel
theorem dJ2_getChar_3b067_45 : decode cJ2_getChar_3b067 45 = .ok (.ishl, 1) := by decide +kernel
theorem dJ2_getChar_3b067_46 : decode cJ2_getChar_3b067 46 = .ok (.aload_n 0, 1) := by decide +kernel
theorem dJ2_getChar_3b067_47 : decode cJ2_getChar_3b067 47 = .ok (.iload_n 1, 1) := by decide +kernel
theorem dJ2_getChar_3b067_48 : decode cJ2_getChar_3b067 48 = .ok (.baload, 1) := by decide +kernel
theorem dJ2_getChar_3b067_49 : decode cJ2_getChar_3b067 49 = .ok (.sipush 255, 3) := by decide +kernel
theorem dJ2_getChar_3b067_52 : decode cJ2_getChar_3b067 52 = .ok (.iand, 1) := by decide +kernel
theorem dJ2_getChar_3b067_53 : decode cJ2_getChar_3b067 53 = .ok (.getstatic 63, 3) := by decide +kernel
theorem dJ2_getChar_3b067_56 : decode cJ2_getChar_3b067 56 = .ok (.ishl, 1) := by decide +kernel
theorem dJ2_getChar_3b067_57 : decode cJ2_getChar_3b067 57 = .ok (.ior, 1) := by decide +kernel
theorem dJ2_getChar_3b067_58 : decode cJ2_getChar_3b067 58 = .ok (.i2c, 1) := by decide +kernel
theorem dJ2_getChar_3b067_59 : decode cJ2_getChar_3b067 59 = .ok (.ireturn, 1) := by decide +kernel
theorem dJ2_length_9d52b_0 : decode cJ2_length_9d52b 0 = .ok (.aload_n 0, 1) := by decide +kernel
theorem dJ2_length_9d52b_1 : decode cJ2_length_9d52b 1 = .ok (.arraylength, 1) := by decide +kernel
theorem dJ2_length_9d52b_2 : decode cJ2_length_9d52b 2 = .ok (.iconst 1, 1) := by decide +kernel
theorem dJ2_length_9d52b_3 : decode cJ2_length_9d52b 3 = .ok (.ishr, 1) := by decide +kernel
theorem dJ2_length_9d52b_4 : decode cJ2_length_9d52b 4 = .ok (.ireturn, 1) := by decide +kernel
theorem dJ2_charAt_3b067_0 : decode cJ2_charAt_3b067 0 = .ok (.iload_n 1, 1) := by decide +kernel
theorem dJ2_charAt_3b067_1 : decode cJ2_charAt_3b067 1 = .ok (.aload_n 0, 1) := by decide +kernel
theorem dJ2_charAt_3b067_2 : decode cJ2_charAt_3b067 2 = .ok (.invokestatic 67, 3) := by decide +kernel
theorem dJ2_charAt_3b067_5 : decode cJ2_charAt_3b067 5 = .ok (.aload_n 0, 1) := by decide +kernel
theorem dJ2_charAt_3b067_6 : decode cJ2_charAt_3b067 6 = .ok (.iload_n 1, 1) := by decide +kernel
theorem dJ2_charAt_3b067_7 : decode cJ2_charAt_3b067 7 = .ok (.invokestatic 71, 3) := by decide +kernel
theorem dJ2_charAt_3b067_10 : decode cJ2_charAt_3b067 10 = .ok (.ireturn, 1) := by decide +kernel
theorem dJ2_checkIndex_2214a_0 : decode cJ2_checkIndex_2214a 0 = .ok (.iload_n 0, 1) := by decide +kernel
theorem dJ2_checkIndex_2214a_1 : decode cJ2_checkIndex_2214a 1 = .ok (.aload_n 1, 1) := by decide +kernel
theorem dJ2_checkIndex_2214a_2 : decode cJ2_checkIndex_2214a 2 = .ok (.invokestatic 48, 3) := by decide +kernel
theorem dJ2_checkIndex_2214a_5 : decode cJ2_checkIndex_2214a 5 = .ok (.invokestatic 414, 3) := by decide +kernel
theorem dJ2_checkIndex_2214a_8 : decode cJ2_checkIndex_2214a 8 = .ok (.return_, 1) := by decide +kernel
theorem dJ3_checkIndex_8e157_0 : decode cJ3_checkIndex_8e157 0 = .ok (.iload_n 0, 1) := by decide +kernel
theorem dJ3_checkIndex_8e157_1 : decode cJ3_checkIndex_8e157 1 = .ok (.ifCond .lt 8, 3) := by decide +kernel
theorem dJ3_checkIndex_8e157_4 : decode cJ3_checkIndex_8e157 4 = .ok (.iload_n 0, 1) := by decide +kernel
theorem dJ3_checkIndex_8e157_5 : decode cJ3_checkIndex_8e157 5 = .ok (.iload_n 1, 1) := by decide +kernel
theorem dJ3_checkIndex_8e157_6 : decode cJ3_checkIndex_8e157 6 = .ok (.if_icmp .lt 10, 3) := by decide +kernel
theorem dJ3_checkIndex_8e157_9 : decode cJ3_checkIndex_8e157 9 = .ok (.aload_n 2, 1) := by decide +kernel
theorem dJ3_checkIndex_8e157_10 : decode cJ3_checkIndex_8e157 10 = .ok (.iload_n 0, 1) := by decide +kernel
theorem dJ3_checkIndex_8e157_11 : decode cJ3_checkIndex_8e157 11 = .ok (.iload_n 1, 1) := by decide +kernel
theorem dJ3_checkIndex_8e157_12 : decode cJ3_checkIndex_8e157 12 = .ok (.invokestatic 95, 3) := by decide +kernel
theorem dJ3_checkIndex_8e157_15 : decode cJ3_checkIndex_8e157 15 = .ok (.athrow, 1) := by decide +kernel
theorem dJ3_checkIndex_8e157_16 : decode cJ3_checkIndex_8e157 16 = .ok (.iload_n 0, 1) := by decide +kernel
theorem dJ3_checkIndex_8e157_17 : decode cJ3_checkIndex_8e157 17 = .ok (.ireturn, 1) := by decide +kernel
end
section
theorem dX5_in_0 : decode cX5_in 0 = .ok (.lload_n 0, 1) := by decide +kernel
theorem dX5_in_1 : decode cX5_in 1 = .ok (.lload_n 2, 1) := by decide +kernel
theorem dX5_in_2 : decode cX5_in 2 = .ok (.lcmp, 1) := by decide +kernel
theorem dX5_in_3 : decode cX5_in 3 = .ok (.ifCond .lt 14, 3) := by decide +kernel
theorem dX5_in_6 : decode cX5_in 6 = .ok (.lload_n 0, 1) := by decide +kernel
theorem dX5_in_7 : decode cX5_in 7 = .ok (.lload 4, 2) := by decide +kernel
theorem dX5_in_9 : decode cX5_in 9 = .ok (.lcmp, 1) := by decide +kernel
theorem dX5_in_10 : decode cX5_in 10 = .ok (.ifCond .gt 7, 3) := by decide +kernel
theorem dX5_in_13 : decode cX5_in 13 = .ok (.iconst 1, 1) := by decide +kernel
theorem dX5_in_14 : decode cX5_in 14 = .ok (.goto 4, 3) := by decide +kernel
theorem dX5_in_17 : decode cX5_in 17 = .ok (.iconst 0, 1) := by decide +kernel
theorem dX5_in_18 : decode cX5_in 18 = .ok (.ireturn, 1) := by decide +kernel
theorem dX5_within_0 : decode cX5_within 0 = .ok (.iload_n 0, 1) := by decide +kernel
theorem dX5_within_1 : decode cX5_within 1 = .ok (.iload_n 1, 1) := by decide +kernel
theorem dX5_within_2 : decode cX5_within 2 = .ok (.if_icmp .ge 7, 3) := by decide +kernel
theorem dX5_within_5 : decode cX5_within 5 = .ok (.iload_n 1, 1) := by decide +kernel
theorem dX5_within_6 : decode cX5_within 6 = .ok (.goto 13, 3) := by decide +kernel
theorem dX5_within_9 : decode cX5_within 9 = .ok (.iload_n 0, 1) := by decide +kernel
theorem dX5_within_10 : decode cX5_within 10 = .ok (.iload_n 2, 1) := by decide +kernel
theorem dX5_within_11 : decode cX5_within 11 = .ok (.if_icmp .le 7, 3) := by decide +kernel
theorem dX5_within_14 : decode cX5_within 14 = .ok (.iload_n 2, 1) := by decide +kernel
theorem dX5_within_15 : decode cX5_within 15 = .ok (.goto 4, 3) := by decide +kernel
theorem dX5_within_18 : decode cX5_within 18 = .ok (.iload_n 0, 1) := by decide +kernel
theorem dX5_within_19 : decode cX5_within 19 = .ok (.ireturn, 1) := by decide +kernel
theorem dX5_init_0 : decode cX5_init 0 = .ok (.aload_n 0, 1) := by decide +kernel
theorem dX5_init_1 : decode cX5_init 1 = .ok (.invokespecial 7, 3) := by decide +kernel
theorem dX5_init_4 : decode cX5_init 4 = .ok (.aload_n 0, 1) := by decide +kernel
theorem dX5_init_5 : decode cX5_init 5 = .ok (.sipush 960, 3) := by decide +kernel
theorem dX5_init_8 : decode cX5_init 8 = .ok (.newarray .int, 2) := by decide +kernel
theorem dX5_init_10 : decode cX5_init 10 = .ok (.putfield 13, 3) := by decide +kernel
theorem dX5_init_13 : decode cX5_init 13 = .ok (.aload_n 0, 1) := by decide +kernel
theorem dX5_init_14 : decode cX5_init 14 = .ok (.bipush 6, 2) := by decide +kernel
theorem dX5_init_16 : decode cX5_init 16 = .ok (.newarray .int, 2) := by decide +kernel
theorem dX5_init_18 : decode cX5_init 18 = .ok (.putfield 17, 3) := by decide +kernel
theorem dX5_init_21 : decode cX5_init 21 = .ok (.aload_n 0, 1) := by decide +kernel
theorem dX5_init_22 : decode cX5_init 22 = .ok (.sipush 160, 3) := by decide +kernel
theorem dX5_init_25 : decode cX5_init 25 = .ok (.newarray .int, 2) := by decide +kernel
theorem dX5_init_27 : decode cX5_init 27 = .ok (.putfield 20, 3) := by decide +kernel
theorem dX5_init_30 : decode cX5_init 30 = .ok (.aload_n 0, 1) := by decide +kernel
theorem dX5_init_31 : decode cX5_init 31 = .ok (.bipush 20, 2) := by decide +kernel
theorem dX5_init_33 : decode cX5_init 33 = .ok (.putfield 23, 3) := by decide +kernel
theorem dX5_init_36 : decode cX5_init 36 = .ok (.aload_n 0, 1) := by decide +kernel
theorem dX5_init_37 : decode cX5_init 37 = .ok (.bipush 10, 2) := by decide +kernel
theorem dX5_init_39 : decode cX5_init 39 = .ok (.newarray .int, 2) := by decide +kernel
theorem dX5_init_41 : decode cX5_init 41 = .ok (.putfield 26, 3) := by decide +kernel
theorem dX5_init_44 : decode cX5_init 44 = .ok (.aload_n 0, 1) := by decide +kernel
theorem dX5_init_45 : decode cX5_init 45 = .ok (.bipush 10, 2) := by decide +kernel
theorem dX5_init_47 : decode cX5_init 47 = .ok (.newarray .int, 2) := by decide +kernel
theorem dX5_init_49 : decode cX5_init 49 = .ok (.putfield 29, 3) := by decide +kernel
theorem dX5_init_52 : decode cX5_init 52 = .ok (.aload_n 0, 1) := by decide +kernel
theorem dX5_init_53 : decode cX5_init 53 = .ok (.bipush 20, 2) := by decide +kernel
theorem dX5_init_55 : decode cX5_init 55 = .ok (.newarray .int, 2) := by decide +kernel
theorem dX5_init_57 : decode cX5_init 57 = .ok (.putfield 32, 3) := by decide +kernel
theorem dX5_init_60 : decode cX5_init 60 = .ok (.aload_n 0, 1) := by decide +kernel
theorem dX5_init_61 : decode cX5_init 61 = .ok (.bipush 43, 2) := by decide +kernel
theorem dX5_init_63 : decode cX5_init 63 = .ok (.newarray .int, 2) := by decide +kernel
theorem dX5_init_65 : decode cX5_init 65 = .ok (.putfield 35, 3) := by decide +kernel
theorem dX5_init_68 : decode cX5_init 68 = .ok (.aload_n 0, 1) := by decide +kernel
theorem dX5_init_69 : decode cX5_init 69 = .ok (.iconst 3, 1) := by decide +kernel
theorem dX5_init_70 : decode cX5_init 70 = .ok (.newarray .int, 2) := by decide +kernel
theorem dX5_init_72 : decode cX5_init 72 = .ok (.putfield 38, 3) := by decide +kernel
theorem dX5_init_75 : decode cX5_init 75 = .ok (.aload_n 0, 1) := by decide +kernel
theorem dX5_init_76 : decode cX5_init 76 = .ok (.bipush 20, 2) := by decide +kernel
theorem dX5_init_78 : decode cX5_init 78 = .ok (.newarray .int, 2) := by decide +kernel
theorem dX5_init_80 : decode cX5_init 80 = .ok (.putfield 41, 3) := by decide +kernel
theorem dX5_init_83 : decode cX5_init 83 = .ok (.aload_n 0, 1) := by decide +kernel
theorem dX5_init_84 : decode cX5_init 84 = .ok (.bipush 10, 2) := by decide +kernel
theorem dX5_init_86 : decode cX5_init 86 = .ok (.newarray .int, 2) := by decide +kernel
theorem dX5_init_88 : decode cX5_init 88 = .ok (.putfield 44, 3) := by decide +kernel
theorem dX5_init_91 : decode cX5_init 91 = .ok (.aload_n 0, 1) := by decide +kernel
theorem dX5_init_92 : decode cX5_init 92 = .ok (.bipush 10, 2) := by decide +kernel
theorem dX5_init_94 : decode cX5_init 94 = .ok (.newarray .int, 2) := by decide +kernel
theorem dX5_init_96 : decode cX5_init 96 = .ok (.putfield 47, 3) := by decide +kernel
theorem dX5_init_99 : decode cX5_init 99 = .ok (.aload_n 0, 1) := by decide +kernel
theorem dX5_init_100 : decode cX5_init 100 = .ok (.iconst (-1), 1) := by decide +kernel
theorem dX5_init_101 : decode cX5_init 101 = .ok (.putfield 50, 3) := by decide +kernel
theorem dX5_init_104 : decode cX5_init 104 = .ok (.aload_n 0, 1) := by decide +kernel
theorem dX5_init_105 : decode cX5_init 105 = .ok (.iconst 4, 1) := by decide +kernel
theorem dX5_init_106 : decode cX5_init 106 = .ok (.newarray .boolean, 2) := by decide +kernel
theorem dX5_init_108 : decode cX5_init 108 = .ok (.putfield 53, 3) := by decide +kernel
theorem dX5_init_111 : decode cX5_init 111 = .ok (.aload_n 0, 1) := by decide +kernel
theorem dX5_init_112 : decode cX5_init 112 = .ok (.iconst 4, 1) := by decide +kernel
theorem dX5_init_113 : decode cX5_init 113 = .ok (.newarray .int, 2) := by decide +kernel
theorem dX5_init_115 : decode cX5_init 115 = .ok (.putfield 57, 3) := by decide +kernel
theorem dX5_init_118 : decode cX5_init 118 = .ok (.aload_n 0, 1) := by decide +kernel
theorem dX5_init_119 : decode cX5_init 119 = .ok (.iconst 4, 1) := by decide +kernel
theorem dX5_init_120 : decode cX5_init 120 = .ok (.newarray .int, 2) := by decide +kernel
theorem dX5_init_122 : decode cX5_init 122 = .ok (.putfield 60, 3) := by decide +kernel
theorem dX5_init_125 : decode cX5_init 125 = .ok (.aload_n 0, 1) := by decide +kernel
theorem dX5_init_126 : decode cX5_init 126 = .ok (.sipush 160, 3) := by decide +kernel
theorem dX5_init_129 : decode cX5_init 129 = .ok (.newarray .int, 2) := by decide +kernel
theorem dX5_init_131 : decode cX5_init 131 = .ok (.putfield 63, 3) := by decide +kernel
theorem dX5_init_134 : decode cX5_init 134 = .ok (.iconst 0, 1) := by decide +kernel
theorem dX5_init_135 : decode cX5_init 135 = .ok (.istore_n 1, 1) := by decide +kernel
theorem dX5_init_136 : decode cX5_init 136 = .ok (.iload_n 1, 1) := by decide +kernel
theorem dX5_init_137 : decode cX5_init 137 = .ok (.bipush 10, 2) := by decide +kernel
theorem dX5_init_139 : decode cX5_init 139 = .ok (.if_icmp .ge 16, 3) := by decide +kernel
theorem dX5_init_142 : decode cX5_init 142 = .ok (.aload_n 0, 1) := by decide +kernel
theorem dX5_init_143 : decode cX5_init 143 = .ok (.getfield 26, 3) := by decide +kernel
theorem dX5_init_146 : decode cX5_init 146 = .ok (.iload_n 1, 1) := by decide +kernel
theorem dX5_init_147 : decode cX5_init 147 = .ok (.iconst (-1), 1) := by decide +kernel
theorem dX5_init_148 : decode cX5_init 148 = .ok (.iastore, 1) := by decide +kernel
theorem dX5_init_149 : decode cX5_init 149 = .ok (.iinc 1 1, 3) := by decide +kernel
theorem dX5_init_152 : decode cX5_init 152 = .ok (.goto (-16), 3) := by decide +kernel
theorem dX5_init_155 : decode cX5_init 155 = .ok (.aload_n 0, 1) := by decide +kernel
theorem dX5_init_156 : decode cX5_init 156 = .ok (.iconst 0, 1) := by decide +kernel
theorem dX5_init_157 : decode cX5_init 157 = .ok (.bipush 109, 2) := by decide +kernel
theorem dX5_init_159 : decode cX5_init 159 = .ok (.bipush 97, 2) := by decide +kernel
theorem dX5_init_161 : decode cX5_init 161 = .ok (.bipush 107, 2) := by decide +kernel
theorem dX5_init_163 : decode cX5_init 163 = .ok (.bipush 101, 2) := by decide +kernel
theorem dX5_init_165 : decode cX5_init 165 = .ok (.bipush 115, 2) := by decide +kernel
theorem dX5_init_167 : decode cX5_init 167 = .ok (.bipush 32, 2) := by decide +kernel
theorem dX5_init_169 : decode cX5_init 169 = .ok (.bipush 115, 2) := by decide +kernel
theorem dX5_init_171 : decode cX5_init 171 = .ok (.bipush 107, 2) := by decide +kernel
theorem dX5_init_173 : decode cX5_init 173 = .ok (.invokevirtual 66, 3) := by decide +kernel
theorem dX5_init_176 : decode cX5_init 176 = .ok (.aload_n 0, 1) := by decide +kernel
theorem dX5_init_177 : decode cX5_init 177 = .ok (.bipush 8, 2) := by decide +kernel
theorem dX5_init_179 : decode cX5_init 179 = .ok (.bipush 105, 2) := by decide +kernel
theorem dX5_init_181 : decode cX5_init 181 = .ok (.bipush 108, 2) := by decide +kernel
theorem dX5_init_183 : decode cX5_init 183 = .ok (.bipush 108, 2) := by decide +kernel
theorem dX5_init_185 : decode cX5_init 185 = .ok (.bipush 32, 2) := by decide +kernel
theorem dX5_init_187 : decode cX5_init 187 = .ok (.bipush 59, 2) := by decide +kernel
theorem dX5_init_189 : decode cX5_init 189 = .ok (.bipush 32, 2) := by decide +kernel
theorem dX5_init_191 : decode cX5_init 191 = .ok (.bipush 109, 2) := by decide +kernel
theorem dX5_init_193 : decode cX5_init 193 = .ok (.bipush 101, 2) := by decide +kernel
theorem dX5_init_195 : decode cX5_init 195 = .ok (.invokevirtual 66, 3) := by decide +kernel
theorem dX5_init_198 : decode cX5_init 198 = .ok (.aload_n 0, 1) := by decide +kernel
theorem dX5_init_199 : decode cX5_init 199 = .ok (.bipush 16, 2) := by decide +kernel
theorem dX5_init_201 : decode cX5_init 201 = .ok (.bipush 110, 2) := by decide +kernel
theorem dX5_init_203 : decode cX5_init 203 = .ok (.bipush 100, 2) := by decide +kernel
theorem dX5_init_205 : decode cX5_init 205 = .ok (.bipush 115, 2) := by decide +kernel
theorem dX5_init_207 : decode cX5_init 207 = .ok (.bipush 32, 2) := by decide +kernel
theorem dX5_init_209 : decode cX5_init 209 = .ok (.bipush 49, 2) := by decide +kernel
theorem dX5_init_211 : decode cX5_init 211 = .ok (.bipush 32, 2) := by decide +kernel
theorem dX5_init_213 : decode cX5_init 213 = .ok (.bipush 59, 2) := by decide +kernel
theorem dX5_init_215 : decode cX5_init 215 = .ok (.bipush 32, 2) := by decide +kernel
theorem dX5_init_217 : decode cX5_init 217 = .ok (.invokevirtual 66, 3) := by decide +kernel
theorem dX5_init_220 : decode cX5_init 220 = .ok (.aload_n 0, 1) := by decide +kernel
theorem dX5_init_221 : decode cX5_init 221 = .ok (.bipush 24, 2) := by decide +kernel
theorem dX5_init_223 : decode cX5_init 223 = .ok (.bipush 112, 2) := by decide +kernel
theorem dX5_init_225 : decode cX5_init 225 = .ok (.bipush 117, 2) := by decide +kernel
theorem dX5_init_227 : decode cX5_init 227 = .ok (.bipush 109, 2) := by decide +kernel
theorem dX5_init_229 : decode cX5_init 229 = .ok (.bipush 112, 2) := by decide +kernel
theorem dX5_init_231 : decode cX5_init 231 = .ok (.bipush 115, 2) := by decide +kernel
theorem dX5_init_233 : decode cX5_init 233 = .ok (.bipush 32, 2) := by decide +kernel
theorem dX5_init_235 : decode cX5_init 235 = .ok (.bipush 51, 2) := by decide +kernel
theorem dX5_init_237 : decode cX5_init 237 = .ok (.bipush 32, 2) := by decide +kernel
theorem dX5_init_239 : decode cX5_init 239 = .ok (.invokevirtual 66, 3) := by decide +kernel
theorem dX5_init_242 : decode cX5_init 242 = .ok (.aload_n 0, 1) := by decide +kernel
theorem dX5_init_243 : decode cX5_init 243 = .ok (.bipush 32, 2) := by decide +kernel
theorem dX5_init_245 : decode cX5_init 245 = .ok (.bipush 59, 2) := by decide +kernel
theorem dX5_init_247 : decode cX5_init 247 = .ok (.bipush 32, 2) := by decide +kernel
theorem dX5_init_249 : decode cX5_init 249 = .ok (.bipush 32, 2) := by decide +kernel
theorem dX5_init_251 : decode cX5_init 251 = .ok (.bipush 32, 2) := by decide +kernel
theorem dX5_init_253 : decode cX5_init 253 = .ok (.bipush 32, 2) := by decide +kernel
theorem dX5_init_255 : decode cX5_init 255 = .ok (.bipush 32, 2) := by decide +kernel
theorem dX5_init_257 : decode cX5_init 257 = .ok (.bipush 32, 2) := by decide +kernel
theorem dX5_init_259 : decode cX5_init 259 = .ok (.bipush 32, 2) := by decide +kernel
theorem dX5_init_261 : decode cX5_init 261 = .ok (.invokevirtual 66, 3) := by decide +kernel
theorem dX5_init_264 : decode cX5_init 264 = .ok (.aload_n 0, 1) := by decide +kernel
theorem dX5_init_265 : decode cX5_init 265 = .ok (.getfield 17, 3) := by decide +kernel
theorem dX5_init_268 : decode cX5_init 268 = .ok (.iconst 0, 1) := by decide +kernel
theorem dX5_init_269 : decode cX5_init 269 = .ok (.bipush 40, 2) := by decide +kernel
theorem dX5_init_271 : decode cX5_init 271 = .ok (.iastore, 1) := by decide +kernel
theorem dX5_init_272 : decode cX5_init 272 = .ok (.aload_n 0, 1) := by decide +kernel
theorem dX5_init_273 : decode cX5_init 273 = .ok (.iconst 1, 1) := by decide +kernel
theorem dX5_init_274 : decode cX5_init 274 = .ok (.putfield 70, 3) := by decide +kernel
theorem dX5_init_277 : decode cX5_init 277 = .ok (.return_, 1) := by decide +kernel
theorem dX5_spell_0 : decode cX5_spell 0 = .ok (.aload_n 0, 1) := by decide +kernel
theorem dX5_spell_1 : decode cX5_spell 1 = .ok (.getfield 13, 3) := by decide +kernel
theorem dX5_spell_4 : decode cX5_spell 4 = .ok (.iload_n 1, 1) := by decide +kernel
theorem dX5_spell_5 : decode cX5_spell 5 = .ok (.iload_n 2, 1) := by decide +kernel
theorem dX5_spell_6 : decode cX5_spell 6 = .ok (.iastore, 1) := by decide +kernel
theorem dX5_spell_7 : decode cX5_spell 7 = .ok (.aload_n 0, 1) := by decide +kernel
theorem dX5_spell_8 : decode cX5_spell 8 = .ok (.getfield 13, 3) := by decide +kernel
theorem dX5_spell_11 : decode cX5_spell 11 = .ok (.iload_n 1, 1) := by decide +kernel
theorem dX5_spell_12 : decode cX5_spell 12 = .ok (.iconst 1, 1) := by decide +kernel
theorem dX5_spell_13 : decode cX5_spell 13 = .ok (.iadd, 1) := by decide +kernel
theorem dX5_spell_14 : decode cX5_spell 14 = .ok (.iload_n 3, 1) := by decide +kernel
theorem dX5_spell_15 : decode cX5_spell 15 = .ok (.iastore, 1) := by decide +kernel
theorem dX5_spell_16 : decode cX5_spell 16 = .ok (.aload_n 0, 1) := by decide +kernel
theorem dX5_spell_17 : decode cX5_spell 17 = .ok (.getfield 13, 3) := by decide +kernel
theorem dX5_spell_20 : decode cX5_spell 20 = .ok (.iload_n 1, 1) := by decide +kernel
theorem dX5_spell_21 : decode cX5_spell 21 = .ok (.iconst 2, 1) := by decide +kernel
theorem dX5_spell_22 : decode cX5_spell 22 = .ok (.iadd, 1) := by decide +kernel
theorem dX5_spell_23 : decode cX5_spell 23 = .ok (.iload 4, 2) := by decide +kernel
theorem dX5_spell_25 : decode cX5_spell 25 = .ok (.iastore, 1) := by decide +kernel
theorem dX5_spell_26 : decode cX5_spell 26 = .ok (.aload_n 0, 1) := by decide +kernel
theorem dX5_spell_27 : decode cX5_spell 27 = .ok (.getfield 13, 3) := by decide +kernel
theorem dX5_spell_30 : decode cX5_spell 30 = .ok (.iload_n 1, 1) := by decide +kernel
theorem dX5_spell_31 : decode cX5_spell 31 = .ok (.iconst 3, 1) := by decide +kernel
theorem dX5_spell_32 : decode cX5_spell 32 = .ok (.iadd, 1) := by decide +kernel
theorem dX5_spell_33 : decode cX5_spell 33 = .ok (.iload 5, 2) := by decide +kernel
theorem dX5_spell_35 : decode cX5_spell 35 = .ok (.iastore, 1) := by decide +kernel
theorem dX5_spell_36 : decode cX5_spell 36 = .ok (.aload_n 0, 1) := by decide +kernel
theorem dX5_spell_37 : decode cX5_spell 37 = .ok (.getfield 13, 3) := by decide +kernel
theorem dX5_spell_40 : decode cX5_spell 40 = .ok (.iload_n 1, 1) := by decide +kernel
theorem dX5_spell_41 : decode cX5_spell 41 = .ok (.iconst 4, 1) := by decide +kernel
theorem dX5_spell_42 : decode cX5_spell 42 = .ok (.iadd, 1) := by decide +kernel
theorem dX5_spell_43 : decode cX5_spell 43 = .ok (.iload 6, 2) := by decide +kernel
theorem dX5_spell_45 : decode cX5_spell 45 = .ok (.iastore, 1) := by decide +kernel
theorem dX5_spell_46 : decode cX5_spell 46 = .ok (.aload_n 0, 1) := by decide +kernel
theorem dX5_spell_47 : decode cX5_spell 47 = .ok (.getfield 13, 3) := by decide +kernel
theorem dX5_spell_50 : decode cX5_spell 50 = .ok (.iload_n 1, 1) := by decide +kernel
theorem dX5_spell_51 : decode cX5_spell 51 = .ok (.iconst 5, 1) := by decide +kernel
theorem dX5_spell_52 : decode cX5_spell 52 = .ok (.iadd, 1) := by decide +kernel
theorem dX5_spell_53 : decode cX5_spell 53 = .ok (.iload 7, 2) := by decide +kernel
theorem dX5_spell_55 : decode cX5_spell 55 = .ok (.iastore, 1) := by decide +kernel
theorem dX5_spell_56 : decode cX5_spell 56 = .ok (.aload_n 0, 1) := by decide +kernel
theorem dX5_spell_57 : decode cX5_spell 57 = .ok (.getfield 13, 3) := by decide +kernel
theorem dX5_spell_60 : decode cX5_spell 60 = .ok (.iload_n 1, 1) := by decide +kernel
theorem dX5_spell_61 : decode cX5_spell 61 = .ok (.bipush 6, 2) := by decide +kernel
theorem dX5_spell_63 : decode cX5_spell 63 = .ok (.iadd, 1) := by decide +kernel
theorem dX5_spell_64 : decode cX5_spell 64 = .ok (.iload 8, 2) := by decide +kernel
theorem dX5_spell_66 : decode cX5_spell 66 = .ok (.iastore, 1) := by decide +kernel
theorem dX5_spell_67 : decode cX5_spell 67 = .ok (.aload_n 0, 1) := by decide +kernel
theorem dX5_spell_68 : decode cX5_spell 68 = .ok (.getfield 13, 3) := by decide +kernel
theorem dX5_spell_71 : decode cX5_spell 71 = .ok (.iload_n 1, 1) := by decide +kernel
theorem dX5_spell_72 : decode cX5_spell 72 = .ok (.bipush 7, 2) := by decide +kernel
theorem dX5_spell_74 : decode cX5_spell 74 = .ok (.iadd, 1) := by decide +kernel
theorem dX5_spell_75 : decode cX5_spell 75 = .ok (.iload 9, 2) := by decide +kernel
theorem dX5_spell_77 : decode cX5_spell 77 = .ok (.iastore, 1) := by decide +kernel
theorem dX5_spell_78 : decode cX5_spell 78 = .ok (.return_, 1) := by decide +kernel
theorem dX5_isOne_0 : decode cX5_isOne 0 = .ok (.iload_n 1, 1) := by decide +kernel
theorem dX5_isOne_1 : decode cX5_isOne 1 = .ok (.i2l, 1) := by decide +kernel
theorem dX5_isOne_2 : decode cX5_isOne 2 = .ok (.lconst 0, 1) := by decide +kernel
theorem dX5_isOne_3 : decode cX5_isOne 3 = .ok (.aload_n 0, 1) := by decide +kernel
theorem dX5_isOne_4 : decode cX5_isOne 4 = .ok (.getfield 73, 3) := by decide +kernel
theorem dX5_isOne_7 : decode cX5_isOne 7 = .ok (.iconst 1, 1) := by decide +kernel
theorem dX5_isOne_8 : decode cX5_isOne 8 = .ok (.isub, 1) := by decide +kernel
theorem dX5_isOne_9 : decode cX5_isOne 9 = .ok (.i2l, 1) := by decide +kernel
theorem dX5_isOne_10 : decode cX5_isOne 10 = .ok (.invokestatic 76, 3) := by decide +kernel
theorem dX5_isOne_13 : decode cX5_isOne 13 = .ok (.ireturn, 1) := by decide +kernel
theorem dX5_isPart_0 : decode cX5_isPart 0 = .ok (.iload_n 0, 1) := by decide +kernel
theorem dX5_isPart_1 : decode cX5_isPart 1 = .ok (.i2l, 1) := by decide +kernel
theorem dX5_isPart_2 : decode cX5_isPart 2 = .ok (.lconst 0, 1) := by decide +kernel
theorem dX5_isPart_3 : decode cX5_isPart 3 = .ok (.ldc2_w 80, 3) := by decide +kernel
theorem dX5_isPart_6 : decode cX5_isPart 6 = .ok (.invokestatic 76, 3) := by decide +kernel
theorem dX5_isPart_9 : decode cX5_isPart 9 = .ok (.ireturn, 1) := by decide +kernel
theorem dX5_isUnder_0 : decode cX5_isUnder 0 = .ok (.iload_n 0, 1) := by decide +kernel
theorem dX5_isUnder_1 : decode cX5_isUnder 1 = .ok (.iconst 2, 1) := by decide +kernel
theorem dX5_isUnder_2 : decode cX5_isUnder 2 = .ok (.irem, 1) := by decide +kernel
theorem dX5_isUnder_3 : decode cX5_isUnder 3 = .ok (.ifCond .ne 7, 3) := by decide +kernel
theorem dX5_isUnder_6 : decode cX5_isUnder 6 = .ok (.iconst 1, 1) := by decide +kernel
theorem dX5_isUnder_7 : decode cX5_isUnder 7 = .ok (.goto 4, 3) := by decide +kernel
theorem dX5_isUnder_10 : decode cX5_isUnder 10 = .ok (.iconst 0, 1) := by decide +kernel
theorem dX5_isUnder_11 : decode cX5_isUnder 11 = .ok (.ireturn, 1) := by decide +kernel
theorem dX5_isOf_0 : decode cX5_isOf 0 = .ok (.iload_n 1, 1) := by decide +kernel
theorem dX5_isOf_1 : decode cX5_isOf 1 = .ok (.iconst 3, 1) := by decide +kernel
theorem dX5_isOf_2 : decode cX5_isOf 2 = .ok (.if_icmp .lt 32, 3) := by decide +kernel
theorem dX5_isOf_5 : decode cX5_isOf 5 = .ok (.iload_n 1, 1) := by decide +kernel
theorem dX5_isOf_6 : decode cX5_isOf 6 = .ok (.iconst 3, 1) := by decide +kernel
theorem dX5_isOf_7 : decode cX5_isOf 7 = .ok (.if_icmp .eq 9, 3) := by decide +kernel
theorem dX5_isOf_10 : decode cX5_isOf 10 = .ok (.iload_n 1, 1) := by decide +kernel
theorem dX5_isOf_11 : decode cX5_isOf 11 = .ok (.bipush 9, 2) := by decide +kernel
theorem dX5_isOf_13 : decode cX5_isOf 13 = .ok (.if_icmp .le 13, 3) := by decide +kernel
theorem dX5_isOf_16 : decode cX5_isOf 16 = .ok (.iload_n 2, 1) := by decide +kernel
theorem dX5_isOf_17 : decode cX5_isOf 17 = .ok (.invokestatic 82, 3) := by decide +kernel
theorem dX5_isOf_20 : decode cX5_isOf 20 = .ok (.ifCond .eq 18, 3) := by decide +kernel
theorem dX5_isOf_23 : decode cX5_isOf 23 = .ok (.goto 11, 3) := by decide +kernel
theorem dX5_isOf_26 : decode cX5_isOf 26 = .ok (.aload_n 0, 1) := by decide +kernel
theorem dX5_isOf_27 : decode cX5_isOf 27 = .ok (.iload_n 2, 1) := by decide +kernel
theorem dX5_isOf_28 : decode cX5_isOf 28 = .ok (.invokevirtual 86, 3) := by decide +kernel
theorem dX5_isOf_31 : decode cX5_isOf 31 = .ok (.ifCond .eq 7, 3) := by decide +kernel
theorem dX5_isOf_34 : decode cX5_isOf 34 = .ok (.iconst 1, 1) := by decide +kernel
theorem dX5_isOf_35 : decode cX5_isOf 35 = .ok (.goto 4, 3) := by decide +kernel
theorem dX5_isOf_38 : decode cX5_isOf 38 = .ok (.iconst 0, 1) := by decide +kernel
theorem dX5_isOf_39 : decode cX5_isOf 39 = .ok (.ireturn, 1) := by decide +kernel
theorem dX5_mostOf_0 : decode cX5_mostOf 0 = .ok (.iload_n 0, 1) := by decide +kernel
theorem dX5_mostOf_1 : decode cX5_mostOf 1 = .ok (.ifCond .ne 9, 3) := by decide +kernel
theorem dX5_mostOf_4 : decode cX5_mostOf 4 = .ok (.sipush 999, 3) := by decide +kernel
theorem dX5_mostOf_7 : decode cX5_mostOf 7 = .ok (.goto 25, 3) := by decide +kernel
theorem dX5_mostOf_10 : decode cX5_mostOf 10 = .ok (.iload_n 0, 1) := by decide +kernel
theorem dX5_mostOf_11 : decode cX5_mostOf 11 = .ok (.iconst 2, 1) := by decide +kernel
theorem dX5_mostOf_12 : decode cX5_mostOf 12 = .ok (.if_icmp .ne 8, 3) := by decide +kernel
theorem dX5_mostOf_15 : decode cX5_mostOf 15 = .ok (.bipush 100, 2) := by decide +kernel
theorem dX5_mostOf_17 : decode cX5_mostOf 17 = .ok (.goto 15, 3) := by decide +kernel
theorem dX5_mostOf_20 : decode cX5_mostOf 20 = .ok (.iload_n 0, 1) := by decide +kernel
theorem dX5_mostOf_21 : decode cX5_mostOf 21 = .ok (.iconst 4, 1) := by decide +kernel
theorem dX5_mostOf_22 : decode cX5_mostOf 22 = .ok (.if_icmp .ne 8, 3) := by decide +kernel
theorem dX5_mostOf_25 : decode cX5_mostOf 25 = .ok (.bipush 9, 2) := by decide +kernel
theorem dX5_mostOf_27 : decode cX5_mostOf 27 = .ok (.goto 5, 3) := by decide +kernel
theorem dX5_mostOf_30 : decode cX5_mostOf 30 = .ok (.bipush 99, 2) := by decide +kernel
theorem dX5_mostOf_32 : decode cX5_mostOf 32 = .ok (.ireturn, 1) := by decide +kernel
theorem dX5_set_0 : decode cX5_set 0 = .ok (.iload_n 1, 1) := by decide +kernel
theorem dX5_set_1 : decode cX5_set 1 = .ok (.i2l, 1) := by decide +kernel
theorem dX5_set_2 : decode cX5_set 2 = .ok (.lconst 0, 1) := by decide +kernel
theorem dX5_set_3 : decode cX5_set 3 = .ok (.ldc2_w 89, 3) := by decide +kernel
theorem dX5_set_6 : decode cX5_set 6 = .ok (.invokestatic 76, 3) := by decide +kernel
theorem dX5_set_9 : decode cX5_set 9 = .ok (.ifCond .eq 26, 3) := by decide +kernel
theorem dX5_set_12 : decode cX5_set 12 = .ok (.aload_n 0, 1) := by decide +kernel
theorem dX5_set_13 : decode cX5_set 13 = .ok (.iload_n 1, 1) := by decide +kernel
theorem dX5_set_14 : decode cX5_set 14 = .ok (.iload_n 2, 1) := by decide +kernel
theorem dX5_set_15 : decode cX5_set 15 = .ok (.invokevirtual 91, 3) := by decide +kernel
theorem dX5_set_18 : decode cX5_set 18 = .ok (.ifCond .eq 17, 3) := by decide +kernel
theorem dX5_set_21 : decode cX5_set 21 = .ok (.iload_n 3, 1) := by decide +kernel
theorem dX5_set_22 : decode cX5_set 22 = .ok (.i2l, 1) := by decide +kernel
theorem dX5_set_23 : decode cX5_set 23 = .ok (.lconst 0, 1) := by decide +kernel
theorem dX5_set_24 : decode cX5_set 24 = .ok (.iload_n 1, 1) := by decide +kernel
theorem dX5_set_25 : decode cX5_set 25 = .ok (.invokestatic 95, 3) := by decide +kernel
theorem dX5_set_28 : decode cX5_set 28 = .ok (.i2l, 1) := by decide +kernel
theorem dX5_set_29 : decode cX5_set 29 = .ok (.invokestatic 76, 3) := by decide +kernel
theorem dX5_set_32 : decode cX5_set 32 = .ok (.ifCond .ne 6, 3) := by decide +kernel
theorem dX5_set_35 : decode cX5_set 35 = .ok (.bipush (-2), 2) := by decide +kernel
theorem dX5_set_37 : decode cX5_set 37 = .ok (.ireturn, 1) := by decide +kernel
theorem dX5_set_38 : decode cX5_set 38 = .ok (.aload_n 0, 1) := by decide +kernel
theorem dX5_set_39 : decode cX5_set 39 = .ok (.iload_n 2, 1) := by decide +kernel
theorem dX5_set_40 : decode cX5_set 40 = .ok (.iload_n 1, 1) := by decide +kernel
theorem dX5_set_41 : decode cX5_set 41 = .ok (.invokevirtual 99, 3) := by decide +kernel
theorem dX5_set_44 : decode cX5_set 44 = .ok (.istore 4, 2) := by decide +kernel
theorem dX5_set_46 : decode cX5_set 46 = .ok (.aload_n 0, 1) := by decide +kernel
theorem dX5_set_47 : decode cX5_set 47 = .ok (.iload_n 1, 1) := by decide +kernel
theorem dX5_set_48 : decode cX5_set 48 = .ok (.iload_n 2, 1) := by decide +kernel
theorem dX5_set_49 : decode cX5_set 49 = .ok (.iload_n 3, 1) := by decide +kernel
theorem dX5_set_50 : decode cX5_set 50 = .ok (.invokevirtual 103, 3) := by decide +kernel
theorem dX5_set_53 : decode cX5_set 53 = .ok (.iload 4, 2) := by decide +kernel
theorem dX5_set_55 : decode cX5_set 55 = .ok (.ireturn, 1) := by decide +kernel
theorem dX5_lays_0 : decode cX5_lays 0 = .ok (.iload_n 1, 1) := by decide +kernel
theorem dX5_lays_1 : decode cX5_lays 1 = .ok (.iconst 3, 1) := by decide +kernel
theorem dX5_lays_2 : decode cX5_lays 2 = .ok (.if_icmp .ge 56, 3) := by decide +kernel
theorem dX5_lays_5 : decode cX5_lays 5 = .ok (.aload_n 0, 1) := by decide +kernel
theorem dX5_lays_6 : decode cX5_lays 6 = .ok (.iload_n 1, 1) := by decide +kernel
theorem dX5_lays_7 : decode cX5_lays 7 = .ok (.ifCond .ne 7, 3) := by decide +kernel
theorem dX5_lays_10 : decode cX5_lays 10 = .ok (.iload_n 3, 1) := by decide +kernel
theorem dX5_lays_11 : decode cX5_lays 11 = .ok (.goto 7, 3) := by decide +kernel
theorem dX5_lays_14 : decode cX5_lays 14 = .ok (.aload_n 0, 1) := by decide +kernel
theorem dX5_lays_15 : decode cX5_lays 15 = .ok (.getfield 107, 3) := by decide +kernel
theorem dX5_lays_18 : decode cX5_lays 18 = .ok (.putfield 107, 3) := by decide +kernel
theorem dX5_lays_21 : decode cX5_lays 21 = .ok (.aload_n 0, 1) := by decide +kernel
theorem dX5_lays_22 : decode cX5_lays 22 = .ok (.iload_n 1, 1) := by decide +kernel
theorem dX5_lays_23 : decode cX5_lays 23 = .ok (.iconst 1, 1) := by decide +kernel
theorem dX5_lays_24 : decode cX5_lays 24 = .ok (.if_icmp .ne 7, 3) := by decide +kernel
theorem dX5_lays_27 : decode cX5_lays 27 = .ok (.iload_n 3, 1) := by decide +kernel
theorem dX5_lays_28 : decode cX5_lays 28 = .ok (.goto 7, 3) := by decide +kernel
theorem dX5_lays_31 : decode cX5_lays 31 = .ok (.aload_n 0, 1) := by decide +kernel
theorem dX5_lays_32 : decode cX5_lays 32 = .ok (.getfield 23, 3) := by decide +kernel
theorem dX5_lays_35 : decode cX5_lays 35 = .ok (.putfield 23, 3) := by decide +kernel
theorem dX5_lays_38 : decode cX5_lays 38 = .ok (.aload_n 0, 1) := by decide +kernel
theorem dX5_lays_39 : decode cX5_lays 39 = .ok (.iload_n 1, 1) := by decide +kernel
theorem dX5_lays_40 : decode cX5_lays 40 = .ok (.iconst 2, 1) := by decide +kernel
theorem dX5_lays_41 : decode cX5_lays 41 = .ok (.if_icmp .ne 7, 3) := by decide +kernel
theorem dX5_lays_44 : decode cX5_lays 44 = .ok (.iload_n 3, 1) := by decide +kernel
theorem dX5_lays_45 : decode cX5_lays 45 = .ok (.goto 7, 3) := by decide +kernel
theorem dX5_lays_48 : decode cX5_lays 48 = .ok (.aload_n 0, 1) := by decide +kernel
theorem dX5_lays_49 : decode cX5_lays 49 = .ok (.getfield 110, 3) := by decide +kernel
theorem dX5_lays_52 : decode cX5_lays 52 = .ok (.putfield 110, 3) := by decide +kernel
theorem dX5_lays_55 : decode cX5_lays 55 = .ok (.goto 45, 3) := by decide +kernel
theorem dX5_lays_58 : decode cX5_lays 58 = .ok (.iload_n 1, 1) := by decide +kernel
theorem dX5_lays_59 : decode cX5_lays 59 = .ok (.iconst 3, 1) := by decide +kernel
theorem dX5_lays_60 : decode cX5_lays 60 = .ok (.if_icmp .ne 13, 3) := by decide +kernel
theorem dX5_lays_63 : decode cX5_lays 63 = .ok (.aload_n 0, 1) := by decide +kernel
theorem dX5_lays_64 : decode cX5_lays 64 = .ok (.getfield 29, 3) := by decide +kernel
theorem dX5_lays_67 : decode cX5_lays 67 = .ok (.iload_n 2, 1) := by decide +kernel
theorem dX5_lays_68 : decode cX5_lays 68 = .ok (.iload_n 3, 1) := by decide +kernel
theorem dX5_lays_69 : decode cX5_lays 69 = .ok (.iastore, 1) := by decide +kernel
theorem dX5_lays_70 : decode cX5_lays 70 = .ok (.goto 30, 3) := by decide +kernel
theorem dX5_lays_73 : decode cX5_lays 73 = .ok (.iload_n 1, 1) := by decide +kernel
theorem dX5_lays_74 : decode cX5_lays 74 = .ok (.bipush 7, 2) := by decide +kernel
theorem dX5_lays_76 : decode cX5_lays 76 = .ok (.if_icmp .ge 19, 3) := by decide +kernel
theorem dX5_lays_79 : decode cX5_lays 79 = .ok (.aload_n 0, 1) := by decide +kernel
theorem dX5_lays_80 : decode cX5_lays 80 = .ok (.getfield 32, 3) := by decide +kernel
theorem dX5_lays_83 : decode cX5_lays 83 = .ok (.iconst 4, 1) := by decide +kernel
theorem dX5_lays_84 : decode cX5_lays 84 = .ok (.iload_n 2, 1) := by decide +kernel
theorem dX5_lays_85 : decode cX5_lays 85 = .ok (.imul, 1) := by decide +kernel
theorem dX5_lays_86 : decode cX5_lays 86 = .ok (.iload_n 1, 1) := by decide +kernel
theorem dX5_lays_87 : decode cX5_lays 87 = .ok (.iadd, 1) := by decide +kernel
theorem dX5_lays_88 : decode cX5_lays 88 = .ok (.iconst 4, 1) := by decide +kernel
theorem dX5_lays_89 : decode cX5_lays 89 = .ok (.isub, 1) := by decide +kernel
theorem dX5_lays_90 : decode cX5_lays 90 = .ok (.iload_n 3, 1) := by decide +kernel
theorem dX5_lays_91 : decode cX5_lays 91 = .ok (.iastore, 1) := by decide +kernel
theorem dX5_lays_92 : decode cX5_lays 92 = .ok (.goto 8, 3) := by decide +kernel
theorem dX5_lays_95 : decode cX5_lays 95 = .ok (.aload_n 0, 1) := by decide +kernel
theorem dX5_lays_96 : decode cX5_lays 96 = .ok (.iload_n 3, 1) := by decide +kernel
theorem dX5_lays_97 : decode cX5_lays 97 = .ok (.putfield 113, 3) := by decide +kernel
theorem dX5_lays_100 : decode cX5_lays 100 = .ok (.return_, 1) := by decide +kernel
theorem dX5_wright_0 : decode cX5_wright 0 = .ok (.iload_n 1, 1) := by decide +kernel
theorem dX5_wright_1 : decode cX5_wright 1 = .ok (.i2l, 1) := by decide +kernel
theorem dX5_wright_2 : decode cX5_wright 2 = .ok (.lconst 0, 1) := by decide +kernel
theorem dX5_wright_3 : decode cX5_wright 3 = .ok (.ldc2_w 89, 3) := by decide +kernel
theorem dX5_wright_6 : decode cX5_wright 6 = .ok (.invokestatic 76, 3) := by decide +kernel
theorem dX5_wright_9 : decode cX5_wright 9 = .ok (.ifCond .eq 27, 3) := by decide +kernel
theorem dX5_wright_12 : decode cX5_wright 12 = .ok (.iload_n 2, 1) := by decide +kernel
theorem dX5_wright_13 : decode cX5_wright 13 = .ok (.i2l, 1) := by decide +kernel
theorem dX5_wright_14 : decode cX5_wright 14 = .ok (.lconst 0, 1) := by decide +kernel
theorem dX5_wright_15 : decode cX5_wright 15 = .ok (.ldc2_w 80, 3) := by decide +kernel
theorem dX5_wright_18 : decode cX5_wright 18 = .ok (.invokestatic 76, 3) := by decide +kernel
theorem dX5_wright_21 : decode cX5_wright 21 = .ok (.ifCond .eq 15, 3) := by decide +kernel
theorem dX5_wright_24 : decode cX5_wright 24 = .ok (.iload_n 3, 1) := by decide +kernel
theorem dX5_wright_25 : decode cX5_wright 25 = .ok (.i2l, 1) := by decide +kernel
theorem dX5_wright_26 : decode cX5_wright 26 = .ok (.lconst 0, 1) := by decide +kernel
theorem dX5_wright_27 : decode cX5_wright 27 = .ok (.ldc2_w 116, 3) := by decide +kernel
theorem dX5_wright_30 : decode cX5_wright 30 = .ok (.invokestatic 76, 3) := by decide +kernel
theorem dX5_wright_33 : decode cX5_wright 33 = .ok (.ifCond .ne 6, 3) := by decide +kernel
theorem dX5_wright_36 : decode cX5_wright 36 = .ok (.bipush (-2), 2) := by decide +kernel
theorem dX5_wright_38 : decode cX5_wright 38 = .ok (.ireturn, 1) := by decide +kernel
theorem dX5_wright_39 : decode cX5_wright 39 = .ok (.aload_n 0, 1) := by decide +kernel
theorem dX5_wright_40 : decode cX5_wright 40 = .ok (.getfield 73, 3) := by decide +kernel
theorem dX5_wright_43 : decode cX5_wright 43 = .ok (.iconst 5, 1) := by decide +kernel
theorem dX5_wright_44 : decode cX5_wright 44 = .ok (.if_icmp .ne 6, 3) := by decide +kernel
theorem dX5_wright_47 : decode cX5_wright 47 = .ok (.bipush (-4), 2) := by decide +kernel
theorem dX5_wright_49 : decode cX5_wright 49 = .ok (.ireturn, 1) := by decide +kernel
theorem dX5_wright_50 : decode cX5_wright 50 = .ok (.aload_n 0, 1) := by decide +kernel
theorem dX5_wright_51 : decode cX5_wright 51 = .ok (.getfield 32, 3) := by decide +kernel
theorem dX5_wright_54 : decode cX5_wright 54 = .ok (.iconst 4, 1) := by decide +kernel
theorem dX5_wright_55 : decode cX5_wright 55 = .ok (.aload_n 0, 1) := by decide +kernel
theorem dX5_wright_56 : decode cX5_wright 56 = .ok (.getfield 73, 3) := by decide +kernel
theorem dX5_wright_59 : decode cX5_wright 59 = .ok (.imul, 1) := by decide +kernel
theorem dX5_wright_60 : decode cX5_wright 60 = .ok (.iload_n 2, 1) := by decide +kernel
theorem dX5_wright_61 : decode cX5_wright 61 = .ok (.iastore, 1) := by decide +kernel
theorem dX5_wright_62 : decode cX5_wright 62 = .ok (.aload_n 0, 1) := by decide +kernel
theorem dX5_wright_63 : decode cX5_wright 63 = .ok (.getfield 32, 3) := by decide +kernel
theorem dX5_wright_66 : decode cX5_wright 66 = .ok (.iconst 4, 1) := by decide +kernel
theorem dX5_wright_67 : decode cX5_wright 67 = .ok (.aload_n 0, 1) := by decide +kernel
theorem dX5_wright_68 : decode cX5_wright 68 = .ok (.getfield 73, 3) := by decide +kernel
theorem dX5_wright_71 : decode cX5_wright 71 = .ok (.imul, 1) := by decide +kernel
theorem dX5_wright_72 : decode cX5_wright 72 = .ok (.iconst 1, 1) := by decide +kernel
theorem dX5_wright_73 : decode cX5_wright 73 = .ok (.iadd, 1) := by decide +kernel
theorem dX5_wright_74 : decode cX5_wright 74 = .ok (.iload_n 3, 1) := by decide +kernel
theorem dX5_wright_75 : decode cX5_wright 75 = .ok (.iastore, 1) := by decide +kernel
theorem dX5_wright_76 : decode cX5_wright 76 = .ok (.aload_n 0, 1) := by decide +kernel
theorem dX5_wright_77 : decode cX5_wright 77 = .ok (.getfield 32, 3) := by decide +kernel
theorem dX5_wright_80 : decode cX5_wright 80 = .ok (.iconst 4, 1) := by decide +kernel
theorem dX5_wright_81 : decode cX5_wright 81 = .ok (.aload_n 0, 1) := by decide +kernel
theorem dX5_wright_82 : decode cX5_wright 82 = .ok (.getfield 73, 3) := by decide +kernel
theorem dX5_wright_85 : decode cX5_wright 85 = .ok (.imul, 1) := by decide +kernel
theorem dX5_wright_86 : decode cX5_wright 86 = .ok (.iconst 2, 1) := by decide +kernel
theorem dX5_wright_87 : decode cX5_wright 87 = .ok (.iadd, 1) := by decide +kernel
theorem dX5_wright_88 : decode cX5_wright 88 = .ok (.iload_n 1, 1) := by decide +kernel
theorem dX5_wright_89 : decode cX5_wright 89 = .ok (.iastore, 1) := by decide +kernel
theorem dX5_wright_90 : decode cX5_wright 90 = .ok (.aload_n 0, 1) := by decide +kernel
theorem dX5_wright_91 : decode cX5_wright 91 = .ok (.getfield 32, 3) := by decide +kernel
theorem dX5_wright_94 : decode cX5_wright 94 = .ok (.iconst 4, 1) := by decide +kernel
theorem dX5_wright_95 : decode cX5_wright 95 = .ok (.aload_n 0, 1) := by decide +kernel
theorem dX5_wright_96 : decode cX5_wright 96 = .ok (.getfield 73, 3) := by decide +kernel
theorem dX5_wright_99 : decode cX5_wright 99 = .ok (.imul, 1) := by decide +kernel
theorem dX5_wright_100 : decode cX5_wright 100 = .ok (.iconst 3, 1) := by decide +kernel
theorem dX5_wright_101 : decode cX5_wright 101 = .ok (.iadd, 1) := by decide +kernel
theorem dX5_wright_102 : decode cX5_wright 102 = .ok (.iconst 0, 1) := by decide +kernel
theorem dX5_wright_103 : decode cX5_wright 103 = .ok (.iastore, 1) := by decide +kernel
theorem dX5_wright_104 : decode cX5_wright 104 = .ok (.aload_n 0, 1) := by decide +kernel
theorem dX5_wright_105 : decode cX5_wright 105 = .ok (.dup, 1) := by decide +kernel
theorem dX5_wright_106 : decode cX5_wright 106 = .ok (.getfield 73, 3) := by decide +kernel
theorem dX5_wright_109 : decode cX5_wright 109 = .ok (.iconst 1, 1) := by decide +kernel
theorem dX5_wright_110 : decode cX5_wright 110 = .ok (.iadd, 1) := by decide +kernel
theorem dX5_wright_111 : decode cX5_wright 111 = .ok (.putfield 73, 3) := by decide +kernel
theorem dX5_wright_114 : decode cX5_wright 114 = .ok (.aload_n 0, 1) := by decide +kernel
theorem dX5_wright_115 : decode cX5_wright 115 = .ok (.getfield 73, 3) := by decide +kernel
theorem dX5_wright_118 : decode cX5_wright 118 = .ok (.iconst 1, 1) := by decide +kernel
theorem dX5_wright_119 : decode cX5_wright 119 = .ok (.isub, 1) := by decide +kernel
theorem dX5_wright_120 : decode cX5_wright 120 = .ok (.ireturn, 1) := by decide +kernel
theorem dX5_told_0 : decode cX5_told 0 = .ok (.iload_n 2, 1) := by decide +kernel
theorem dX5_told_1 : decode cX5_told 1 = .ok (.i2l, 1) := by decide +kernel
theorem dX5_told_2 : decode cX5_told 2 = .ok (.lconst 0, 1) := by decide +kernel
theorem dX5_told_3 : decode cX5_told 3 = .ok (.ldc2_w 118, 3) := by decide +kernel
theorem dX5_told_6 : decode cX5_told 6 = .ok (.invokestatic 76, 3) := by decide +kernel
theorem dX5_told_9 : decode cX5_told 9 = .ok (.ifCond .eq 12, 3) := by decide +kernel
theorem dX5_told_12 : decode cX5_told 12 = .ok (.aload_n 0, 1) := by decide +kernel
theorem dX5_told_13 : decode cX5_told 13 = .ok (.iload_n 2, 1) := by decide +kernel
theorem dX5_told_14 : decode cX5_told 14 = .ok (.iload_n 1, 1) := by decide +kernel
theorem dX5_told_15 : decode cX5_told 15 = .ok (.invokevirtual 91, 3) := by decide +kernel
theorem dX5_told_18 : decode cX5_told 18 = .ok (.ifCond .ne 7, 3) := by decide +kernel
theorem dX5_told_21 : decode cX5_told 21 = .ok (.sipush (-1000), 3) := by decide +kernel
theorem dX5_told_24 : decode cX5_told 24 = .ok (.ireturn, 1) := by decide +kernel
theorem dX5_told_25 : decode cX5_told 25 = .ok (.iload_n 2, 1) := by decide +kernel
theorem dX5_told_26 : decode cX5_told 26 = .ok (.iconst 4, 1) := by decide +kernel
theorem dX5_told_27 : decode cX5_told 27 = .ok (.if_icmp .ge 45, 3) := by decide +kernel
theorem dX5_told_30 : decode cX5_told 30 = .ok (.iload_n 2, 1) := by decide +kernel
theorem dX5_told_31 : decode cX5_told 31 = .ok (.ifCond .ne 10, 3) := by decide +kernel
theorem dX5_told_34 : decode cX5_told 34 = .ok (.aload_n 0, 1) := by decide +kernel
theorem dX5_told_35 : decode cX5_told 35 = .ok (.getfield 107, 3) := by decide +kernel
theorem dX5_told_38 : decode cX5_told 38 = .ok (.goto 33, 3) := by decide +kernel
theorem dX5_told_41 : decode cX5_told 41 = .ok (.iload_n 2, 1) := by decide +kernel
theorem dX5_told_42 : decode cX5_told 42 = .ok (.iconst 1, 1) := by decide +kernel
theorem dX5_told_43 : decode cX5_told 43 = .ok (.if_icmp .ne 10, 3) := by decide +kernel
theorem dX5_told_46 : decode cX5_told 46 = .ok (.aload_n 0, 1) := by decide +kernel
theorem dX5_told_47 : decode cX5_told 47 = .ok (.getfield 23, 3) := by decide +kernel
theorem dX5_told_50 : decode cX5_told 50 = .ok (.goto 21, 3) := by decide +kernel
theorem dX5_told_53 : decode cX5_told 53 = .ok (.iload_n 2, 1) := by decide +kernel
theorem dX5_told_54 : decode cX5_told 54 = .ok (.iconst 2, 1) := by decide +kernel
theorem dX5_told_55 : decode cX5_told 55 = .ok (.if_icmp .ne 10, 3) := by decide +kernel
theorem dX5_told_58 : decode cX5_told 58 = .ok (.aload_n 0, 1) := by decide +kernel
theorem dX5_told_59 : decode cX5_told 59 = .ok (.getfield 110, 3) := by decide +kernel
theorem dX5_told_62 : decode cX5_told 62 = .ok (.goto 9, 3) := by decide +kernel
theorem dX5_told_65 : decode cX5_told 65 = .ok (.aload_n 0, 1) := by decide +kernel
theorem dX5_told_66 : decode cX5_told 66 = .ok (.getfield 29, 3) := by decide +kernel
theorem dX5_told_69 : decode cX5_told 69 = .ok (.iload_n 1, 1) := by decide +kernel
theorem dX5_told_70 : decode cX5_told 70 = .ok (.iaload, 1) := by decide +kernel
theorem dX5_told_71 : decode cX5_told 71 = .ok (.ireturn, 1) := by decide +kernel
theorem dX5_told_72 : decode cX5_told 72 = .ok (.iload_n 2, 1) := by decide +kernel
theorem dX5_told_73 : decode cX5_told 73 = .ok (.bipush 8, 2) := by decide +kernel
theorem dX5_told_75 : decode cX5_told 75 = .ok (.if_icmp .ge 16, 3) := by decide +kernel
theorem dX5_told_78 : decode cX5_told 78 = .ok (.aload_n 0, 1) := by decide +kernel
theorem dX5_told_79 : decode cX5_told 79 = .ok (.getfield 32, 3) := by decide +kernel
theorem dX5_told_82 : decode cX5_told 82 = .ok (.iconst 4, 1) := by decide +kernel
theorem dX5_told_83 : decode cX5_told 83 = .ok (.iload_n 1, 1) := by decide +kernel
theorem dX5_told_84 : decode cX5_told 84 = .ok (.imul, 1) := by decide +kernel
theorem dX5_told_85 : decode cX5_told 85 = .ok (.iload_n 2, 1) := by decide +kernel
theorem dX5_told_86 : decode cX5_told 86 = .ok (.iadd, 1) := by decide +kernel
theorem dX5_told_87 : decode cX5_told 87 = .ok (.iconst 4, 1) := by decide +kernel
theorem dX5_told_88 : decode cX5_told 88 = .ok (.isub, 1) := by decide +kernel
theorem dX5_told_89 : decode cX5_told 89 = .ok (.iaload, 1) := by decide +kernel
theorem dX5_told_90 : decode cX5_told 90 = .ok (.ireturn, 1) := by decide +kernel
theorem dX5_told_91 : decode cX5_told 91 = .ok (.iload_n 2, 1) := by decide +kernel
theorem dX5_told_92 : decode cX5_told 92 = .ok (.bipush 8, 2) := by decide +kernel
theorem dX5_told_94 : decode cX5_told 94 = .ok (.if_icmp .ne 11, 3) := by decide +kernel
theorem dX5_told_97 : decode cX5_told 97 = .ok (.aload_n 0, 1) := by decide +kernel
theorem dX5_told_98 : decode cX5_told 98 = .ok (.iload_n 1, 1) := by decide +kernel
theorem dX5_told_99 : decode cX5_told 99 = .ok (.invokevirtual 120, 3) := by decide +kernel
theorem dX5_told_102 : decode cX5_told 102 = .ok (.goto 37, 3) := by decide +kernel
theorem dX5_told_105 : decode cX5_told 105 = .ok (.iload_n 2, 1) := by decide +kernel
theorem dX5_told_106 : decode cX5_told 106 = .ok (.bipush 9, 2) := by decide +kernel
theorem dX5_told_108 : decode cX5_told 108 = .ok (.if_icmp .ne 11, 3) := by decide +kernel
theorem dX5_told_111 : decode cX5_told 111 = .ok (.aload_n 0, 1) := by decide +kernel
theorem dX5_told_112 : decode cX5_told 112 = .ok (.iload_n 1, 1) := by decide +kernel
theorem dX5_told_113 : decode cX5_told 113 = .ok (.invokevirtual 123, 3) := by decide +kernel
theorem dX5_told_116 : decode cX5_told 116 = .ok (.goto 23, 3) := by decide +kernel
theorem dX5_told_119 : decode cX5_told 119 = .ok (.iload_n 2, 1) := by decide +kernel
theorem dX5_told_120 : decode cX5_told 120 = .ok (.bipush 10, 2) := by decide +kernel
theorem dX5_told_122 : decode cX5_told 122 = .ok (.if_icmp .ne 12, 3) := by decide +kernel
theorem dX5_told_125 : decode cX5_told 125 = .ok (.aload_n 0, 1) := by decide +kernel
theorem dX5_told_126 : decode cX5_told 126 = .ok (.getfield 26, 3) := by decide +kernel
theorem dX5_told_129 : decode cX5_told 129 = .ok (.iload_n 1, 1) := by decide +kernel
theorem dX5_told_130 : decode cX5_told 130 = .ok (.iaload, 1) := by decide +kernel
theorem dX5_told_131 : decode cX5_told 131 = .ok (.goto 8, 3) := by decide +kernel
theorem dX5_told_134 : decode cX5_told 134 = .ok (.aload_n 0, 1) := by decide +kernel
theorem dX5_told_135 : decode cX5_told 135 = .ok (.iload_n 1, 1) := by decide +kernel
theorem dX5_told_136 : decode cX5_told 136 = .ok (.invokevirtual 126, 3) := by decide +kernel
theorem dX5_told_139 : decode cX5_told 139 = .ok (.ireturn, 1) := by decide +kernel
theorem dX5_madeBy_0 : decode cX5_madeBy 0 = .ok (.iconst 0, 1) := by decide +kernel
theorem dX5_madeBy_1 : decode cX5_madeBy 1 = .ok (.istore_n 2, 1) := by decide +kernel
theorem dX5_madeBy_2 : decode cX5_madeBy 2 = .ok (.iconst 0, 1) := by decide +kernel
theorem dX5_madeBy_3 : decode cX5_madeBy 3 = .ok (.istore_n 3, 1) := by decide +kernel
theorem dX5_madeBy_4 : decode cX5_madeBy 4 = .ok (.iload_n 3, 1) := by decide +kernel
theorem dX5_madeBy_5 : decode cX5_madeBy 5 = .ok (.bipush 10, 2) := by decide +kernel
theorem dX5_madeBy_7 : decode cX5_madeBy 7 = .ok (.if_icmp .ge 29, 3) := by decide +kernel
theorem dX5_madeBy_10 : decode cX5_madeBy 10 = .ok (.iload_n 2, 1) := by decide +kernel
theorem dX5_madeBy_11 : decode cX5_madeBy 11 = .ok (.aload_n 0, 1) := by decide +kernel
theorem dX5_madeBy_12 : decode cX5_madeBy 12 = .ok (.getfield 26, 3) := by decide +kernel
theorem dX5_madeBy_15 : decode cX5_madeBy 15 = .ok (.iload_n 3, 1) := by decide +kernel
theorem dX5_madeBy_16 : decode cX5_madeBy 16 = .ok (.iaload, 1) := by decide +kernel
theorem dX5_madeBy_17 : decode cX5_madeBy 17 = .ok (.iload_n 1, 1) := by decide +kernel
theorem dX5_madeBy_18 : decode cX5_madeBy 18 = .ok (.if_icmp .ne 7, 3) := by decide +kernel
theorem dX5_madeBy_21 : decode cX5_madeBy 21 = .ok (.iconst 1, 1) := by decide +kernel
theorem dX5_madeBy_22 : decode cX5_madeBy 22 = .ok (.goto 4, 3) := by decide +kernel
theorem dX5_madeBy_25 : decode cX5_madeBy 25 = .ok (.iconst 0, 1) := by decide +kernel
theorem dX5_madeBy_26 : decode cX5_madeBy 26 = .ok (.iload_n 3, 1) := by decide +kernel
theorem dX5_madeBy_27 : decode cX5_madeBy 27 = .ok (.ishl, 1) := by decide +kernel
theorem dX5_madeBy_28 : decode cX5_madeBy 28 = .ok (.ior, 1) := by decide +kernel
theorem dX5_madeBy_29 : decode cX5_madeBy 29 = .ok (.istore_n 2, 1) := by decide +kernel
theorem dX5_madeBy_30 : decode cX5_madeBy 30 = .ok (.iinc 3 1, 3) := by decide +kernel
theorem dX5_madeBy_33 : decode cX5_madeBy 33 = .ok (.goto (-29), 3) := by decide +kernel
theorem dX5_madeBy_36 : decode cX5_madeBy 36 = .ok (.iload_n 2, 1) := by decide +kernel
theorem dX5_madeBy_37 : decode cX5_madeBy 37 = .ok (.ireturn, 1) := by decide +kernel
theorem dX5_bitsOf_0 : decode cX5_bitsOf 0 = .ok (.iconst 0, 1) := by decide +kernel
theorem dX5_bitsOf_1 : decode cX5_bitsOf 1 = .ok (.istore_n 1, 1) := by decide +kernel
theorem dX5_bitsOf_2 : decode cX5_bitsOf 2 = .ok (.iload_n 0, 1) := by decide +kernel
theorem dX5_bitsOf_3 : decode cX5_bitsOf 3 = .ok (.istore_n 2, 1) := by decide +kernel
theorem dX5_bitsOf_4 : decode cX5_bitsOf 4 = .ok (.iload_n 2, 1) := by decide +kernel
theorem dX5_bitsOf_5 : decode cX5_bitsOf 5 = .ok (.ifCond .eq 15, 3) := by decide +kernel
theorem dX5_bitsOf_8 : decode cX5_bitsOf 8 = .ok (.iinc 1 1, 3) := by decide +kernel
theorem dX5_bitsOf_11 : decode cX5_bitsOf 11 = .ok (.iload_n 2, 1) := by decide +kernel
theorem dX5_bitsOf_12 : decode cX5_bitsOf 12 = .ok (.iload_n 2, 1) := by decide +kernel
theorem dX5_bitsOf_13 : decode cX5_bitsOf 13 = .ok (.iconst 1, 1) := by decide +kernel
theorem dX5_bitsOf_14 : decode cX5_bitsOf 14 = .ok (.isub, 1) := by decide +kernel
theorem dX5_bitsOf_15 : decode cX5_bitsOf 15 = .ok (.iand, 1) := by decide +kernel
theorem dX5_bitsOf_16 : decode cX5_bitsOf 16 = .ok (.istore_n 2, 1) := by decide +kernel
theorem dX5_bitsOf_17 : decode cX5_bitsOf 17 = .ok (.goto (-13), 3) := by decide +kernel
theorem dX5_bitsOf_20 : decode cX5_bitsOf 20 = .ok (.iload_n 1, 1) := by decide +kernel
theorem dX5_bitsOf_21 : decode cX5_bitsOf 21 = .ok (.ireturn, 1) := by decide +kernel
theorem dX5_isAt_0 : decode cX5_isAt 0 = .ok (.aload_n 0, 1) := by decide +kernel
theorem dX5_isAt_1 : decode cX5_isAt 1 = .ok (.getfield 32, 3) := by decide +kernel
theorem dX5_isAt_4 : decode cX5_isAt 4 = .ok (.iconst 4, 1) := by decide +kernel
theorem dX5_isAt_5 : decode cX5_isAt 5 = .ok (.iload_n 1, 1) := by decide +kernel
theorem dX5_isAt_6 : decode cX5_isAt 6 = .ok (.imul, 1) := by decide +kernel
theorem dX5_isAt_7 : decode cX5_isAt 7 = .ok (.iconst 3, 1) := by decide +kernel
theorem dX5_isAt_8 : decode cX5_isAt 8 = .ok (.iadd, 1) := by decide +kernel
theorem dX5_isAt_9 : decode cX5_isAt 9 = .ok (.iaload, 1) := by decide +kernel
theorem dX5_isAt_10 : decode cX5_isAt 10 = .ok (.iload_n 2, 1) := by decide +kernel
theorem dX5_isAt_11 : decode cX5_isAt 11 = .ok (.if_icmp .ne 7, 3) := by decide +kernel
theorem dX5_isAt_14 : decode cX5_isAt 14 = .ok (.iconst 1, 1) := by decide +kernel
theorem dX5_isAt_15 : decode cX5_isAt 15 = .ok (.goto 4, 3) := by decide +kernel
theorem dX5_isAt_18 : decode cX5_isAt 18 = .ok (.iconst 0, 1) := by decide +kernel
theorem dX5_isAt_19 : decode cX5_isAt 19 = .ok (.ireturn, 1) := by decide +kernel
theorem dX5_whoIs_0 : decode cX5_whoIs 0 = .ok (.iconst 0, 1) := by decide +kernel
theorem dX5_whoIs_1 : decode cX5_whoIs 1 = .ok (.istore_n 2, 1) := by decide +kernel
theorem dX5_whoIs_2 : decode cX5_whoIs 2 = .ok (.iconst 0, 1) := by decide +kernel
theorem dX5_whoIs_3 : decode cX5_whoIs 3 = .ok (.istore_n 3, 1) := by decide +kernel
theorem dX5_whoIs_4 : decode cX5_whoIs 4 = .ok (.iload_n 3, 1) := by decide +kernel
theorem dX5_whoIs_5 : decode cX5_whoIs 5 = .ok (.aload_n 0, 1) := by decide +kernel
theorem dX5_whoIs_6 : decode cX5_whoIs 6 = .ok (.getfield 73, 3) := by decide +kernel
theorem dX5_whoIs_9 : decode cX5_whoIs 9 = .ok (.if_icmp .ge 28, 3) := by decide +kernel
theorem dX5_whoIs_12 : decode cX5_whoIs 12 = .ok (.iload_n 2, 1) := by decide +kernel
theorem dX5_whoIs_13 : decode cX5_whoIs 13 = .ok (.aload_n 0, 1) := by decide +kernel
theorem dX5_whoIs_14 : decode cX5_whoIs 14 = .ok (.iload_n 3, 1) := by decide +kernel
theorem dX5_whoIs_15 : decode cX5_whoIs 15 = .ok (.iload_n 1, 1) := by decide +kernel
theorem dX5_whoIs_16 : decode cX5_whoIs 16 = .ok (.invokevirtual 129, 3) := by decide +kernel
theorem dX5_whoIs_19 : decode cX5_whoIs 19 = .ok (.ifCond .eq 7, 3) := by decide +kernel
theorem dX5_whoIs_22 : decode cX5_whoIs 22 = .ok (.iconst 1, 1) := by decide +kernel
theorem dX5_whoIs_23 : decode cX5_whoIs 23 = .ok (.goto 4, 3) := by decide +kernel
theorem dX5_whoIs_26 : decode cX5_whoIs 26 = .ok (.iconst 0, 1) := by decide +kernel
theorem dX5_whoIs_27 : decode cX5_whoIs 27 = .ok (.iload_n 3, 1) := by decide +kernel
theorem dX5_whoIs_28 : decode cX5_whoIs 28 = .ok (.ishl, 1) := by decide +kernel
theorem dX5_whoIs_29 : decode cX5_whoIs 29 = .ok (.ior, 1) := by decide +kernel
theorem dX5_whoIs_30 : decode cX5_whoIs 30 = .ok (.istore_n 2, 1) := by decide +kernel
theorem dX5_whoIs_31 : decode cX5_whoIs 31 = .ok (.iinc 3 1, 3) := by decide +kernel
theorem dX5_whoIs_34 : decode cX5_whoIs 34 = .ok (.goto (-30), 3) := by decide +kernel
theorem dX5_whoIs_37 : decode cX5_whoIs 37 = .ok (.iload_n 2, 1) := by decide +kernel
theorem dX5_whoIs_38 : decode cX5_whoIs 38 = .ok (.ireturn, 1) := by decide +kernel
theorem dX5_feed_0 : decode cX5_feed 0 = .ok (.iload_n 1, 1) := by decide +kernel
theorem dX5_feed_1 : decode cX5_feed 1 = .ok (.i2l, 1) := by decide +kernel
theorem dX5_feed_2 : decode cX5_feed 2 = .ok (.lconst 0, 1) := by decide +kernel
theorem dX5_feed_3 : decode cX5_feed 3 = .ok (.ldc2_w 132, 3) := by decide +kernel
theorem dX5_feed_6 : decode cX5_feed 6 = .ok (.invokestatic 76, 3) := by decide +kernel
theorem dX5_feed_9 : decode cX5_feed 9 = .ok (.ifCond .ne 6, 3) := by decide +kernel
theorem dX5_feed_12 : decode cX5_feed 12 = .ok (.bipush (-2), 2) := by decide +kernel
theorem dX5_feed_14 : decode cX5_feed 14 = .ok (.ireturn, 1) := by decide +kernel
theorem dX5_feed_15 : decode cX5_feed 15 = .ok (.aload_n 0, 1) := by decide +kernel
theorem dX5_feed_16 : decode cX5_feed 16 = .ok (.getfield 134, 3) := by decide +kernel
theorem dX5_feed_19 : decode cX5_feed 19 = .ok (.sipush 160, 3) := by decide +kernel
theorem dX5_feed_22 : decode cX5_feed 22 = .ok (.if_icmp .ne 6, 3) := by decide +kernel
theorem dX5_feed_25 : decode cX5_feed 25 = .ok (.bipush (-4), 2) := by decide +kernel
theorem dX5_feed_27 : decode cX5_feed 27 = .ok (.ireturn, 1) := by decide +kernel
theorem dX5_feed_28 : decode cX5_feed 28 = .ok (.aload_n 0, 1) := by decide +kernel
theorem dX5_feed_29 : decode cX5_feed 29 = .ok (.getfield 20, 3) := by decide +kernel
theorem dX5_feed_32 : decode cX5_feed 32 = .ok (.aload_n 0, 1) := by decide +kernel
theorem dX5_feed_33 : decode cX5_feed 33 = .ok (.getfield 134, 3) := by decide +kernel
theorem dX5_feed_36 : decode cX5_feed 36 = .ok (.iload_n 1, 1) := by decide +kernel
theorem dX5_feed_37 : decode cX5_feed 37 = .ok (.iastore, 1) := by decide +kernel
theorem dX5_feed_38 : decode cX5_feed 38 = .ok (.aload_n 0, 1) := by decide +kernel
theorem dX5_feed_39 : decode cX5_feed 39 = .ok (.dup, 1) := by decide +kernel
theorem dX5_feed_40 : decode cX5_feed 40 = .ok (.getfield 134, 3) := by decide +kernel
theorem dX5_feed_43 : decode cX5_feed 43 = .ok (.iconst 1, 1) := by decide +kernel
theorem dX5_feed_44 : decode cX5_feed 44 = .ok (.iadd, 1) := by decide +kernel
theorem dX5_feed_45 : decode cX5_feed 45 = .ok (.putfield 134, 3) := by decide +kernel
theorem dX5_feed_48 : decode cX5_feed 48 = .ok (.aload_n 0, 1) := by decide +kernel
theorem dX5_feed_49 : decode cX5_feed 49 = .ok (.getfield 134, 3) := by decide +kernel
theorem dX5_feed_52 : decode cX5_feed 52 = .ok (.ireturn, 1) := by decide +kernel
theorem dX5_byteAt_0 : decode cX5_byteAt 0 = .ok (.iload_n 1, 1) := by decide +kernel
theorem dX5_byteAt_1 : decode cX5_byteAt 1 = .ok (.aload_n 0, 1) := by decide +kernel
theorem dX5_byteAt_2 : decode cX5_byteAt 2 = .ok (.getfield 137, 3) := by decide +kernel
theorem dX5_byteAt_5 : decode cX5_byteAt 5 = .ok (.if_icmp .ge 17, 3) := by decide +kernel
theorem dX5_byteAt_8 : decode cX5_byteAt 8 = .ok (.aload_n 0, 1) := by decide +kernel
theorem dX5_byteAt_9 : decode cX5_byteAt 9 = .ok (.getfield 13, 3) := by decide +kernel
theorem dX5_byteAt_12 : decode cX5_byteAt 12 = .ok (.aload_n 0, 1) := by decide +kernel
theorem dX5_byteAt_13 : decode cX5_byteAt 13 = .ok (.getfield 140, 3) := by decide +kernel
theorem dX5_byteAt_16 : decode cX5_byteAt 16 = .ok (.iload_n 1, 1) := by decide +kernel
theorem dX5_byteAt_17 : decode cX5_byteAt 17 = .ok (.iadd, 1) := by decide +kernel
theorem dX5_byteAt_18 : decode cX5_byteAt 18 = .ok (.iaload, 1) := by decide +kernel
theorem dX5_byteAt_19 : decode cX5_byteAt 19 = .ok (.goto 4, 3) := by decide +kernel
theorem dX5_byteAt_22 : decode cX5_byteAt 22 = .ok (.iconst (-1), 1) := by decide +kernel
theorem dX5_byteAt_23 : decode cX5_byteAt 23 = .ok (.ireturn, 1) := by decide +kernel
theorem dX5_next_0 : decode cX5_next 0 = .ok (.aload_n 0, 1) := by decide +kernel
theorem dX5_next_1 : decode cX5_next 1 = .ok (.aload_n 0, 1) := by decide +kernel
theorem dX5_next_2 : decode cX5_next 2 = .ok (.getfield 143, 3) := by decide +kernel
theorem dX5_next_5 : decode cX5_next 5 = .ok (.invokevirtual 146, 3) := by decide +kernel
theorem dX5_next_8 : decode cX5_next 8 = .ok (.bipush 32, 2) := by decide +kernel
theorem dX5_next_10 : decode cX5_next 10 = .ok (.if_icmp .eq 16, 3) := by decide +kernel
theorem dX5_next_13 : decode cX5_next 13 = .ok (.aload_n 0, 1) := by decide +kernel
theorem dX5_next_14 : decode cX5_next 14 = .ok (.aload_n 0, 1) := by decide +kernel
theorem dX5_next_15 : decode cX5_next 15 = .ok (.getfield 143, 3) := by decide +kernel
theorem dX5_next_18 : decode cX5_next 18 = .ok (.invokevirtual 146, 3) := by decide +kernel
theorem dX5_next_21 : decode cX5_next 21 = .ok (.bipush 10, 2) := by decide +kernel
theorem dX5_next_23 : decode cX5_next 23 = .ok (.if_icmp .ne 16, 3) := by decide +kernel
theorem dX5_next_26 : decode cX5_next 26 = .ok (.aload_n 0, 1) := by decide +kernel
theorem dX5_next_27 : decode cX5_next 27 = .ok (.dup, 1) := by decide +kernel
theorem dX5_next_28 : decode cX5_next 28 = .ok (.getfield 143, 3) := by decide +kernel
theorem dX5_next_31 : decode cX5_next 31 = .ok (.iconst 1, 1) := by decide +kernel
theorem dX5_next_32 : decode cX5_next 32 = .ok (.iadd, 1) := by decide +kernel
theorem dX5_next_33 : decode cX5_next 33 = .ok (.putfield 143, 3) := by decide +kernel
theorem dX5_next_36 : decode cX5_next 36 = .ok (.goto (-36), 3) := by decide +kernel
theorem dX5_next_39 : decode cX5_next 39 = .ok (.aload_n 0, 1) := by decide +kernel
theorem dX5_next_40 : decode cX5_next 40 = .ok (.aload_n 0, 1) := by decide +kernel
theorem dX5_next_41 : decode cX5_next 41 = .ok (.getfield 143, 3) := by decide +kernel
theorem dX5_next_44 : decode cX5_next 44 = .ok (.putfield 149, 3) := by decide +kernel
theorem dX5_next_47 : decode cX5_next 47 = .ok (.aload_n 0, 1) := by decide +kernel
theorem dX5_next_48 : decode cX5_next 48 = .ok (.aload_n 0, 1) := by decide +kernel
theorem dX5_next_49 : decode cX5_next 49 = .ok (.getfield 143, 3) := by decide +kernel
theorem dX5_next_52 : decode cX5_next 52 = .ok (.invokevirtual 146, 3) := by decide +kernel
theorem dX5_next_55 : decode cX5_next 55 = .ok (.istore_n 1, 1) := by decide +kernel
theorem dX5_next_56 : decode cX5_next 56 = .ok (.aload_n 0, 1) := by decide +kernel
theorem dX5_next_57 : decode cX5_next 57 = .ok (.iconst 4, 1) := by decide +kernel
theorem dX5_next_58 : decode cX5_next 58 = .ok (.putfield 152, 3) := by decide +kernel
theorem dX5_next_61 : decode cX5_next 61 = .ok (.iload_n 1, 1) := by decide +kernel
theorem dX5_next_62 : decode cX5_next 62 = .ok (.ifCond .ge 19, 3) := by decide +kernel
theorem dX5_next_65 : decode cX5_next 65 = .ok (.aload_n 0, 1) := by decide +kernel
theorem dX5_next_66 : decode cX5_next 66 = .ok (.iconst 0, 1) := by decide +kernel
theorem dX5_next_67 : decode cX5_next 67 = .ok (.putfield 152, 3) := by decide +kernel
theorem dX5_next_70 : decode cX5_next 70 = .ok (.aload_n 0, 1) := by decide +kernel
theorem dX5_next_71 : decode cX5_next 71 = .ok (.aload_n 0, 1) := by decide +kernel
theorem dX5_next_72 : decode cX5_next 72 = .ok (.getfield 137, 3) := by decide +kernel
theorem dX5_next_75 : decode cX5_next 75 = .ok (.putfield 149, 3) := by decide +kernel
theorem dX5_next_78 : decode cX5_next 78 = .ok (.goto 243, 3) := by decide +kernel
theorem dX5_next_81 : decode cX5_next 81 = .ok (.iload_n 1, 1) := by decide +kernel
theorem dX5_next_82 : decode cX5_next 82 = .ok (.i2l, 1) := by decide +kernel
theorem dX5_next_83 : decode cX5_next 83 = .ok (.ldc2_w 155, 3) := by decide +kernel
theorem dX5_next_86 : decode cX5_next 86 = .ok (.ldc2_w 157, 3) := by decide +kernel
theorem dX5_next_89 : decode cX5_next 89 = .ok (.invokestatic 76, 3) := by decide +kernel
theorem dX5_next_92 : decode cX5_next 92 = .ok (.ifCond .eq 42, 3) := by decide +kernel
theorem dX5_next_95 : decode cX5_next 95 = .ok (.aload_n 0, 1) := by decide +kernel
theorem dX5_next_96 : decode cX5_next 96 = .ok (.iconst 1, 1) := by decide +kernel
theorem dX5_next_97 : decode cX5_next 97 = .ok (.putfield 152, 3) := by decide +kernel
theorem dX5_next_100 : decode cX5_next 100 = .ok (.aload_n 0, 1) := by decide +kernel
theorem dX5_next_101 : decode cX5_next 101 = .ok (.aload_n 0, 1) := by decide +kernel
theorem dX5_next_102 : decode cX5_next 102 = .ok (.getfield 143, 3) := by decide +kernel
theorem dX5_next_105 : decode cX5_next 105 = .ok (.invokevirtual 146, 3) := by decide +kernel
theorem dX5_next_108 : decode cX5_next 108 = .ok (.i2l, 1) := by decide +kernel
theorem dX5_next_109 : decode cX5_next 109 = .ok (.ldc2_w 155, 3) := by decide +kernel
theorem dX5_next_112 : decode cX5_next 112 = .ok (.ldc2_w 157, 3) := by decide +kernel
theorem dX5_next_115 : decode cX5_next 115 = .ok (.invokestatic 76, 3) := by decide +kernel
theorem dX5_next_118 : decode cX5_next 118 = .ok (.ifCond .eq 203, 3) := by decide +kernel
theorem dX5_next_121 : decode cX5_next 121 = .ok (.aload_n 0, 1) := by decide +kernel
theorem dX5_next_122 : decode cX5_next 122 = .ok (.dup, 1) := by decide +kernel
theorem dX5_next_123 : decode cX5_next 123 = .ok (.getfield 143, 3) := by decide +kernel
theorem dX5_next_126 : decode cX5_next 126 = .ok (.iconst 1, 1) := by decide +kernel
theorem dX5_next_127 : decode cX5_next 127 = .ok (.iadd, 1) := by decide +kernel
theorem dX5_next_128 : decode cX5_next 128 = .ok (.putfield 143, 3) := by decide +kernel
theorem dX5_next_131 : decode cX5_next 131 = .ok (.goto (-31), 3) := by decide +kernel
theorem dX5_next_134 : decode cX5_next 134 = .ok (.iload_n 1, 1) := by decide +kernel
theorem dX5_next_135 : decode cX5_next 135 = .ok (.i2l, 1) := by decide +kernel
theorem dX5_next_136 : decode cX5_next 136 = .ok (.ldc2_w 159, 3) := by decide +kernel
theorem dX5_next_139 : decode cX5_next 139 = .ok (.ldc2_w 161, 3) := by decide +kernel
theorem dX5_next_142 : decode cX5_next 142 = .ok (.invokestatic 76, 3) := by decide +kernel
theorem dX5_next_145 : decode cX5_next 145 = .ok (.ifCond .eq 107, 3) := by decide +kernel
theorem dX5_next_148 : decode cX5_next 148 = .ok (.aload_n 0, 1) := by decide +kernel
theorem dX5_next_149 : decode cX5_next 149 = .ok (.iconst 2, 1) := by decide +kernel
theorem dX5_next_150 : decode cX5_next 150 = .ok (.putfield 152, 3) := by decide +kernel
theorem dX5_next_153 : decode cX5_next 153 = .ok (.aload_n 0, 1) := by decide +kernel
theorem dX5_next_154 : decode cX5_next 154 = .ok (.lconst 0, 1) := by decide +kernel
theorem dX5_next_155 : decode cX5_next 155 = .ok (.putfield 163, 3) := by decide +kernel
theorem dX5_next_158 : decode cX5_next 158 = .ok (.iconst 0, 1) := by decide +kernel
theorem dX5_next_159 : decode cX5_next 159 = .ok (.istore_n 2, 1) := by decide +kernel
theorem dX5_next_160 : decode cX5_next 160 = .ok (.aload_n 0, 1) := by decide +kernel
theorem dX5_next_161 : decode cX5_next 161 = .ok (.aload_n 0, 1) := by decide +kernel
theorem dX5_next_162 : decode cX5_next 162 = .ok (.getfield 143, 3) := by decide +kernel
theorem dX5_next_165 : decode cX5_next 165 = .ok (.invokevirtual 146, 3) := by decide +kernel
theorem dX5_next_168 : decode cX5_next 168 = .ok (.i2l, 1) := by decide +kernel
theorem dX5_next_169 : decode cX5_next 169 = .ok (.ldc2_w 159, 3) := by decide +kernel
theorem dX5_next_172 : decode cX5_next 172 = .ok (.ldc2_w 161, 3) := by decide +kernel
theorem dX5_next_175 : decode cX5_next 175 = .ok (.invokestatic 76, 3) := by decide +kernel
theorem dX5_next_178 : decode cX5_next 178 = .ok (.ifCond .eq 57, 3) := by decide +kernel
theorem dX5_next_181 : decode cX5_next 181 = .ok (.aload_n 0, 1) := by decide +kernel
theorem dX5_next_182 : decode cX5_next 182 = .ok (.iload_n 2, 1) := by decide +kernel
theorem dX5_next_183 : decode cX5_next 183 = .ok (.iconst 4, 1) := by decide +kernel
theorem dX5_next_184 : decode cX5_next 184 = .ok (.if_icmp .ge 28, 3) := by decide +kernel
theorem dX5_next_187 : decode cX5_next 187 = .ok (.ldc2_w 167, 3) := by decide +kernel
theorem dX5_next_190 : decode cX5_next 190 = .ok (.aload_n 0, 1) := by decide +kernel
theorem dX5_next_191 : decode cX5_next 191 = .ok (.getfield 163, 3) := by decide +kernel
theorem dX5_next_194 : decode cX5_next 194 = .ok (.lmul, 1) := by decide +kernel
theorem dX5_next_195 : decode cX5_next 195 = .ok (.aload_n 0, 1) := by decide +kernel
theorem dX5_next_196 : decode cX5_next 196 = .ok (.aload_n 0, 1) := by decide +kernel
theorem dX5_next_197 : decode cX5_next 197 = .ok (.getfield 143, 3) := by decide +kernel
theorem dX5_next_200 : decode cX5_next 200 = .ok (.invokevirtual 146, 3) := by decide +kernel
theorem dX5_next_203 : decode cX5_next 203 = .ok (.i2l, 1) := by decide +kernel
theorem dX5_next_204 : decode cX5_next 204 = .ok (.ladd, 1) := by decide +kernel
theorem dX5_next_205 : decode cX5_next 205 = .ok (.ldc2_w 159, 3) := by decide +kernel
theorem dX5_next_208 : decode cX5_next 208 = .ok (.lsub, 1) := by decide +kernel
theorem dX5_next_209 : decode cX5_next 209 = .ok (.goto 7, 3) := by decide +kernel
theorem dX5_next_212 : decode cX5_next 212 = .ok (.aload_n 0, 1) := by decide +kernel
theorem dX5_next_213 : decode cX5_next 213 = .ok (.getfield 163, 3) := by decide +kernel
theorem dX5_next_216 : decode cX5_next 216 = .ok (.putfield 163, 3) := by decide +kernel
theorem dX5_next_219 : decode cX5_next 219 = .ok (.iinc 2 1, 3) := by decide +kernel
theorem dX5_next_222 : decode cX5_next 222 = .ok (.aload_n 0, 1) := by decide +kernel
theorem dX5_next_223 : decode cX5_next 223 = .ok (.dup, 1) := by decide +kernel
theorem dX5_next_224 : decode cX5_next 224 = .ok (.getfield 143, 3) := by decide +kernel
theorem dX5_next_227 : decode cX5_next 227 = .ok (.iconst 1, 1) := by decide +kernel
theorem dX5_next_228 : decode cX5_next 228 = .ok (.iadd, 1) := by decide +kernel
theorem dX5_next_229 : decode cX5_next 229 = .ok (.putfield 143, 3) := by decide +kernel
theorem dX5_next_232 : decode cX5_next 232 = .ok (.goto (-72), 3) := by decide +kernel
theorem dX5_next_235 : decode cX5_next 235 = .ok (.aload_n 0, 1) := by decide +kernel
theorem dX5_next_236 : decode cX5_next 236 = .ok (.iload_n 2, 1) := by decide +kernel
theorem dX5_next_237 : decode cX5_next 237 = .ok (.iconst 4, 1) := by decide +kernel
theorem dX5_next_238 : decode cX5_next 238 = .ok (.if_icmp .le 7, 3) := by decide +kernel
theorem dX5_next_241 : decode cX5_next 241 = .ok (.iconst 4, 1) := by decide +kernel
theorem dX5_next_242 : decode cX5_next 242 = .ok (.goto 4, 3) := by decide +kernel
theorem dX5_next_245 : decode cX5_next 245 = .ok (.iconst 2, 1) := by decide +kernel
theorem dX5_next_246 : decode cX5_next 246 = .ok (.putfield 152, 3) := by decide +kernel
theorem dX5_next_249 : decode cX5_next 249 = .ok (.goto 72, 3) := by decide +kernel
theorem dX5_next_252 : decode cX5_next 252 = .ok (.iload_n 1, 1) := by decide +kernel
theorem dX5_next_253 : decode cX5_next 253 = .ok (.bipush 40, 2) := by decide +kernel
theorem dX5_next_255 : decode cX5_next 255 = .ok (.if_icmp .eq 45, 3) := by decide +kernel
theorem dX5_next_258 : decode cX5_next 258 = .ok (.iload_n 1, 1) := by decide +kernel
theorem dX5_next_259 : decode cX5_next 259 = .ok (.bipush 41, 2) := by decide +kernel
theorem dX5_next_261 : decode cX5_next 261 = .ok (.if_icmp .eq 39, 3) := by decide +kernel
theorem dX5_next_264 : decode cX5_next 264 = .ok (.iload_n 1, 1) := by decide +kernel
theorem dX5_next_265 : decode cX5_next 265 = .ok (.bipush 59, 2) := by decide +kernel
theorem dX5_next_267 : decode cX5_next 267 = .ok (.if_icmp .eq 33, 3) := by decide +kernel
theorem dX5_next_270 : decode cX5_next 270 = .ok (.iload_n 1, 1) := by decide +kernel
theorem dX5_next_271 : decode cX5_next 271 = .ok (.bipush 43, 2) := by decide +kernel
theorem dX5_next_273 : decode cX5_next 273 = .ok (.if_icmp .eq 27, 3) := by decide +kernel
theorem dX5_next_276 : decode cX5_next 276 = .ok (.iload_n 1, 1) := by decide +kernel
theorem dX5_next_277 : decode cX5_next 277 = .ok (.bipush 45, 2) := by decide +kernel
theorem dX5_next_279 : decode cX5_next 279 = .ok (.if_icmp .eq 21, 3) := by decide +kernel
theorem dX5_next_282 : decode cX5_next 282 = .ok (.iload_n 1, 1) := by decide +kernel
theorem dX5_next_283 : decode cX5_next 283 = .ok (.bipush 42, 2) := by decide +kernel
theorem dX5_next_285 : decode cX5_next 285 = .ok (.if_icmp .eq 15, 3) := by decide +kernel
theorem dX5_next_288 : decode cX5_next 288 = .ok (.iload_n 1, 1) := by decide +kernel
theorem dX5_next_289 : decode cX5_next 289 = .ok (.bipush 60, 2) := by decide +kernel
theorem dX5_next_291 : decode cX5_next 291 = .ok (.if_icmp .eq 9, 3) := by decide +kernel
theorem dX5_next_294 : decode cX5_next 294 = .ok (.iload_n 1, 1) := by decide +kernel
theorem dX5_next_295 : decode cX5_next 295 = .ok (.bipush 61, 2) := by decide +kernel
theorem dX5_next_297 : decode cX5_next 297 = .ok (.if_icmp .ne 24, 3) := by decide +kernel
theorem dX5_next_300 : decode cX5_next 300 = .ok (.aload_n 0, 1) := by decide +kernel
theorem dX5_next_301 : decode cX5_next 301 = .ok (.iconst 3, 1) := by decide +kernel
theorem dX5_next_302 : decode cX5_next 302 = .ok (.putfield 152, 3) := by decide +kernel
theorem dX5_next_305 : decode cX5_next 305 = .ok (.aload_n 0, 1) := by decide +kernel
theorem dX5_next_306 : decode cX5_next 306 = .ok (.iload_n 1, 1) := by decide +kernel
theorem dX5_next_307 : decode cX5_next 307 = .ok (.i2l, 1) := by decide +kernel
theorem dX5_next_308 : decode cX5_next 308 = .ok (.putfield 163, 3) := by decide +kernel
theorem dX5_next_311 : decode cX5_next 311 = .ok (.aload_n 0, 1) := by decide +kernel
theorem dX5_next_312 : decode cX5_next 312 = .ok (.dup, 1) := by decide +kernel
theorem dX5_next_313 : decode cX5_next 313 = .ok (.getfield 143, 3) := by decide +kernel
theorem dX5_next_316 : decode cX5_next 316 = .ok (.iconst 1, 1) := by decide +kernel
theorem dX5_next_317 : decode cX5_next 317 = .ok (.iadd, 1) := by decide +kernel
theorem dX5_next_318 : decode cX5_next 318 = .ok (.putfield 143, 3) := by decide +kernel
theorem dX5_next_321 : decode cX5_next 321 = .ok (.return_, 1) := by decide +kernel
theorem dX5_fail_0 : decode cX5_fail 0 = .ok (.aload_n 0, 1) := by decide +kernel
theorem dX5_fail_1 : decode cX5_fail 1 = .ok (.getfield 169, 3) := by decide +kernel
theorem dX5_fail_4 : decode cX5_fail 4 = .ok (.ifCond .ne 16, 3) := by decide +kernel
theorem dX5_fail_7 : decode cX5_fail 7 = .ok (.aload_n 0, 1) := by decide +kernel
theorem dX5_fail_8 : decode cX5_fail 8 = .ok (.iconst 1, 1) := by decide +kernel
theorem dX5_fail_9 : decode cX5_fail 9 = .ok (.putfield 169, 3) := by decide +kernel
theorem dX5_fail_12 : decode cX5_fail 12 = .ok (.aload_n 0, 1) := by decide +kernel
theorem dX5_fail_13 : decode cX5_fail 13 = .ok (.aload_n 0, 1) := by decide +kernel
theorem dX5_fail_14 : decode cX5_fail 14 = .ok (.getfield 149, 3) := by decide +kernel
theorem dX5_fail_17 : decode cX5_fail 17 = .ok (.putfield 173, 3) := by decide +kernel
theorem dX5_fail_20 : decode cX5_fail 20 = .ok (.return_, 1) := by decide +kernel
theorem dX5_isLetter_0 : decode cX5_isLetter 0 = .ok (.aload_n 0, 1) := by decide +kernel
theorem dX5_isLetter_1 : decode cX5_isLetter 1 = .ok (.getfield 149, 3) := by decide +kernel
theorem dX5_isLetter_4 : decode cX5_isLetter 4 = .ok (.iload_n 1, 1) := by decide +kernel
theorem dX5_isLetter_5 : decode cX5_isLetter 5 = .ok (.iadd, 1) := by decide +kernel
theorem dX5_isLetter_6 : decode cX5_isLetter 6 = .ok (.aload_n 0, 1) := by decide +kernel
theorem dX5_isLetter_7 : decode cX5_isLetter 7 = .ok (.getfield 143, 3) := by decide +kernel
theorem dX5_isLetter_10 : decode cX5_isLetter 10 = .ok (.if_icmp .ge 25, 3) := by decide +kernel
theorem dX5_isLetter_13 : decode cX5_isLetter 13 = .ok (.aload_n 0, 1) := by decide +kernel
theorem dX5_isLetter_14 : decode cX5_isLetter 14 = .ok (.aload_n 0, 1) := by decide +kernel
theorem dX5_isLetter_15 : decode cX5_isLetter 15 = .ok (.getfield 149, 3) := by decide +kernel
theorem dX5_isLetter_18 : decode cX5_isLetter 18 = .ok (.iload_n 1, 1) := by decide +kernel
theorem dX5_isLetter_19 : decode cX5_isLetter 19 = .ok (.iadd, 1) := by decide +kernel
theorem dX5_isLetter_20 : decode cX5_isLetter 20 = .ok (.invokevirtual 146, 3) := by decide +kernel
theorem dX5_isLetter_23 : decode cX5_isLetter 23 = .ok (.iload_n 2, 1) := by decide +kernel
theorem dX5_isLetter_24 : decode cX5_isLetter 24 = .ok (.if_icmp .ne 7, 3) := by decide +kernel
theorem dX5_isLetter_27 : decode cX5_isLetter 27 = .ok (.iconst 1, 1) := by decide +kernel
theorem dX5_isLetter_28 : decode cX5_isLetter 28 = .ok (.goto 16, 3) := by decide +kernel
theorem dX5_isLetter_31 : decode cX5_isLetter 31 = .ok (.iconst 0, 1) := by decide +kernel
theorem dX5_isLetter_32 : decode cX5_isLetter 32 = .ok (.goto 12, 3) := by decide +kernel
theorem dX5_isLetter_35 : decode cX5_isLetter 35 = .ok (.iload_n 2, 1) := by decide +kernel
theorem dX5_isLetter_36 : decode cX5_isLetter 36 = .ok (.ifCond .ne 7, 3) := by decide +kernel
theorem dX5_isLetter_39 : decode cX5_isLetter 39 = .ok (.iconst 1, 1) := by decide +kernel
theorem dX5_isLetter_40 : decode cX5_isLetter 40 = .ok (.goto 4, 3) := by decide +kernel
theorem dX5_isLetter_43 : decode cX5_isLetter 43 = .ok (.iconst 0, 1) := by decide +kernel
theorem dX5_isLetter_44 : decode cX5_isLetter 44 = .ok (.ireturn, 1) := by decide +kernel
theorem dX5_isWord_0 : decode cX5_isWord 0 = .ok (.aload_n 0, 1) := by decide +kernel
theorem dX5_isWord_1 : decode cX5_isWord 1 = .ok (.getfield 169, 3) := by decide +kernel
theorem dX5_isWord_4 : decode cX5_isWord 4 = .ok (.ifCond .ne 108, 3) := by decide +kernel
theorem dX5_isWord_7 : decode cX5_isWord 7 = .ok (.aload_n 0, 1) := by decide +kernel
theorem dX5_isWord_8 : decode cX5_isWord 8 = .ok (.getfield 152, 3) := by decide +kernel
theorem dX5_isWord_11 : decode cX5_isWord 11 = .ok (.iconst 1, 1) := by decide +kernel
theorem dX5_isWord_12 : decode cX5_isWord 12 = .ok (.if_icmp .ne 100, 3) := by decide +kernel
theorem dX5_isWord_15 : decode cX5_isWord 15 = .ok (.aload_n 0, 1) := by decide +kernel
theorem dX5_isWord_16 : decode cX5_isWord 16 = .ok (.getfield 143, 3) := by decide +kernel
theorem dX5_isWord_19 : decode cX5_isWord 19 = .ok (.aload_n 0, 1) := by decide +kernel
theorem dX5_isWord_20 : decode cX5_isWord 20 = .ok (.getfield 149, 3) := by decide +kernel
theorem dX5_isWord_23 : decode cX5_isWord 23 = .ok (.bipush 8, 2) := by decide +kernel
theorem dX5_isWord_25 : decode cX5_isWord 25 = .ok (.iadd, 1) := by decide +kernel
theorem dX5_isWord_26 : decode cX5_isWord 26 = .ok (.if_icmp .gt 86, 3) := by decide +kernel
theorem dX5_isWord_29 : decode cX5_isWord 29 = .ok (.aload_n 0, 1) := by decide +kernel
theorem dX5_isWord_30 : decode cX5_isWord 30 = .ok (.iconst 0, 1) := by decide +kernel
theorem dX5_isWord_31 : decode cX5_isWord 31 = .ok (.iload_n 1, 1) := by decide +kernel
theorem dX5_isWord_32 : decode cX5_isWord 32 = .ok (.invokevirtual 176, 3) := by decide +kernel
theorem dX5_isWord_35 : decode cX5_isWord 35 = .ok (.ifCond .eq 77, 3) := by decide +kernel
theorem dX5_isWord_38 : decode cX5_isWord 38 = .ok (.aload_n 0, 1) := by decide +kernel
theorem dX5_isWord_39 : decode cX5_isWord 39 = .ok (.iconst 1, 1) := by decide +kernel
theorem dX5_isWord_40 : decode cX5_isWord 40 = .ok (.iload_n 2, 1) := by decide +kernel
theorem dX5_isWord_41 : decode cX5_isWord 41 = .ok (.invokevirtual 176, 3) := by decide +kernel
theorem dX5_isWord_44 : decode cX5_isWord 44 = .ok (.ifCond .eq 68, 3) := by decide +kernel
theorem dX5_isWord_47 : decode cX5_isWord 47 = .ok (.aload_n 0, 1) := by decide +kernel
theorem dX5_isWord_48 : decode cX5_isWord 48 = .ok (.iconst 2, 1) := by decide +kernel
theorem dX5_isWord_49 : decode cX5_isWord 49 = .ok (.iload_n 3, 1) := by decide +kernel
theorem dX5_isWord_50 : decode cX5_isWord 50 = .ok (.invokevirtual 176, 3) := by decide +kernel
theorem dX5_isWord_53 : decode cX5_isWord 53 = .ok (.ifCond .eq 59, 3) := by decide +kernel
theorem dX5_isWord_56 : decode cX5_isWord 56 = .ok (.aload_n 0, 1) := by decide +kernel
theorem dX5_isWord_57 : decode cX5_isWord 57 = .ok (.iconst 3, 1) := by decide +kernel
theorem dX5_isWord_58 : decode cX5_isWord 58 = .ok (.iload 4, 2) := by decide +kernel
theorem dX5_isWord_60 : decode cX5_isWord 60 = .ok (.invokevirtual 176, 3) := by decide +kernel
theorem dX5_isWord_63 : decode cX5_isWord 63 = .ok (.ifCond .eq 49, 3) := by decide +kernel
theorem dX5_isWord_66 : decode cX5_isWord 66 = .ok (.aload_n 0, 1) := by decide +kernel
theorem dX5_isWord_67 : decode cX5_isWord 67 = .ok (.iconst 4, 1) := by decide +kernel
theorem dX5_isWord_68 : decode cX5_isWord 68 = .ok (.iload 5, 2) := by decide +kernel
theorem dX5_isWord_70 : decode cX5_isWord 70 = .ok (.invokevirtual 176, 3) := by decide +kernel
theorem dX5_isWord_73 : decode cX5_isWord 73 = .ok (.ifCond .eq 39, 3) := by decide +kernel
theorem dX5_isWord_76 : decode cX5_isWord 76 = .ok (.aload_n 0, 1) := by decide +kernel
theorem dX5_isWord_77 : decode cX5_isWord 77 = .ok (.iconst 5, 1) := by decide +kernel
theorem dX5_isWord_78 : decode cX5_isWord 78 = .ok (.iload 6, 2) := by decide +kernel
theorem dX5_isWord_80 : decode cX5_isWord 80 = .ok (.invokevirtual 176, 3) := by decide +kernel
theorem dX5_isWord_83 : decode cX5_isWord 83 = .ok (.ifCond .eq 29, 3) := by decide +kernel
theorem dX5_isWord_86 : decode cX5_isWord 86 = .ok (.aload_n 0, 1) := by decide +kernel
theorem dX5_isWord_87 : decode cX5_isWord 87 = .ok (.bipush 6, 2) := by decide +kernel
theorem dX5_isWord_89 : decode cX5_isWord 89 = .ok (.iload 7, 2) := by decide +kernel
theorem dX5_isWord_91 : decode cX5_isWord 91 = .ok (.invokevirtual 176, 3) := by decide +kernel
theorem dX5_isWord_94 : decode cX5_isWord 94 = .ok (.ifCond .eq 18, 3) := by decide +kernel
theorem dX5_isWord_97 : decode cX5_isWord 97 = .ok (.aload_n 0, 1) := by decide +kernel
theorem dX5_isWord_98 : decode cX5_isWord 98 = .ok (.bipush 7, 2) := by decide +kernel
theorem dX5_isWord_100 : decode cX5_isWord 100 = .ok (.iload 8, 2) := by decide +kernel
theorem dX5_isWord_102 : decode cX5_isWord 102 = .ok (.invokevirtual 176, 3) := by decide +kernel
theorem dX5_isWord_105 : decode cX5_isWord 105 = .ok (.ifCond .eq 7, 3) := by decide +kernel
theorem dX5_isWord_108 : decode cX5_isWord 108 = .ok (.iconst 1, 1) := by decide +kernel
theorem dX5_isWord_109 : decode cX5_isWord 109 = .ok (.goto 4, 3) := by decide +kernel
theorem dX5_isWord_112 : decode cX5_isWord 112 = .ok (.iconst 0, 1) := by decide +kernel
theorem dX5_isWord_113 : decode cX5_isWord 113 = .ok (.ireturn, 1) := by decide +kernel
theorem dX5_isSign_0 : decode cX5_isSign 0 = .ok (.aload_n 0, 1) := by decide +kernel
theorem dX5_isSign_1 : decode cX5_isSign 1 = .ok (.getfield 169, 3) := by decide +kernel
theorem dX5_isSign_4 : decode cX5_isSign 4 = .ok (.ifCond .ne 25, 3) := by decide +kernel
theorem dX5_isSign_7 : decode cX5_isSign 7 = .ok (.aload_n 0, 1) := by decide +kernel
theorem dX5_isSign_8 : decode cX5_isSign 8 = .ok (.getfield 152, 3) := by decide +kernel
theorem dX5_isSign_11 : decode cX5_isSign 11 = .ok (.iconst 3, 1) := by decide +kernel
theorem dX5_isSign_12 : decode cX5_isSign 12 = .ok (.if_icmp .ne 17, 3) := by decide +kernel
theorem dX5_isSign_15 : decode cX5_isSign 15 = .ok (.aload_n 0, 1) := by decide +kernel
theorem dX5_isSign_16 : decode cX5_isSign 16 = .ok (.getfield 163, 3) := by decide +kernel
theorem dX5_isSign_19 : decode cX5_isSign 19 = .ok (.iload_n 1, 1) := by decide +kernel
theorem dX5_isSign_20 : decode cX5_isSign 20 = .ok (.i2l, 1) := by decide +kernel
theorem dX5_isSign_21 : decode cX5_isSign 21 = .ok (.lcmp, 1) := by decide +kernel
theorem dX5_isSign_22 : decode cX5_isSign 22 = .ok (.ifCond .ne 7, 3) := by decide +kernel
theorem dX5_isSign_25 : decode cX5_isSign 25 = .ok (.iconst 1, 1) := by decide +kernel
theorem dX5_isSign_26 : decode cX5_isSign 26 = .ok (.goto 4, 3) := by decide +kernel
theorem dX5_isSign_29 : decode cX5_isSign 29 = .ok (.iconst 0, 1) := by decide +kernel
theorem dX5_isSign_30 : decode cX5_isSign 30 = .ok (.ireturn, 1) := by decide +kernel
theorem dX5_opens_0 : decode cX5_opens 0 = .ok (.aload_n 0, 1) := by decide +kernel
theorem dX5_opens_1 : decode cX5_opens 1 = .ok (.getfield 179, 3) := by decide +kernel
theorem dX5_opens_4 : decode cX5_opens 4 = .ok (.iconst 5, 1) := by decide +kernel
theorem dX5_opens_5 : decode cX5_opens 5 = .ok (.if_icmp .ne 9, 3) := by decide +kernel
theorem dX5_opens_8 : decode cX5_opens 8 = .ok (.aload_n 0, 1) := by decide +kernel
theorem dX5_opens_9 : decode cX5_opens 9 = .ok (.invokevirtual 182, 3) := by decide +kernel
theorem dX5_opens_12 : decode cX5_opens 12 = .ok (.iconst 0, 1) := by decide +kernel
theorem dX5_opens_13 : decode cX5_opens 13 = .ok (.ireturn, 1) := by decide +kernel
theorem dX5_opens_14 : decode cX5_opens 14 = .ok (.aload_n 0, 1) := by decide +kernel
theorem dX5_opens_15 : decode cX5_opens 15 = .ok (.dup, 1) := by decide +kernel
theorem dX5_opens_16 : decode cX5_opens 16 = .ok (.getfield 179, 3) := by decide +kernel
theorem dX5_opens_19 : decode cX5_opens 19 = .ok (.iconst 1, 1) := by decide +kernel
theorem dX5_opens_20 : decode cX5_opens 20 = .ok (.iadd, 1) := by decide +kernel
theorem dX5_opens_21 : decode cX5_opens 21 = .ok (.putfield 179, 3) := by decide +kernel
theorem dX5_opens_24 : decode cX5_opens 24 = .ok (.aload_n 0, 1) := by decide +kernel
theorem dX5_opens_25 : decode cX5_opens 25 = .ok (.invokevirtual 185, 3) := by decide +kernel
theorem dX5_opens_28 : decode cX5_opens 28 = .ok (.iconst 1, 1) := by decide +kernel
theorem dX5_opens_29 : decode cX5_opens 29 = .ok (.ireturn, 1) := by decide +kernel
theorem dX5_name_0 : decode cX5_name 0 = .ok (.aload_n 0, 1) := by decide +kernel
theorem dX5_name_1 : decode cX5_name 1 = .ok (.bipush 115, 2) := by decide +kernel
theorem dX5_name_3 : decode cX5_name 3 = .ok (.bipush 107, 2) := by decide +kernel
theorem dX5_name_5 : decode cX5_name 5 = .ok (.bipush 105, 2) := by decide +kernel
theorem dX5_name_7 : decode cX5_name 7 = .ok (.bipush 108, 2) := by decide +kernel
theorem dX5_name_9 : decode cX5_name 9 = .ok (.bipush 108, 2) := by decide +kernel
theorem dX5_name_11 : decode cX5_name 11 = .ok (.iconst 0, 1) := by decide +kernel
theorem dX5_name_12 : decode cX5_name 12 = .ok (.iconst 0, 1) := by decide +kernel
theorem dX5_name_13 : decode cX5_name 13 = .ok (.iconst 0, 1) := by decide +kernel
theorem dX5_name_14 : decode cX5_name 14 = .ok (.invokevirtual 188, 3) := by decide +kernel
theorem dX5_name_17 : decode cX5_name 17 = .ok (.ifCond .eq 8, 3) := by decide +kernel
theorem dX5_name_20 : decode cX5_name 20 = .ok (.aload_n 0, 1) := by decide +kernel
theorem dX5_name_21 : decode cX5_name 21 = .ok (.getfield 192, 3) := by decide +kernel
theorem dX5_name_24 : decode cX5_name 24 = .ok (.ireturn, 1) := by decide +kernel
theorem dX5_name_25 : decode cX5_name 25 = .ok (.aload_n 0, 1) := by decide +kernel
theorem dX5_name_26 : decode cX5_name 26 = .ok (.bipush 115, 2) := by decide +kernel
theorem dX5_name_28 : decode cX5_name 28 = .ok (.bipush 111, 2) := by decide +kernel
theorem dX5_name_30 : decode cX5_name 30 = .ok (.bipush 117, 2) := by decide +kernel
theorem dX5_name_32 : decode cX5_name 32 = .ok (.bipush 110, 2) := by decide +kernel
theorem dX5_name_34 : decode cX5_name 34 = .ok (.bipush 100, 2) := by decide +kernel
theorem dX5_name_36 : decode cX5_name 36 = .ok (.iconst 0, 1) := by decide +kernel
theorem dX5_name_37 : decode cX5_name 37 = .ok (.iconst 0, 1) := by decide +kernel
theorem dX5_name_38 : decode cX5_name 38 = .ok (.iconst 0, 1) := by decide +kernel
theorem dX5_name_39 : decode cX5_name 39 = .ok (.invokevirtual 188, 3) := by decide +kernel
theorem dX5_name_42 : decode cX5_name 42 = .ok (.ifCond .eq 8, 3) := by decide +kernel
theorem dX5_name_45 : decode cX5_name 45 = .ok (.aload_n 0, 1) := by decide +kernel
theorem dX5_name_46 : decode cX5_name 46 = .ok (.getfield 195, 3) := by decide +kernel
theorem dX5_name_49 : decode cX5_name 49 = .ok (.ireturn, 1) := by decide +kernel
theorem dX5_name_50 : decode cX5_name 50 = .ok (.aload_n 0, 1) := by decide +kernel
theorem dX5_name_51 : decode cX5_name 51 = .ok (.bipush 110, 2) := by decide +kernel
theorem dX5_name_53 : decode cX5_name 53 = .ok (.bipush 117, 2) := by decide +kernel
theorem dX5_name_55 : decode cX5_name 55 = .ok (.bipush 109, 2) := by decide +kernel
theorem dX5_name_57 : decode cX5_name 57 = .ok (.bipush 98, 2) := by decide +kernel
theorem dX5_name_59 : decode cX5_name 59 = .ok (.bipush 101, 2) := by decide +kernel
theorem dX5_name_61 : decode cX5_name 61 = .ok (.bipush 114, 2) := by decide +kernel
theorem dX5_name_63 : decode cX5_name 63 = .ok (.iconst 0, 1) := by decide +kernel
theorem dX5_name_64 : decode cX5_name 64 = .ok (.iconst 0, 1) := by decide +kernel
theorem dX5_name_65 : decode cX5_name 65 = .ok (.invokevirtual 188, 3) := by decide +kernel
theorem dX5_name_68 : decode cX5_name 68 = .ok (.ifCond .eq 8, 3) := by decide +kernel
theorem dX5_name_71 : decode cX5_name 71 = .ok (.aload_n 0, 1) := by decide +kernel
theorem dX5_name_72 : decode cX5_name 72 = .ok (.getfield 198, 3) := by decide +kernel
theorem dX5_name_75 : decode cX5_name 75 = .ok (.ireturn, 1) := by decide +kernel
theorem dX5_name_76 : decode cX5_name 76 = .ok (.aload_n 0, 1) := by decide +kernel
theorem dX5_name_77 : decode cX5_name 77 = .ok (.bipush 100, 2) := by decide +kernel
theorem dX5_name_79 : decode cX5_name 79 = .ok (.bipush 97, 2) := by decide +kernel
theorem dX5_name_81 : decode cX5_name 81 = .ok (.bipush 121, 2) := by decide +kernel
theorem dX5_name_83 : decode cX5_name 83 = .ok (.iconst 0, 1) := by decide +kernel
theorem dX5_name_84 : decode cX5_name 84 = .ok (.iconst 0, 1) := by decide +kernel
theorem dX5_name_85 : decode cX5_name 85 = .ok (.iconst 0, 1) := by decide +kernel
theorem dX5_name_86 : decode cX5_name 86 = .ok (.iconst 0, 1) := by decide +kernel
theorem dX5_name_87 : decode cX5_name 87 = .ok (.iconst 0, 1) := by decide +kernel
theorem dX5_name_88 : decode cX5_name 88 = .ok (.invokevirtual 188, 3) := by decide +kernel
theorem dX5_name_91 : decode cX5_name 91 = .ok (.ifCond .eq 8, 3) := by decide +kernel
theorem dX5_name_94 : decode cX5_name 94 = .ok (.aload_n 0, 1) := by decide +kernel
theorem dX5_name_95 : decode cX5_name 95 = .ok (.getfield 201, 3) := by decide +kernel
theorem dX5_name_98 : decode cX5_name 98 = .ok (.ireturn, 1) := by decide +kernel
theorem dX5_name_99 : decode cX5_name 99 = .ok (.aload_n 0, 1) := by decide +kernel
theorem dX5_name_100 : decode cX5_name 100 = .ok (.bipush 119, 2) := by decide +kernel
theorem dX5_name_102 : decode cX5_name 102 = .ok (.bipush 97, 2) := by decide +kernel
theorem dX5_name_104 : decode cX5_name 104 = .ok (.bipush 116, 2) := by decide +kernel
theorem dX5_name_106 : decode cX5_name 106 = .ok (.bipush 101, 2) := by decide +kernel
theorem dX5_name_108 : decode cX5_name 108 = .ok (.bipush 114, 2) := by decide +kernel
theorem dX5_name_110 : decode cX5_name 110 = .ok (.iconst 0, 1) := by decide +kernel
theorem dX5_name_111 : decode cX5_name 111 = .ok (.iconst 0, 1) := by decide +kernel
theorem dX5_name_112 : decode cX5_name 112 = .ok (.iconst 0, 1) := by decide +kernel
theorem dX5_name_113 : decode cX5_name 113 = .ok (.invokevirtual 188, 3) := by decide +kernel
theorem dX5_name_116 : decode cX5_name 116 = .ok (.ifCond .eq 8, 3) := by decide +kernel
theorem dX5_name_119 : decode cX5_name 119 = .ok (.aload_n 0, 1) := by decide +kernel
theorem dX5_name_120 : decode cX5_name 120 = .ok (.getfield 204, 3) := by decide +kernel
theorem dX5_name_123 : decode cX5_name 123 = .ok (.ireturn, 1) := by decide +kernel
theorem dX5_name_124 : decode cX5_name 124 = .ok (.aload_n 0, 1) := by decide +kernel
theorem dX5_name_125 : decode cX5_name 125 = .ok (.bipush 112, 2) := by decide +kernel
theorem dX5_name_127 : decode cX5_name 127 = .ok (.bipush 97, 2) := by decide +kernel
theorem dX5_name_129 : decode cX5_name 129 = .ok (.bipush 114, 2) := by decide +kernel
theorem dX5_name_131 : decode cX5_name 131 = .ok (.bipush 116, 2) := by decide +kernel
theorem dX5_name_133 : decode cX5_name 133 = .ok (.iconst 0, 1) := by decide +kernel
theorem dX5_name_134 : decode cX5_name 134 = .ok (.iconst 0, 1) := by decide +kernel
theorem dX5_name_135 : decode cX5_name 135 = .ok (.iconst 0, 1) := by decide +kernel
theorem dX5_name_136 : decode cX5_name 136 = .ok (.iconst 0, 1) := by decide +kernel
theorem dX5_name_137 : decode cX5_name 137 = .ok (.invokevirtual 188, 3) := by decide +kernel
theorem dX5_name_140 : decode cX5_name 140 = .ok (.ifCond .eq 8, 3) := by decide +kernel
theorem dX5_name_143 : decode cX5_name 143 = .ok (.aload_n 0, 1) := by decide +kernel
theorem dX5_name_144 : decode cX5_name 144 = .ok (.getfield 207, 3) := by decide +kernel
theorem dX5_name_147 : decode cX5_name 147 = .ok (.ireturn, 1) := by decide +kernel
theorem dX5_name_148 : decode cX5_name 148 = .ok (.aload_n 0, 1) := by decide +kernel
theorem dX5_name_149 : decode cX5_name 149 = .ok (.invokevirtual 182, 3) := by decide +kernel
theorem dX5_name_152 : decode cX5_name 152 = .ok (.iconst 0, 1) := by decide +kernel
theorem dX5_name_153 : decode cX5_name 153 = .ok (.ireturn, 1) := by decide +kernel
theorem dX5_atom_0 : decode cX5_atom 0 = .ok (.iconst 0, 1) := by decide +kernel
theorem dX5_atom_1 : decode cX5_atom 1 = .ok (.istore_n 1, 1) := by decide +kernel
theorem dX5_atom_2 : decode cX5_atom 2 = .ok (.aload_n 0, 1) := by decide +kernel
theorem dX5_atom_3 : decode cX5_atom 3 = .ok (.bipush 45, 2) := by decide +kernel
theorem dX5_atom_5 : decode cX5_atom 5 = .ok (.invokevirtual 210, 3) := by decide +kernel
theorem dX5_atom_8 : decode cX5_atom 8 = .ok (.ifCond .eq 29, 3) := by decide +kernel
theorem dX5_atom_11 : decode cX5_atom 11 = .ok (.aload_n 0, 1) := by decide +kernel
theorem dX5_atom_12 : decode cX5_atom 12 = .ok (.invokevirtual 213, 3) := by decide +kernel
theorem dX5_atom_15 : decode cX5_atom 15 = .ok (.ifCond .eq 146, 3) := by decide +kernel
theorem dX5_atom_18 : decode cX5_atom 18 = .ok (.aload_n 0, 1) := by decide +kernel
theorem dX5_atom_19 : decode cX5_atom 19 = .ok (.invokevirtual 217, 3) := by decide +kernel
theorem dX5_atom_22 : decode cX5_atom 22 = .ok (.ineg, 1) := by decide +kernel
theorem dX5_atom_23 : decode cX5_atom 23 = .ok (.istore_n 1, 1) := by decide +kernel
theorem dX5_atom_24 : decode cX5_atom 24 = .ok (.aload_n 0, 1) := by decide +kernel
theorem dX5_atom_25 : decode cX5_atom 25 = .ok (.dup, 1) := by decide +kernel
theorem dX5_atom_26 : decode cX5_atom 26 = .ok (.getfield 179, 3) := by decide +kernel
theorem dX5_atom_29 : decode cX5_atom 29 = .ok (.iconst 1, 1) := by decide +kernel
theorem dX5_atom_30 : decode cX5_atom 30 = .ok (.isub, 1) := by decide +kernel
theorem dX5_atom_31 : decode cX5_atom 31 = .ok (.putfield 179, 3) := by decide +kernel
theorem dX5_atom_34 : decode cX5_atom 34 = .ok (.goto 127, 3) := by decide +kernel
theorem dX5_atom_37 : decode cX5_atom 37 = .ok (.aload_n 0, 1) := by decide +kernel
theorem dX5_atom_38 : decode cX5_atom 38 = .ok (.bipush 40, 2) := by decide +kernel
theorem dX5_atom_40 : decode cX5_atom 40 = .ok (.invokevirtual 210, 3) := by decide +kernel
theorem dX5_atom_43 : decode cX5_atom 43 = .ok (.ifCond .eq 52, 3) := by decide +kernel
theorem dX5_atom_46 : decode cX5_atom 46 = .ok (.aload_n 0, 1) := by decide +kernel
theorem dX5_atom_47 : decode cX5_atom 47 = .ok (.invokevirtual 213, 3) := by decide +kernel
theorem dX5_atom_50 : decode cX5_atom 50 = .ok (.ifCond .eq 111, 3) := by decide +kernel
theorem dX5_atom_53 : decode cX5_atom 53 = .ok (.aload_n 0, 1) := by decide +kernel
theorem dX5_atom_54 : decode cX5_atom 54 = .ok (.invokevirtual 221, 3) := by decide +kernel
theorem dX5_atom_57 : decode cX5_atom 57 = .ok (.istore_n 1, 1) := by decide +kernel
theorem dX5_atom_58 : decode cX5_atom 58 = .ok (.aload_n 0, 1) := by decide +kernel
theorem dX5_atom_59 : decode cX5_atom 59 = .ok (.bipush 41, 2) := by decide +kernel
theorem dX5_atom_61 : decode cX5_atom 61 = .ok (.invokevirtual 210, 3) := by decide +kernel
theorem dX5_atom_64 : decode cX5_atom 64 = .ok (.ifCond .ne 7, 3) := by decide +kernel
theorem dX5_atom_67 : decode cX5_atom 67 = .ok (.aload_n 0, 1) := by decide +kernel
theorem dX5_atom_68 : decode cX5_atom 68 = .ok (.invokevirtual 182, 3) := by decide +kernel
theorem dX5_atom_71 : decode cX5_atom 71 = .ok (.aload_n 0, 1) := by decide +kernel
theorem dX5_atom_72 : decode cX5_atom 72 = .ok (.dup, 1) := by decide +kernel
theorem dX5_atom_73 : decode cX5_atom 73 = .ok (.getfield 179, 3) := by decide +kernel
theorem dX5_atom_76 : decode cX5_atom 76 = .ok (.iconst 1, 1) := by decide +kernel
theorem dX5_atom_77 : decode cX5_atom 77 = .ok (.isub, 1) := by decide +kernel
theorem dX5_atom_78 : decode cX5_atom 78 = .ok (.putfield 179, 3) := by decide +kernel
theorem dX5_atom_81 : decode cX5_atom 81 = .ok (.aload_n 0, 1) := by decide +kernel
theorem dX5_atom_82 : decode cX5_atom 82 = .ok (.getfield 169, 3) := by decide +kernel
theorem dX5_atom_85 : decode cX5_atom 85 = .ok (.ifCond .ne 76, 3) := by decide +kernel
theorem dX5_atom_88 : decode cX5_atom 88 = .ok (.aload_n 0, 1) := by decide +kernel
theorem dX5_atom_89 : decode cX5_atom 89 = .ok (.invokevirtual 185, 3) := by decide +kernel
theorem dX5_atom_92 : decode cX5_atom 92 = .ok (.goto 69, 3) := by decide +kernel
theorem dX5_atom_95 : decode cX5_atom 95 = .ok (.aload_n 0, 1) := by decide +kernel
theorem dX5_atom_96 : decode cX5_atom 96 = .ok (.getfield 169, 3) := by decide +kernel
theorem dX5_atom_99 : decode cX5_atom 99 = .ok (.ifCond .ne 24, 3) := by decide +kernel
theorem dX5_atom_102 : decode cX5_atom 102 = .ok (.aload_n 0, 1) := by decide +kernel
theorem dX5_atom_103 : decode cX5_atom 103 = .ok (.getfield 152, 3) := by decide +kernel
theorem dX5_atom_106 : decode cX5_atom 106 = .ok (.iconst 2, 1) := by decide +kernel
theorem dX5_atom_107 : decode cX5_atom 107 = .ok (.if_icmp .ne 16, 3) := by decide +kernel
theorem dX5_atom_110 : decode cX5_atom 110 = .ok (.aload_n 0, 1) := by decide +kernel
theorem dX5_atom_111 : decode cX5_atom 111 = .ok (.getfield 163, 3) := by decide +kernel
theorem dX5_atom_114 : decode cX5_atom 114 = .ok (.l2i, 1) := by decide +kernel
theorem dX5_atom_115 : decode cX5_atom 115 = .ok (.istore_n 1, 1) := by decide +kernel
theorem dX5_atom_116 : decode cX5_atom 116 = .ok (.aload_n 0, 1) := by decide +kernel
theorem dX5_atom_117 : decode cX5_atom 117 = .ok (.invokevirtual 185, 3) := by decide +kernel
theorem dX5_atom_120 : decode cX5_atom 120 = .ok (.goto 41, 3) := by decide +kernel
theorem dX5_atom_123 : decode cX5_atom 123 = .ok (.aload_n 0, 1) := by decide +kernel
theorem dX5_atom_124 : decode cX5_atom 124 = .ok (.getfield 169, 3) := by decide +kernel
theorem dX5_atom_127 : decode cX5_atom 127 = .ok (.ifCond .ne 30, 3) := by decide +kernel
theorem dX5_atom_130 : decode cX5_atom 130 = .ok (.aload_n 0, 1) := by decide +kernel
theorem dX5_atom_131 : decode cX5_atom 131 = .ok (.getfield 152, 3) := by decide +kernel
theorem dX5_atom_134 : decode cX5_atom 134 = .ok (.iconst 1, 1) := by decide +kernel
theorem dX5_atom_135 : decode cX5_atom 135 = .ok (.if_icmp .ne 22, 3) := by decide +kernel
theorem dX5_atom_138 : decode cX5_atom 138 = .ok (.aload_n 0, 1) := by decide +kernel
theorem dX5_atom_139 : decode cX5_atom 139 = .ok (.invokevirtual 224, 3) := by decide +kernel
theorem dX5_atom_142 : decode cX5_atom 142 = .ok (.istore_n 1, 1) := by decide +kernel
theorem dX5_atom_143 : decode cX5_atom 143 = .ok (.aload_n 0, 1) := by decide +kernel
theorem dX5_atom_144 : decode cX5_atom 144 = .ok (.getfield 169, 3) := by decide +kernel
theorem dX5_atom_147 : decode cX5_atom 147 = .ok (.ifCond .ne 14, 3) := by decide +kernel
theorem dX5_atom_150 : decode cX5_atom 150 = .ok (.aload_n 0, 1) := by decide +kernel
theorem dX5_atom_151 : decode cX5_atom 151 = .ok (.invokevirtual 185, 3) := by decide +kernel
theorem dX5_atom_154 : decode cX5_atom 154 = .ok (.goto 7, 3) := by decide +kernel
theorem dX5_atom_157 : decode cX5_atom 157 = .ok (.aload_n 0, 1) := by decide +kernel
theorem dX5_atom_158 : decode cX5_atom 158 = .ok (.invokevirtual 182, 3) := by decide +kernel
theorem dX5_atom_161 : decode cX5_atom 161 = .ok (.iload_n 1, 1) := by decide +kernel
theorem dX5_atom_162 : decode cX5_atom 162 = .ok (.ireturn, 1) := by decide +kernel
theorem dX5_term_0 : decode cX5_term 0 = .ok (.aload_n 0, 1) := by decide +kernel
theorem dX5_term_1 : decode cX5_term 1 = .ok (.invokevirtual 217, 3) := by decide +kernel
theorem dX5_term_4 : decode cX5_term 4 = .ok (.istore_n 1, 1) := by decide +kernel
theorem dX5_term_5 : decode cX5_term 5 = .ok (.aload_n 0, 1) := by decide +kernel
theorem dX5_term_6 : decode cX5_term 6 = .ok (.bipush 42, 2) := by decide +kernel
theorem dX5_term_8 : decode cX5_term 8 = .ok (.invokevirtual 210, 3) := by decide +kernel
theorem dX5_term_11 : decode cX5_term 11 = .ok (.ifCond .eq 17, 3) := by decide +kernel
theorem dX5_term_14 : decode cX5_term 14 = .ok (.aload_n 0, 1) := by decide +kernel
theorem dX5_term_15 : decode cX5_term 15 = .ok (.invokevirtual 185, 3) := by decide +kernel
theorem dX5_term_18 : decode cX5_term 18 = .ok (.iload_n 1, 1) := by decide +kernel
theorem dX5_term_19 : decode cX5_term 19 = .ok (.aload_n 0, 1) := by decide +kernel
theorem dX5_term_20 : decode cX5_term 20 = .ok (.invokevirtual 217, 3) := by decide +kernel
theorem dX5_term_23 : decode cX5_term 23 = .ok (.imul, 1) := by decide +kernel
theorem dX5_term_24 : decode cX5_term 24 = .ok (.istore_n 1, 1) := by decide +kernel
theorem dX5_term_25 : decode cX5_term 25 = .ok (.goto (-20), 3) := by decide +kernel
theorem dX5_term_28 : decode cX5_term 28 = .ok (.iload_n 1, 1) := by decide +kernel
theorem dX5_term_29 : decode cX5_term 29 = .ok (.ireturn, 1) := by decide +kernel
theorem dX5_added_0 : decode cX5_added 0 = .ok (.aload_n 0, 1) := by decide +kernel
theorem dX5_added_1 : decode cX5_added 1 = .ok (.invokevirtual 227, 3) := by decide +kernel
theorem dX5_added_4 : decode cX5_added 4 = .ok (.istore_n 1, 1) := by decide +kernel
theorem dX5_added_5 : decode cX5_added 5 = .ok (.aload_n 0, 1) := by decide +kernel
theorem dX5_added_6 : decode cX5_added 6 = .ok (.bipush 43, 2) := by decide +kernel
theorem dX5_added_8 : decode cX5_added 8 = .ok (.invokevirtual 210, 3) := by decide +kernel
theorem dX5_added_11 : decode cX5_added 11 = .ok (.ifCond .ne 12, 3) := by decide +kernel
theorem dX5_added_14 : decode cX5_added 14 = .ok (.aload_n 0, 1) := by decide +kernel
theorem dX5_added_15 : decode cX5_added 15 = .ok (.bipush 45, 2) := by decide +kernel
theorem dX5_added_17 : decode cX5_added 17 = .ok (.invokevirtual 210, 3) := by decide +kernel
theorem dX5_added_20 : decode cX5_added 20 = .ok (.ifCond .eq 46, 3) := by decide +kernel
theorem dX5_added_23 : decode cX5_added 23 = .ok (.aload_n 0, 1) := by decide +kernel
theorem dX5_added_24 : decode cX5_added 24 = .ok (.getfield 163, 3) := by decide +kernel
theorem dX5_added_27 : decode cX5_added 27 = .ok (.ldc2_w 230, 3) := by decide +kernel
theorem dX5_added_30 : decode cX5_added 30 = .ok (.lcmp, 1) := by decide +kernel
theorem dX5_added_31 : decode cX5_added 31 = .ok (.ifCond .ne 7, 3) := by decide +kernel
theorem dX5_added_34 : decode cX5_added 34 = .ok (.iconst 1, 1) := by decide +kernel
theorem dX5_added_35 : decode cX5_added 35 = .ok (.goto 4, 3) := by decide +kernel
theorem dX5_added_38 : decode cX5_added 38 = .ok (.iconst 0, 1) := by decide +kernel
theorem dX5_added_39 : decode cX5_added 39 = .ok (.istore_n 2, 1) := by decide +kernel
theorem dX5_added_40 : decode cX5_added 40 = .ok (.aload_n 0, 1) := by decide +kernel
theorem dX5_added_41 : decode cX5_added 41 = .ok (.invokevirtual 185, 3) := by decide +kernel
theorem dX5_added_44 : decode cX5_added 44 = .ok (.aload_n 0, 1) := by decide +kernel
theorem dX5_added_45 : decode cX5_added 45 = .ok (.invokevirtual 227, 3) := by decide +kernel
theorem dX5_added_48 : decode cX5_added 48 = .ok (.istore_n 3, 1) := by decide +kernel
theorem dX5_added_49 : decode cX5_added 49 = .ok (.iload_n 2, 1) := by decide +kernel
theorem dX5_added_50 : decode cX5_added 50 = .ok (.ifCond .eq 9, 3) := by decide +kernel
theorem dX5_added_53 : decode cX5_added 53 = .ok (.iload_n 1, 1) := by decide +kernel
theorem dX5_added_54 : decode cX5_added 54 = .ok (.iload_n 3, 1) := by decide +kernel
theorem dX5_added_55 : decode cX5_added 55 = .ok (.iadd, 1) := by decide +kernel
theorem dX5_added_56 : decode cX5_added 56 = .ok (.goto 6, 3) := by decide +kernel
theorem dX5_added_59 : decode cX5_added 59 = .ok (.iload_n 1, 1) := by decide +kernel
theorem dX5_added_60 : decode cX5_added 60 = .ok (.iload_n 3, 1) := by decide +kernel
theorem dX5_added_61 : decode cX5_added 61 = .ok (.isub, 1) := by decide +kernel
theorem dX5_added_62 : decode cX5_added 62 = .ok (.istore_n 1, 1) := by decide +kernel
theorem dX5_added_63 : decode cX5_added 63 = .ok (.goto (-58), 3) := by decide +kernel
theorem dX5_added_66 : decode cX5_added 66 = .ok (.iload_n 1, 1) := by decide +kernel
theorem dX5_added_67 : decode cX5_added 67 = .ok (.ireturn, 1) := by decide +kernel
theorem dX5_not_0 : decode cX5_not 0 = .ok (.aload_n 0, 1) := by decide +kernel
theorem dX5_not_1 : decode cX5_not 1 = .ok (.bipush 110, 2) := by decide +kernel
theorem dX5_not_3 : decode cX5_not 3 = .ok (.bipush 111, 2) := by decide +kernel
theorem dX5_not_5 : decode cX5_not 5 = .ok (.bipush 116, 2) := by decide +kernel
theorem dX5_not_7 : decode cX5_not 7 = .ok (.iconst 0, 1) := by decide +kernel
theorem dX5_not_8 : decode cX5_not 8 = .ok (.iconst 0, 1) := by decide +kernel
theorem dX5_not_9 : decode cX5_not 9 = .ok (.iconst 0, 1) := by decide +kernel
theorem dX5_not_10 : decode cX5_not 10 = .ok (.iconst 0, 1) := by decide +kernel
theorem dX5_not_11 : decode cX5_not 11 = .ok (.iconst 0, 1) := by decide +kernel
theorem dX5_not_12 : decode cX5_not 12 = .ok (.invokevirtual 188, 3) := by decide +kernel
theorem dX5_not_15 : decode cX5_not 15 = .ok (.ifCond .eq 37, 3) := by decide +kernel
theorem dX5_not_18 : decode cX5_not 18 = .ok (.aload_n 0, 1) := by decide +kernel
theorem dX5_not_19 : decode cX5_not 19 = .ok (.invokevirtual 213, 3) := by decide +kernel
theorem dX5_not_22 : decode cX5_not 22 = .ok (.ifCond .ne 5, 3) := by decide +kernel
theorem dX5_not_25 : decode cX5_not 25 = .ok (.iconst 0, 1) := by decide +kernel
theorem dX5_not_26 : decode cX5_not 26 = .ok (.ireturn, 1) := by decide +kernel
theorem dX5_not_27 : decode cX5_not 27 = .ok (.aload_n 0, 1) := by decide +kernel
theorem dX5_not_28 : decode cX5_not 28 = .ok (.invokevirtual 232, 3) := by decide +kernel
theorem dX5_not_31 : decode cX5_not 31 = .ok (.istore_n 1, 1) := by decide +kernel
theorem dX5_not_32 : decode cX5_not 32 = .ok (.aload_n 0, 1) := by decide +kernel
theorem dX5_not_33 : decode cX5_not 33 = .ok (.dup, 1) := by decide +kernel
theorem dX5_not_34 : decode cX5_not 34 = .ok (.getfield 179, 3) := by decide +kernel
theorem dX5_not_37 : decode cX5_not 37 = .ok (.iconst 1, 1) := by decide +kernel
theorem dX5_not_38 : decode cX5_not 38 = .ok (.isub, 1) := by decide +kernel
theorem dX5_not_39 : decode cX5_not 39 = .ok (.putfield 179, 3) := by decide +kernel
theorem dX5_not_42 : decode cX5_not 42 = .ok (.iload_n 1, 1) := by decide +kernel
theorem dX5_not_43 : decode cX5_not 43 = .ok (.ifCond .ne 7, 3) := by decide +kernel
theorem dX5_not_46 : decode cX5_not 46 = .ok (.iconst 1, 1) := by decide +kernel
theorem dX5_not_47 : decode cX5_not 47 = .ok (.goto 4, 3) := by decide +kernel
theorem dX5_not_50 : decode cX5_not 50 = .ok (.iconst 0, 1) := by decide +kernel
theorem dX5_not_51 : decode cX5_not 51 = .ok (.ireturn, 1) := by decide +kernel
theorem dX5_not_52 : decode cX5_not 52 = .ok (.aload_n 0, 1) := by decide +kernel
theorem dX5_not_53 : decode cX5_not 53 = .ok (.invokevirtual 235, 3) := by decide +kernel
theorem dX5_not_56 : decode cX5_not 56 = .ok (.istore_n 1, 1) := by decide +kernel
theorem dX5_not_57 : decode cX5_not 57 = .ok (.aload_n 0, 1) := by decide +kernel
theorem dX5_not_58 : decode cX5_not 58 = .ok (.bipush 60, 2) := by decide +kernel
theorem dX5_not_60 : decode cX5_not 60 = .ok (.invokevirtual 210, 3) := by decide +kernel
theorem dX5_not_63 : decode cX5_not 63 = .ok (.ifCond .ne 14, 3) := by decide +kernel
theorem dX5_not_66 : decode cX5_not 66 = .ok (.aload_n 0, 1) := by decide +kernel
theorem dX5_not_67 : decode cX5_not 67 = .ok (.bipush 61, 2) := by decide +kernel
theorem dX5_not_69 : decode cX5_not 69 = .ok (.invokevirtual 210, 3) := by decide +kernel
theorem dX5_not_72 : decode cX5_not 72 = .ok (.ifCond .ne 5, 3) := by decide +kernel
theorem dX5_not_75 : decode cX5_not 75 = .ok (.iload_n 1, 1) := by decide +kernel
theorem dX5_not_76 : decode cX5_not 76 = .ok (.ireturn, 1) := by decide +kernel
theorem dX5_not_77 : decode cX5_not 77 = .ok (.aload_n 0, 1) := by decide +kernel
theorem dX5_not_78 : decode cX5_not 78 = .ok (.getfield 163, 3) := by decide +kernel
theorem dX5_not_81 : decode cX5_not 81 = .ok (.ldc2_w 238, 3) := by decide +kernel
theorem dX5_not_84 : decode cX5_not 84 = .ok (.lcmp, 1) := by decide +kernel
theorem dX5_not_85 : decode cX5_not 85 = .ok (.ifCond .ne 7, 3) := by decide +kernel
theorem dX5_not_88 : decode cX5_not 88 = .ok (.iconst 1, 1) := by decide +kernel
theorem dX5_not_89 : decode cX5_not 89 = .ok (.goto 4, 3) := by decide +kernel
theorem dX5_not_92 : decode cX5_not 92 = .ok (.iconst 0, 1) := by decide +kernel
theorem dX5_not_93 : decode cX5_not 93 = .ok (.istore_n 2, 1) := by decide +kernel
theorem dX5_not_94 : decode cX5_not 94 = .ok (.aload_n 0, 1) := by decide +kernel
theorem dX5_not_95 : decode cX5_not 95 = .ok (.invokevirtual 185, 3) := by decide +kernel
theorem dX5_not_98 : decode cX5_not 98 = .ok (.aload_n 0, 1) := by decide +kernel
theorem dX5_not_99 : decode cX5_not 99 = .ok (.invokevirtual 235, 3) := by decide +kernel
theorem dX5_not_102 : decode cX5_not 102 = .ok (.istore_n 3, 1) := by decide +kernel
theorem dX5_not_103 : decode cX5_not 103 = .ok (.iload_n 2, 1) := by decide +kernel
theorem dX5_not_104 : decode cX5_not 104 = .ok (.ifCond .eq 11, 3) := by decide +kernel
theorem dX5_not_107 : decode cX5_not 107 = .ok (.iload_n 1, 1) := by decide +kernel
theorem dX5_not_108 : decode cX5_not 108 = .ok (.iload_n 3, 1) := by decide +kernel
theorem dX5_not_109 : decode cX5_not 109 = .ok (.if_icmp .ge 15, 3) := by decide +kernel
theorem dX5_not_112 : decode cX5_not 112 = .ok (.goto 8, 3) := by decide +kernel
theorem dX5_not_115 : decode cX5_not 115 = .ok (.iload_n 1, 1) := by decide +kernel
theorem dX5_not_116 : decode cX5_not 116 = .ok (.iload_n 3, 1) := by decide +kernel
theorem dX5_not_117 : decode cX5_not 117 = .ok (.if_icmp .ne 7, 3) := by decide +kernel
theorem dX5_not_120 : decode cX5_not 120 = .ok (.iconst 1, 1) := by decide +kernel
theorem dX5_not_121 : decode cX5_not 121 = .ok (.goto 4, 3) := by decide +kernel
theorem dX5_not_124 : decode cX5_not 124 = .ok (.iconst 0, 1) := by decide +kernel
theorem dX5_not_125 : decode cX5_not 125 = .ok (.ireturn, 1) := by decide +kernel
theorem dX5_both_0 : decode cX5_both 0 = .ok (.aload_n 0, 1) := by decide +kernel
theorem dX5_both_1 : decode cX5_both 1 = .ok (.invokevirtual 232, 3) := by decide +kernel
theorem dX5_both_4 : decode cX5_both 4 = .ok (.istore_n 1, 1) := by decide +kernel
theorem dX5_both_5 : decode cX5_both 5 = .ok (.aload_n 0, 1) := by decide +kernel
theorem dX5_both_6 : decode cX5_both 6 = .ok (.bipush 97, 2) := by decide +kernel
theorem dX5_both_8 : decode cX5_both 8 = .ok (.bipush 110, 2) := by decide +kernel
theorem dX5_both_10 : decode cX5_both 10 = .ok (.bipush 100, 2) := by decide +kernel
theorem dX5_both_12 : decode cX5_both 12 = .ok (.iconst 0, 1) := by decide +kernel
theorem dX5_both_13 : decode cX5_both 13 = .ok (.iconst 0, 1) := by decide +kernel
theorem dX5_both_14 : decode cX5_both 14 = .ok (.iconst 0, 1) := by decide +kernel
theorem dX5_both_15 : decode cX5_both 15 = .ok (.iconst 0, 1) := by decide +kernel
theorem dX5_both_16 : decode cX5_both 16 = .ok (.iconst 0, 1) := by decide +kernel
theorem dX5_both_17 : decode cX5_both 17 = .ok (.invokevirtual 188, 3) := by decide +kernel
theorem dX5_both_20 : decode cX5_both 20 = .ok (.ifCond .eq 29, 3) := by decide +kernel
theorem dX5_both_23 : decode cX5_both 23 = .ok (.aload_n 0, 1) := by decide +kernel
theorem dX5_both_24 : decode cX5_both 24 = .ok (.invokevirtual 185, 3) := by decide +kernel
theorem dX5_both_27 : decode cX5_both 27 = .ok (.aload_n 0, 1) := by decide +kernel
theorem dX5_both_28 : decode cX5_both 28 = .ok (.invokevirtual 232, 3) := by decide +kernel
theorem dX5_both_31 : decode cX5_both 31 = .ok (.istore_n 2, 1) := by decide +kernel
theorem dX5_both_32 : decode cX5_both 32 = .ok (.iload_n 1, 1) := by decide +kernel
theorem dX5_both_33 : decode cX5_both 33 = .ok (.ifCond .eq 11, 3) := by decide +kernel
theorem dX5_both_36 : decode cX5_both 36 = .ok (.iload_n 2, 1) := by decide +kernel
theorem dX5_both_37 : decode cX5_both 37 = .ok (.ifCond .eq 7, 3) := by decide +kernel
theorem dX5_both_40 : decode cX5_both 40 = .ok (.iconst 1, 1) := by decide +kernel
theorem dX5_both_41 : decode cX5_both 41 = .ok (.goto 4, 3) := by decide +kernel
theorem dX5_both_44 : decode cX5_both 44 = .ok (.iconst 0, 1) := by decide +kernel
theorem dX5_both_45 : decode cX5_both 45 = .ok (.istore_n 1, 1) := by decide +kernel
theorem dX5_both_46 : decode cX5_both 46 = .ok (.goto (-41), 3) := by decide +kernel
theorem dX5_both_49 : decode cX5_both 49 = .ok (.iload_n 1, 1) := by decide +kernel
theorem dX5_both_50 : decode cX5_both 50 = .ok (.ireturn, 1) := by decide +kernel
theorem dX5_either_0 : decode cX5_either 0 = .ok (.aload_n 0, 1) := by decide +kernel
theorem dX5_either_1 : decode cX5_either 1 = .ok (.invokevirtual 240, 3) := by decide +kernel
theorem dX5_either_4 : decode cX5_either 4 = .ok (.istore_n 1, 1) := by decide +kernel
theorem dX5_either_5 : decode cX5_either 5 = .ok (.aload_n 0, 1) := by decide +kernel
theorem dX5_either_6 : decode cX5_either 6 = .ok (.bipush 111, 2) := by decide +kernel
theorem dX5_either_8 : decode cX5_either 8 = .ok (.bipush 114, 2) := by decide +kernel
theorem dX5_either_10 : decode cX5_either 10 = .ok (.iconst 0, 1) := by decide +kernel
theorem dX5_either_11 : decode cX5_either 11 = .ok (.iconst 0, 1) := by decide +kernel
theorem dX5_either_12 : decode cX5_either 12 = .ok (.iconst 0, 1) := by decide +kernel
theorem dX5_either_13 : decode cX5_either 13 = .ok (.iconst 0, 1) := by decide +kernel
theorem dX5_either_14 : decode cX5_either 14 = .ok (.iconst 0, 1) := by decide +kernel
theorem dX5_either_15 : decode cX5_either 15 = .ok (.iconst 0, 1) := by decide +kernel
theorem dX5_either_16 : decode cX5_either 16 = .ok (.invokevirtual 188, 3) := by decide +kernel
theorem dX5_either_19 : decode cX5_either 19 = .ok (.ifCond .eq 29, 3) := by decide +kernel
theorem dX5_either_22 : decode cX5_either 22 = .ok (.aload_n 0, 1) := by decide +kernel
theorem dX5_either_23 : decode cX5_either 23 = .ok (.invokevirtual 185, 3) := by decide +kernel
theorem dX5_either_26 : decode cX5_either 26 = .ok (.aload_n 0, 1) := by decide +kernel
theorem dX5_either_27 : decode cX5_either 27 = .ok (.invokevirtual 240, 3) := by decide +kernel
theorem dX5_either_30 : decode cX5_either 30 = .ok (.istore_n 2, 1) := by decide +kernel
theorem dX5_either_31 : decode cX5_either 31 = .ok (.iload_n 1, 1) := by decide +kernel
theorem dX5_either_32 : decode cX5_either 32 = .ok (.ifCond .ne 7, 3) := by decide +kernel
theorem dX5_either_35 : decode cX5_either 35 = .ok (.iload_n 2, 1) := by decide +kernel
theorem dX5_either_36 : decode cX5_either 36 = .ok (.ifCond .eq 7, 3) := by decide +kernel
theorem dX5_either_39 : decode cX5_either 39 = .ok (.iconst 1, 1) := by decide +kernel
theorem dX5_either_40 : decode cX5_either 40 = .ok (.goto 4, 3) := by decide +kernel
theorem dX5_either_43 : decode cX5_either 43 = .ok (.iconst 0, 1) := by decide +kernel
theorem dX5_either_44 : decode cX5_either 44 = .ok (.istore_n 1, 1) := by decide +kernel
theorem dX5_either_45 : decode cX5_either 45 = .ok (.goto (-40), 3) := by decide +kernel
theorem dX5_either_48 : decode cX5_either 48 = .ok (.iload_n 1, 1) := by decide +kernel
theorem dX5_either_49 : decode cX5_either 49 = .ok (.ireturn, 1) := by decide +kernel
theorem dX5_part_0 : decode cX5_part 0 = .ok (.iload_n 1, 1) := by decide +kernel
theorem dX5_part_1 : decode cX5_part 1 = .ok (.ifCond .ne 7, 3) := by decide +kernel
theorem dX5_part_4 : decode cX5_part 4 = .ok (.aload_n 0, 1) := by decide +kernel
theorem dX5_part_5 : decode cX5_part 5 = .ok (.invokevirtual 182, 3) := by decide +kernel
theorem dX5_part_8 : decode cX5_part 8 = .ok (.aload_n 0, 1) := by decide +kernel
theorem dX5_part_9 : decode cX5_part 9 = .ok (.getfield 169, 3) := by decide +kernel
theorem dX5_part_12 : decode cX5_part 12 = .ok (.ifCond .ne 7, 3) := by decide +kernel
theorem dX5_part_15 : decode cX5_part 15 = .ok (.aload_n 0, 1) := by decide +kernel
theorem dX5_part_16 : decode cX5_part 16 = .ok (.invokevirtual 185, 3) := by decide +kernel
theorem dX5_part_19 : decode cX5_part 19 = .ok (.aload_n 0, 1) := by decide +kernel
theorem dX5_part_20 : decode cX5_part 20 = .ok (.getfield 169, 3) := by decide +kernel
theorem dX5_part_23 : decode cX5_part 23 = .ok (.ifCond .eq 7, 3) := by decide +kernel
theorem dX5_part_26 : decode cX5_part 26 = .ok (.iconst 0, 1) := by decide +kernel
theorem dX5_part_27 : decode cX5_part 27 = .ok (.goto 7, 3) := by decide +kernel
theorem dX5_part_30 : decode cX5_part 30 = .ok (.aload_n 0, 1) := by decide +kernel
theorem dX5_part_31 : decode cX5_part 31 = .ok (.invokevirtual 221, 3) := by decide +kernel
theorem dX5_part_34 : decode cX5_part 34 = .ok (.istore_n 2, 1) := by decide +kernel
theorem dX5_part_35 : decode cX5_part 35 = .ok (.aload_n 0, 1) := by decide +kernel
theorem dX5_part_36 : decode cX5_part 36 = .ok (.bipush 59, 2) := by decide +kernel
theorem dX5_part_38 : decode cX5_part 38 = .ok (.invokevirtual 210, 3) := by decide +kernel
theorem dX5_part_41 : decode cX5_part 41 = .ok (.ifCond .ne 7, 3) := by decide +kernel
theorem dX5_part_44 : decode cX5_part 44 = .ok (.aload_n 0, 1) := by decide +kernel
theorem dX5_part_45 : decode cX5_part 45 = .ok (.invokevirtual 182, 3) := by decide +kernel
theorem dX5_part_48 : decode cX5_part 48 = .ok (.aload_n 0, 1) := by decide +kernel
theorem dX5_part_49 : decode cX5_part 49 = .ok (.getfield 169, 3) := by decide +kernel
theorem dX5_part_52 : decode cX5_part 52 = .ok (.ifCond .ne 7, 3) := by decide +kernel
theorem dX5_part_55 : decode cX5_part 55 = .ok (.aload_n 0, 1) := by decide +kernel
theorem dX5_part_56 : decode cX5_part 56 = .ok (.invokevirtual 185, 3) := by decide +kernel
theorem dX5_part_59 : decode cX5_part 59 = .ok (.iload_n 2, 1) := by decide +kernel
theorem dX5_part_60 : decode cX5_part 60 = .ok (.ireturn, 1) := by decide +kernel
theorem dX5_read_0 : decode cX5_read 0 = .ok (.aload_n 0, 1) := by decide +kernel
theorem dX5_read_1 : decode cX5_read 1 = .ok (.sipush 160, 3) := by decide +kernel
theorem dX5_read_4 : decode cX5_read 4 = .ok (.iload_n 1, 1) := by decide +kernel
theorem dX5_read_5 : decode cX5_read 5 = .ok (.imul, 1) := by decide +kernel
theorem dX5_read_6 : decode cX5_read 6 = .ok (.putfield 140, 3) := by decide +kernel
theorem dX5_read_9 : decode cX5_read 9 = .ok (.aload_n 0, 1) := by decide +kernel
theorem dX5_read_10 : decode cX5_read 10 = .ok (.aload_n 0, 1) := by decide +kernel
theorem dX5_read_11 : decode cX5_read 11 = .ok (.getfield 17, 3) := by decide +kernel
theorem dX5_read_14 : decode cX5_read 14 = .ok (.iload_n 1, 1) := by decide +kernel
theorem dX5_read_15 : decode cX5_read 15 = .ok (.iaload, 1) := by decide +kernel
theorem dX5_read_16 : decode cX5_read 16 = .ok (.putfield 137, 3) := by decide +kernel
theorem dX5_read_19 : decode cX5_read 19 = .ok (.aload_n 0, 1) := by decide +kernel
theorem dX5_read_20 : decode cX5_read 20 = .ok (.iconst 0, 1) := by decide +kernel
theorem dX5_read_21 : decode cX5_read 21 = .ok (.putfield 143, 3) := by decide +kernel
theorem dX5_read_24 : decode cX5_read 24 = .ok (.aload_n 0, 1) := by decide +kernel
theorem dX5_read_25 : decode cX5_read 25 = .ok (.iconst 0, 1) := by decide +kernel
theorem dX5_read_26 : decode cX5_read 26 = .ok (.putfield 179, 3) := by decide +kernel
theorem dX5_read_29 : decode cX5_read 29 = .ok (.aload_n 0, 1) := by decide +kernel
theorem dX5_read_30 : decode cX5_read 30 = .ok (.iconst 0, 1) := by decide +kernel
theorem dX5_read_31 : decode cX5_read 31 = .ok (.putfield 169, 3) := by decide +kernel
theorem dX5_read_34 : decode cX5_read 34 = .ok (.aload_n 0, 1) := by decide +kernel
theorem dX5_read_35 : decode cX5_read 35 = .ok (.invokevirtual 185, 3) := by decide +kernel
theorem dX5_read_38 : decode cX5_read 38 = .ok (.aload_n 0, 1) := by decide +kernel
theorem dX5_read_39 : decode cX5_read 39 = .ok (.aload_n 0, 1) := by decide +kernel
theorem dX5_read_40 : decode cX5_read 40 = .ok (.bipush 109, 2) := by decide +kernel
theorem dX5_read_42 : decode cX5_read 42 = .ok (.bipush 97, 2) := by decide +kernel
theorem dX5_read_44 : decode cX5_read 44 = .ok (.bipush 107, 2) := by decide +kernel
theorem dX5_read_46 : decode cX5_read 46 = .ok (.bipush 101, 2) := by decide +kernel
theorem dX5_read_48 : decode cX5_read 48 = .ok (.bipush 115, 2) := by decide +kernel
theorem dX5_read_50 : decode cX5_read 50 = .ok (.iconst 0, 1) := by decide +kernel
theorem dX5_read_51 : decode cX5_read 51 = .ok (.iconst 0, 1) := by decide +kernel
theorem dX5_read_52 : decode cX5_read 52 = .ok (.iconst 0, 1) := by decide +kernel
theorem dX5_read_53 : decode cX5_read 53 = .ok (.invokevirtual 188, 3) := by decide +kernel
theorem dX5_read_56 : decode cX5_read 56 = .ok (.invokevirtual 243, 3) := by decide +kernel
theorem dX5_read_59 : decode cX5_read 59 = .ok (.istore_n 3, 1) := by decide +kernel
theorem dX5_read_60 : decode cX5_read 60 = .ok (.aload_n 0, 1) := by decide +kernel
theorem dX5_read_61 : decode cX5_read 61 = .ok (.getfield 169, 3) := by decide +kernel
theorem dX5_read_64 : decode cX5_read 64 = .ok (.ifCond .eq 7, 3) := by decide +kernel
theorem dX5_read_67 : decode cX5_read 67 = .ok (.iconst 0, 1) := by decide +kernel
theorem dX5_read_68 : decode cX5_read 68 = .ok (.goto 24, 3) := by decide +kernel
theorem dX5_read_71 : decode cX5_read 71 = .ok (.aload_n 0, 1) := by decide +kernel
theorem dX5_read_72 : decode cX5_read 72 = .ok (.aload_n 0, 1) := by decide +kernel
theorem dX5_read_73 : decode cX5_read 73 = .ok (.bipush 109, 2) := by decide +kernel
theorem dX5_read_75 : decode cX5_read 75 = .ok (.bipush 101, 2) := by decide +kernel
theorem dX5_read_77 : decode cX5_read 77 = .ok (.bipush 110, 2) := by decide +kernel
theorem dX5_read_79 : decode cX5_read 79 = .ok (.bipush 100, 2) := by decide +kernel
theorem dX5_read_81 : decode cX5_read 81 = .ok (.bipush 115, 2) := by decide +kernel
theorem dX5_read_83 : decode cX5_read 83 = .ok (.iconst 0, 1) := by decide +kernel
theorem dX5_read_84 : decode cX5_read 84 = .ok (.iconst 0, 1) := by decide +kernel
theorem dX5_read_85 : decode cX5_read 85 = .ok (.iconst 0, 1) := by decide +kernel
theorem dX5_read_86 : decode cX5_read 86 = .ok (.invokevirtual 188, 3) := by decide +kernel
theorem dX5_read_89 : decode cX5_read 89 = .ok (.invokevirtual 243, 3) := by decide +kernel
theorem dX5_read_92 : decode cX5_read 92 = .ok (.istore 4, 2) := by decide +kernel
theorem dX5_read_94 : decode cX5_read 94 = .ok (.aload_n 0, 1) := by decide +kernel
theorem dX5_read_95 : decode cX5_read 95 = .ok (.getfield 169, 3) := by decide +kernel
theorem dX5_read_98 : decode cX5_read 98 = .ok (.ifCond .eq 7, 3) := by decide +kernel
theorem dX5_read_101 : decode cX5_read 101 = .ok (.iconst 0, 1) := by decide +kernel
theorem dX5_read_102 : decode cX5_read 102 = .ok (.goto 24, 3) := by decide +kernel
theorem dX5_read_105 : decode cX5_read 105 = .ok (.aload_n 0, 1) := by decide +kernel
theorem dX5_read_106 : decode cX5_read 106 = .ok (.aload_n 0, 1) := by decide +kernel
theorem dX5_read_107 : decode cX5_read 107 = .ok (.bipush 112, 2) := by decide +kernel
theorem dX5_read_109 : decode cX5_read 109 = .ok (.bipush 117, 2) := by decide +kernel
theorem dX5_read_111 : decode cX5_read 111 = .ok (.bipush 109, 2) := by decide +kernel
theorem dX5_read_113 : decode cX5_read 113 = .ok (.bipush 112, 2) := by decide +kernel
theorem dX5_read_115 : decode cX5_read 115 = .ok (.bipush 115, 2) := by decide +kernel
theorem dX5_read_117 : decode cX5_read 117 = .ok (.iconst 0, 1) := by decide +kernel
theorem dX5_read_118 : decode cX5_read 118 = .ok (.iconst 0, 1) := by decide +kernel
theorem dX5_read_119 : decode cX5_read 119 = .ok (.iconst 0, 1) := by decide +kernel
theorem dX5_read_120 : decode cX5_read 120 = .ok (.invokevirtual 188, 3) := by decide +kernel
theorem dX5_read_123 : decode cX5_read 123 = .ok (.invokevirtual 243, 3) := by decide +kernel
theorem dX5_read_126 : decode cX5_read 126 = .ok (.istore 5, 2) := by decide +kernel
theorem dX5_read_128 : decode cX5_read 128 = .ok (.aload_n 0, 1) := by decide +kernel
theorem dX5_read_129 : decode cX5_read 129 = .ok (.getfield 169, 3) := by decide +kernel
theorem dX5_read_132 : decode cX5_read 132 = .ok (.ifCond .ne 14, 3) := by decide +kernel
theorem dX5_read_135 : decode cX5_read 135 = .ok (.aload_n 0, 1) := by decide +kernel
theorem dX5_read_136 : decode cX5_read 136 = .ok (.getfield 152, 3) := by decide +kernel
theorem dX5_read_139 : decode cX5_read 139 = .ok (.ifCond .eq 7, 3) := by decide +kernel
theorem dX5_read_142 : decode cX5_read 142 = .ok (.aload_n 0, 1) := by decide +kernel
theorem dX5_read_143 : decode cX5_read 143 = .ok (.invokevirtual 182, 3) := by decide +kernel
theorem dX5_read_146 : decode cX5_read 146 = .ok (.iload_n 2, 1) := by decide +kernel
theorem dX5_read_147 : decode cX5_read 147 = .ok (.ifCond .ne 7, 3) := by decide +kernel
theorem dX5_read_150 : decode cX5_read 150 = .ok (.iload_n 3, 1) := by decide +kernel
theorem dX5_read_151 : decode cX5_read 151 = .ok (.goto 15, 3) := by decide +kernel
theorem dX5_read_154 : decode cX5_read 154 = .ok (.iload_n 2, 1) := by decide +kernel
theorem dX5_read_155 : decode cX5_read 155 = .ok (.iconst 1, 1) := by decide +kernel
theorem dX5_read_156 : decode cX5_read 156 = .ok (.if_icmp .ne 8, 3) := by decide +kernel
theorem dX5_read_159 : decode cX5_read 159 = .ok (.iload 4, 2) := by decide +kernel
theorem dX5_read_161 : decode cX5_read 161 = .ok (.goto 5, 3) := by decide +kernel
theorem dX5_read_164 : decode cX5_read 164 = .ok (.iload 5, 2) := by decide +kernel
theorem dX5_read_166 : decode cX5_read 166 = .ok (.ireturn, 1) := by decide +kernel
theorem dX5_text_0 : decode cX5_text 0 = .ok (.aload_n 0, 1) := by decide +kernel
theorem dX5_text_1 : decode cX5_text 1 = .ok (.getfield 70, 3) := by decide +kernel
theorem dX5_text_4 : decode cX5_text 4 = .ok (.bipush 6, 2) := by decide +kernel
theorem dX5_text_6 : decode cX5_text 6 = .ok (.if_icmp .ne 6, 3) := by decide +kernel
theorem dX5_text_9 : decode cX5_text 9 = .ok (.bipush (-4), 2) := by decide +kernel
theorem dX5_text_11 : decode cX5_text 11 = .ok (.ireturn, 1) := by decide +kernel
theorem dX5_text_12 : decode cX5_text 12 = .ok (.iconst 0, 1) := by decide +kernel
theorem dX5_text_13 : decode cX5_text 13 = .ok (.istore_n 1, 1) := by decide +kernel
theorem dX5_text_14 : decode cX5_text 14 = .ok (.iload_n 1, 1) := by decide +kernel
theorem dX5_text_15 : decode cX5_text 15 = .ok (.aload_n 0, 1) := by decide +kernel
theorem dX5_text_16 : decode cX5_text 16 = .ok (.getfield 134, 3) := by decide +kernel
theorem dX5_text_19 : decode cX5_text 19 = .ok (.if_icmp .ge 30, 3) := by decide +kernel
theorem dX5_text_22 : decode cX5_text 22 = .ok (.aload_n 0, 1) := by decide +kernel
theorem dX5_text_23 : decode cX5_text 23 = .ok (.getfield 13, 3) := by decide +kernel
theorem dX5_text_26 : decode cX5_text 26 = .ok (.sipush 160, 3) := by decide +kernel
theorem dX5_text_29 : decode cX5_text 29 = .ok (.aload_n 0, 1) := by decide +kernel
theorem dX5_text_30 : decode cX5_text 30 = .ok (.getfield 70, 3) := by decide +kernel
theorem dX5_text_33 : decode cX5_text 33 = .ok (.imul, 1) := by decide +kernel
theorem dX5_text_34 : decode cX5_text 34 = .ok (.iload_n 1, 1) := by decide +kernel
theorem dX5_text_35 : decode cX5_text 35 = .ok (.iadd, 1) := by decide +kernel
theorem dX5_text_36 : decode cX5_text 36 = .ok (.aload_n 0, 1) := by decide +kernel
theorem dX5_text_37 : decode cX5_text 37 = .ok (.getfield 20, 3) := by decide +kernel
theorem dX5_text_40 : decode cX5_text 40 = .ok (.iload_n 1, 1) := by decide +kernel
theorem dX5_text_41 : decode cX5_text 41 = .ok (.iaload, 1) := by decide +kernel
theorem dX5_text_42 : decode cX5_text 42 = .ok (.iastore, 1) := by decide +kernel
theorem dX5_text_43 : decode cX5_text 43 = .ok (.iinc 1 1, 3) := by decide +kernel
theorem dX5_text_46 : decode cX5_text 46 = .ok (.goto (-32), 3) := by decide +kernel
theorem dX5_text_49 : decode cX5_text 49 = .ok (.aload_n 0, 1) := by decide +kernel
theorem dX5_text_50 : decode cX5_text 50 = .ok (.getfield 17, 3) := by decide +kernel
theorem dX5_text_53 : decode cX5_text 53 = .ok (.aload_n 0, 1) := by decide +kernel
theorem dX5_text_54 : decode cX5_text 54 = .ok (.getfield 70, 3) := by decide +kernel
theorem dX5_text_57 : decode cX5_text 57 = .ok (.aload_n 0, 1) := by decide +kernel
theorem dX5_text_58 : decode cX5_text 58 = .ok (.getfield 134, 3) := by decide +kernel
theorem dX5_text_61 : decode cX5_text 61 = .ok (.iastore, 1) := by decide +kernel
theorem dX5_text_62 : decode cX5_text 62 = .ok (.aload_n 0, 1) := by decide +kernel
theorem dX5_text_63 : decode cX5_text 63 = .ok (.iconst 0, 1) := by decide +kernel
theorem dX5_text_64 : decode cX5_text 64 = .ok (.putfield 134, 3) := by decide +kernel
theorem dX5_text_67 : decode cX5_text 67 = .ok (.aload_n 0, 1) := by decide +kernel
theorem dX5_text_68 : decode cX5_text 68 = .ok (.aload_n 0, 1) := by decide +kernel
theorem dX5_text_69 : decode cX5_text 69 = .ok (.getfield 70, 3) := by decide +kernel
theorem dX5_text_72 : decode cX5_text 72 = .ok (.iconst 0, 1) := by decide +kernel
theorem dX5_text_73 : decode cX5_text 73 = .ok (.invokevirtual 247, 3) := by decide +kernel
theorem dX5_text_76 : decode cX5_text 76 = .ok (.istore_n 1, 1) := by decide +kernel
theorem dX5_text_77 : decode cX5_text 77 = .ok (.aload_n 0, 1) := by decide +kernel
theorem dX5_text_78 : decode cX5_text 78 = .ok (.getfield 169, 3) := by decide +kernel
theorem dX5_text_81 : decode cX5_text 81 = .ok (.ifCond .eq 11, 3) := by decide +kernel
theorem dX5_text_84 : decode cX5_text 84 = .ok (.bipush (-100), 2) := by decide +kernel
theorem dX5_text_86 : decode cX5_text 86 = .ok (.aload_n 0, 1) := by decide +kernel
theorem dX5_text_87 : decode cX5_text 87 = .ok (.getfield 173, 3) := by decide +kernel
theorem dX5_text_90 : decode cX5_text 90 = .ok (.isub, 1) := by decide +kernel
theorem dX5_text_91 : decode cX5_text 91 = .ok (.ireturn, 1) := by decide +kernel
theorem dX5_text_92 : decode cX5_text 92 = .ok (.aload_n 0, 1) := by decide +kernel
theorem dX5_text_93 : decode cX5_text 93 = .ok (.dup, 1) := by decide +kernel
theorem dX5_text_94 : decode cX5_text 94 = .ok (.getfield 70, 3) := by decide +kernel
theorem dX5_text_97 : decode cX5_text 97 = .ok (.iconst 1, 1) := by decide +kernel
theorem dX5_text_98 : decode cX5_text 98 = .ok (.iadd, 1) := by decide +kernel
theorem dX5_text_99 : decode cX5_text 99 = .ok (.putfield 70, 3) := by decide +kernel
theorem dX5_text_102 : decode cX5_text 102 = .ok (.aload_n 0, 1) := by decide +kernel
theorem dX5_text_103 : decode cX5_text 103 = .ok (.getfield 70, 3) := by decide +kernel
theorem dX5_text_106 : decode cX5_text 106 = .ok (.iconst 1, 1) := by decide +kernel
theorem dX5_text_107 : decode cX5_text 107 = .ok (.isub, 1) := by decide +kernel
theorem dX5_text_108 : decode cX5_text 108 = .ok (.ireturn, 1) := by decide +kernel
theorem dX5_force_0 : decode cX5_force 0 = .ok (.iload_n 1, 1) := by decide +kernel
theorem dX5_force_1 : decode cX5_force 1 = .ok (.i2l, 1) := by decide +kernel
theorem dX5_force_2 : decode cX5_force 2 = .ok (.lconst 0, 1) := by decide +kernel
theorem dX5_force_3 : decode cX5_force 3 = .ok (.aload_n 0, 1) := by decide +kernel
theorem dX5_force_4 : decode cX5_force 4 = .ok (.getfield 70, 3) := by decide +kernel
theorem dX5_force_7 : decode cX5_force 7 = .ok (.iconst 1, 1) := by decide +kernel
theorem dX5_force_8 : decode cX5_force 8 = .ok (.isub, 1) := by decide +kernel
theorem dX5_force_9 : decode cX5_force 9 = .ok (.i2l, 1) := by decide +kernel
theorem dX5_force_10 : decode cX5_force 10 = .ok (.invokestatic 76, 3) := by decide +kernel
theorem dX5_force_13 : decode cX5_force 13 = .ok (.ifCond .ne 6, 3) := by decide +kernel
theorem dX5_force_16 : decode cX5_force 16 = .ok (.bipush (-2), 2) := by decide +kernel
theorem dX5_force_18 : decode cX5_force 18 = .ok (.ireturn, 1) := by decide +kernel
theorem dX5_force_19 : decode cX5_force 19 = .ok (.aload_n 0, 1) := by decide +kernel
theorem dX5_force_20 : decode cX5_force 20 = .ok (.getfield 113, 3) := by decide +kernel
theorem dX5_force_23 : decode cX5_force 23 = .ok (.istore_n 2, 1) := by decide +kernel
theorem dX5_force_24 : decode cX5_force 24 = .ok (.aload_n 0, 1) := by decide +kernel
theorem dX5_force_25 : decode cX5_force 25 = .ok (.iload_n 1, 1) := by decide +kernel
theorem dX5_force_26 : decode cX5_force 26 = .ok (.putfield 113, 3) := by decide +kernel
theorem dX5_force_29 : decode cX5_force 29 = .ok (.iload_n 2, 1) := by decide +kernel
theorem dX5_force_30 : decode cX5_force 30 = .ok (.ireturn, 1) := by decide +kernel
theorem dX5_says_0 : decode cX5_says 0 = .ok (.aload_n 0, 1) := by decide +kernel
theorem dX5_says_1 : decode cX5_says 1 = .ok (.aload_n 0, 1) := by decide +kernel
theorem dX5_says_2 : decode cX5_says 2 = .ok (.getfield 32, 3) := by decide +kernel
theorem dX5_says_5 : decode cX5_says 5 = .ok (.iconst 4, 1) := by decide +kernel
theorem dX5_says_6 : decode cX5_says 6 = .ok (.iload_n 2, 1) := by decide +kernel
theorem dX5_says_7 : decode cX5_says 7 = .ok (.imul, 1) := by decide +kernel
theorem dX5_says_8 : decode cX5_says 8 = .ok (.iconst 1, 1) := by decide +kernel
theorem dX5_says_9 : decode cX5_says 9 = .ok (.iadd, 1) := by decide +kernel
theorem dX5_says_10 : decode cX5_says 10 = .ok (.iaload, 1) := by decide +kernel
theorem dX5_says_11 : decode cX5_says 11 = .ok (.putfield 192, 3) := by decide +kernel
theorem dX5_says_14 : decode cX5_says 14 = .ok (.aload_n 0, 1) := by decide +kernel
theorem dX5_says_15 : decode cX5_says 15 = .ok (.iload_n 3, 1) := by decide +kernel
theorem dX5_says_16 : decode cX5_says 16 = .ok (.iconst (-1), 1) := by decide +kernel
theorem dX5_says_17 : decode cX5_says 17 = .ok (.if_icmp .ne 7, 3) := by decide +kernel
theorem dX5_says_20 : decode cX5_says 20 = .ok (.iconst 0, 1) := by decide +kernel
theorem dX5_says_21 : decode cX5_says 21 = .ok (.goto 9, 3) := by decide +kernel
theorem dX5_says_24 : decode cX5_says 24 = .ok (.aload_n 0, 1) := by decide +kernel
theorem dX5_says_25 : decode cX5_says 25 = .ok (.getfield 29, 3) := by decide +kernel
theorem dX5_says_28 : decode cX5_says 28 = .ok (.iload_n 3, 1) := by decide +kernel
theorem dX5_says_29 : decode cX5_says 29 = .ok (.iaload, 1) := by decide +kernel
theorem dX5_says_30 : decode cX5_says 30 = .ok (.putfield 195, 3) := by decide +kernel
theorem dX5_says_33 : decode cX5_says 33 = .ok (.aload_n 0, 1) := by decide +kernel
theorem dX5_says_34 : decode cX5_says 34 = .ok (.aload_n 0, 1) := by decide +kernel
theorem dX5_says_35 : decode cX5_says 35 = .ok (.getfield 32, 3) := by decide +kernel
theorem dX5_says_38 : decode cX5_says 38 = .ok (.iconst 4, 1) := by decide +kernel
theorem dX5_says_39 : decode cX5_says 39 = .ok (.iload_n 2, 1) := by decide +kernel
theorem dX5_says_40 : decode cX5_says 40 = .ok (.imul, 1) := by decide +kernel
theorem dX5_says_41 : decode cX5_says 41 = .ok (.iaload, 1) := by decide +kernel
theorem dX5_says_42 : decode cX5_says 42 = .ok (.putfield 198, 3) := by decide +kernel
theorem dX5_says_45 : decode cX5_says 45 = .ok (.aload_n 0, 1) := by decide +kernel
theorem dX5_says_46 : decode cX5_says 46 = .ok (.aload_n 0, 1) := by decide +kernel
theorem dX5_says_47 : decode cX5_says 47 = .ok (.getfield 107, 3) := by decide +kernel
theorem dX5_says_50 : decode cX5_says 50 = .ok (.putfield 201, 3) := by decide +kernel
theorem dX5_says_53 : decode cX5_says 53 = .ok (.aload_n 0, 1) := by decide +kernel
theorem dX5_says_54 : decode cX5_says 54 = .ok (.aload_n 0, 1) := by decide +kernel
theorem dX5_says_55 : decode cX5_says 55 = .ok (.getfield 110, 3) := by decide +kernel
theorem dX5_says_58 : decode cX5_says 58 = .ok (.putfield 204, 3) := by decide +kernel
theorem dX5_says_61 : decode cX5_says 61 = .ok (.aload_n 0, 1) := by decide +kernel
theorem dX5_says_62 : decode cX5_says 62 = .ok (.iload_n 3, 1) := by decide +kernel
theorem dX5_says_63 : decode cX5_says 63 = .ok (.iconst (-1), 1) := by decide +kernel
theorem dX5_says_64 : decode cX5_says 64 = .ok (.if_icmp .ne 7, 3) := by decide +kernel
theorem dX5_says_67 : decode cX5_says 67 = .ok (.iconst 0, 1) := by decide +kernel
theorem dX5_says_68 : decode cX5_says 68 = .ok (.goto 4, 3) := by decide +kernel
theorem dX5_says_71 : decode cX5_says 71 = .ok (.iload_n 3, 1) := by decide +kernel
theorem dX5_says_72 : decode cX5_says 72 = .ok (.putfield 207, 3) := by decide +kernel
theorem dX5_says_75 : decode cX5_says 75 = .ok (.aload_n 0, 1) := by decide +kernel
theorem dX5_says_76 : decode cX5_says 76 = .ok (.aload_n 0, 1) := by decide +kernel
theorem dX5_says_77 : decode cX5_says 77 = .ok (.getfield 113, 3) := by decide +kernel
theorem dX5_says_80 : decode cX5_says 80 = .ok (.iload_n 1, 1) := by decide +kernel
theorem dX5_says_81 : decode cX5_says 81 = .ok (.invokevirtual 247, 3) := by decide +kernel
theorem dX5_says_84 : decode cX5_says 84 = .ok (.iconst 0, 1) := by decide +kernel
theorem dX5_says_85 : decode cX5_says 85 = .ok (.bipush 99, 2) := by decide +kernel
theorem dX5_says_87 : decode cX5_says 87 = .ok (.invokestatic 250, 3) := by decide +kernel
theorem dX5_says_90 : decode cX5_says 90 = .ok (.ireturn, 1) := by decide +kernel
theorem dX5_makesOf_0 : decode cX5_makesOf 0 = .ok (.aload_n 0, 1) := by decide +kernel
theorem dX5_makesOf_1 : decode cX5_makesOf 1 = .ok (.getfield 32, 3) := by decide +kernel
theorem dX5_makesOf_4 : decode cX5_makesOf 4 = .ok (.iconst 4, 1) := by decide +kernel
theorem dX5_makesOf_5 : decode cX5_makesOf 5 = .ok (.iload_n 1, 1) := by decide +kernel
theorem dX5_makesOf_6 : decode cX5_makesOf 6 = .ok (.imul, 1) := by decide +kernel
theorem dX5_makesOf_7 : decode cX5_makesOf 7 = .ok (.iconst 2, 1) := by decide +kernel
theorem dX5_makesOf_8 : decode cX5_makesOf 8 = .ok (.iadd, 1) := by decide +kernel
theorem dX5_makesOf_9 : decode cX5_makesOf 9 = .ok (.iaload, 1) := by decide +kernel
theorem dX5_makesOf_10 : decode cX5_makesOf 10 = .ok (.istore_n 3, 1) := by decide +kernel
theorem dX5_makesOf_11 : decode cX5_makesOf 11 = .ok (.iload_n 3, 1) := by decide +kernel
theorem dX5_makesOf_12 : decode cX5_makesOf 12 = .ok (.iconst 5, 1) := by decide +kernel
theorem dX5_makesOf_13 : decode cX5_makesOf 13 = .ok (.if_icmp .ne 17, 3) := by decide +kernel
theorem dX5_makesOf_16 : decode cX5_makesOf 16 = .ok (.iload_n 2, 1) := by decide +kernel
theorem dX5_makesOf_17 : decode cX5_makesOf 17 = .ok (.invokestatic 254, 3) := by decide +kernel
theorem dX5_makesOf_20 : decode cX5_makesOf 20 = .ok (.ifCond .eq 7, 3) := by decide +kernel
theorem dX5_makesOf_23 : decode cX5_makesOf 23 = .ok (.iconst 0, 1) := by decide +kernel
theorem dX5_makesOf_24 : decode cX5_makesOf 24 = .ok (.goto 5, 3) := by decide +kernel
theorem dX5_makesOf_27 : decode cX5_makesOf 27 = .ok (.bipush 99, 2) := by decide +kernel
theorem dX5_makesOf_29 : decode cX5_makesOf 29 = .ok (.ireturn, 1) := by decide +kernel
theorem dX5_makesOf_30 : decode cX5_makesOf 30 = .ok (.aload_n 0, 1) := by decide +kernel
theorem dX5_makesOf_31 : decode cX5_makesOf 31 = .ok (.iconst 0, 1) := by decide +kernel
theorem dX5_makesOf_32 : decode cX5_makesOf 32 = .ok (.iload_n 1, 1) := by decide +kernel
theorem dX5_makesOf_33 : decode cX5_makesOf 33 = .ok (.iload_n 2, 1) := by decide +kernel
theorem dX5_makesOf_34 : decode cX5_makesOf 34 = .ok (.invokevirtual 257, 3) := by decide +kernel
theorem dX5_makesOf_37 : decode cX5_makesOf 37 = .ok (.istore 4, 2) := by decide +kernel
theorem dX5_makesOf_39 : decode cX5_makesOf 39 = .ok (.aload_n 0, 1) := by decide +kernel
theorem dX5_makesOf_40 : decode cX5_makesOf 40 = .ok (.iload_n 1, 1) := by decide +kernel
theorem dX5_makesOf_41 : decode cX5_makesOf 41 = .ok (.invokevirtual 120, 3) := by decide +kernel
theorem dX5_makesOf_44 : decode cX5_makesOf 44 = .ok (.iconst 1, 1) := by decide +kernel
theorem dX5_makesOf_45 : decode cX5_makesOf 45 = .ok (.iload_n 2, 1) := by decide +kernel
theorem dX5_makesOf_46 : decode cX5_makesOf 46 = .ok (.ishl, 1) := by decide +kernel
theorem dX5_makesOf_47 : decode cX5_makesOf 47 = .ok (.iconst (-1), 1) := by decide +kernel
theorem dX5_makesOf_48 : decode cX5_makesOf 48 = .ok (.ixor, 1) := by decide +kernel
theorem dX5_makesOf_49 : decode cX5_makesOf 49 = .ok (.iand, 1) := by decide +kernel
theorem dX5_makesOf_50 : decode cX5_makesOf 50 = .ok (.invokestatic 260, 3) := by decide +kernel
theorem dX5_makesOf_53 : decode cX5_makesOf 53 = .ok (.istore 5, 2) := by decide +kernel
theorem dX5_makesOf_55 : decode cX5_makesOf 55 = .ok (.iload_n 2, 1) := by decide +kernel
theorem dX5_makesOf_56 : decode cX5_makesOf 56 = .ok (.invokestatic 254, 3) := by decide +kernel
theorem dX5_makesOf_59 : decode cX5_makesOf 59 = .ok (.ifCond .eq 17, 3) := by decide +kernel
theorem dX5_makesOf_62 : decode cX5_makesOf 62 = .ok (.iload 4, 2) := by decide +kernel
theorem dX5_makesOf_64 : decode cX5_makesOf 64 = .ok (.aload_n 0, 1) := by decide +kernel
theorem dX5_makesOf_65 : decode cX5_makesOf 65 = .ok (.getfield 32, 3) := by decide +kernel
theorem dX5_makesOf_68 : decode cX5_makesOf 68 = .ok (.iconst 4, 1) := by decide +kernel
theorem dX5_makesOf_69 : decode cX5_makesOf 69 = .ok (.iload_n 1, 1) := by decide +kernel
theorem dX5_makesOf_70 : decode cX5_makesOf 70 = .ok (.imul, 1) := by decide +kernel
theorem dX5_makesOf_71 : decode cX5_makesOf 71 = .ok (.iaload, 1) := by decide +kernel
theorem dX5_makesOf_72 : decode cX5_makesOf 72 = .ok (.iadd, 1) := by decide +kernel
theorem dX5_makesOf_73 : decode cX5_makesOf 73 = .ok (.goto 5, 3) := by decide +kernel
theorem dX5_makesOf_76 : decode cX5_makesOf 76 = .ok (.iload 4, 2) := by decide +kernel
theorem dX5_makesOf_78 : decode cX5_makesOf 78 = .ok (.iconst 0, 1) := by decide +kernel
theorem dX5_makesOf_79 : decode cX5_makesOf 79 = .ok (.bipush 99, 2) := by decide +kernel
theorem dX5_makesOf_81 : decode cX5_makesOf 81 = .ok (.invokestatic 250, 3) := by decide +kernel
theorem dX5_makesOf_84 : decode cX5_makesOf 84 = .ok (.istore 6, 2) := by decide +kernel
theorem dX5_makesOf_86 : decode cX5_makesOf 86 = .ok (.iload 5, 2) := by decide +kernel
theorem dX5_makesOf_88 : decode cX5_makesOf 88 = .ok (.ifCond .ne 10, 3) := by decide +kernel
theorem dX5_makesOf_91 : decode cX5_makesOf 91 = .ok (.iload 4, 2) := by decide +kernel
theorem dX5_makesOf_93 : decode cX5_makesOf 93 = .ok (.iconst 2, 1) := by decide +kernel
theorem dX5_makesOf_94 : decode cX5_makesOf 94 = .ok (.idiv, 1) := by decide +kernel
theorem dX5_makesOf_95 : decode cX5_makesOf 95 = .ok (.goto 5, 3) := by decide +kernel
theorem dX5_makesOf_98 : decode cX5_makesOf 98 = .ok (.iload 4, 2) := by decide +kernel
theorem dX5_makesOf_100 : decode cX5_makesOf 100 = .ok (.istore 7, 2) := by decide +kernel
theorem dX5_makesOf_102 : decode cX5_makesOf 102 = .ok (.iload_n 3, 1) := by decide +kernel
theorem dX5_makesOf_103 : decode cX5_makesOf 103 = .ok (.iconst 1, 1) := by decide +kernel
theorem dX5_makesOf_104 : decode cX5_makesOf 104 = .ok (.if_icmp .ne 8, 3) := by decide +kernel
theorem dX5_makesOf_107 : decode cX5_makesOf 107 = .ok (.iload 6, 2) := by decide +kernel
theorem dX5_makesOf_109 : decode cX5_makesOf 109 = .ok (.goto 41, 3) := by decide +kernel
theorem dX5_makesOf_112 : decode cX5_makesOf 112 = .ok (.iload_n 3, 1) := by decide +kernel
theorem dX5_makesOf_113 : decode cX5_makesOf 113 = .ok (.iconst 3, 1) := by decide +kernel
theorem dX5_makesOf_114 : decode cX5_makesOf 114 = .ok (.if_icmp .ne 11, 3) := by decide +kernel
theorem dX5_makesOf_117 : decode cX5_makesOf 117 = .ok (.iload 6, 2) := by decide +kernel
theorem dX5_makesOf_119 : decode cX5_makesOf 119 = .ok (.iload 5, 2) := by decide +kernel
theorem dX5_makesOf_121 : decode cX5_makesOf 121 = .ok (.iadd, 1) := by decide +kernel
theorem dX5_makesOf_122 : decode cX5_makesOf 122 = .ok (.goto 28, 3) := by decide +kernel
theorem dX5_makesOf_125 : decode cX5_makesOf 125 = .ok (.iload_n 3, 1) := by decide +kernel
theorem dX5_makesOf_126 : decode cX5_makesOf 126 = .ok (.iconst 2, 1) := by decide +kernel
theorem dX5_makesOf_127 : decode cX5_makesOf 127 = .ok (.if_icmp .ne 8, 3) := by decide +kernel
theorem dX5_makesOf_130 : decode cX5_makesOf 130 = .ok (.iload 7, 2) := by decide +kernel
theorem dX5_makesOf_132 : decode cX5_makesOf 132 = .ok (.goto 18, 3) := by decide +kernel
theorem dX5_makesOf_135 : decode cX5_makesOf 135 = .ok (.iload_n 3, 1) := by decide +kernel
theorem dX5_makesOf_136 : decode cX5_makesOf 136 = .ok (.iconst 4, 1) := by decide +kernel
theorem dX5_makesOf_137 : decode cX5_makesOf 137 = .ok (.if_icmp .ne 11, 3) := by decide +kernel
theorem dX5_makesOf_140 : decode cX5_makesOf 140 = .ok (.iload 7, 2) := by decide +kernel
theorem dX5_makesOf_142 : decode cX5_makesOf 142 = .ok (.bipush 10, 2) := by decide +kernel
theorem dX5_makesOf_144 : decode cX5_makesOf 144 = .ok (.iadd, 1) := by decide +kernel
theorem dX5_makesOf_145 : decode cX5_makesOf 145 = .ok (.goto 5, 3) := by decide +kernel
theorem dX5_makesOf_148 : decode cX5_makesOf 148 = .ok (.iload 4, 2) := by decide +kernel
theorem dX5_makesOf_150 : decode cX5_makesOf 150 = .ok (.iconst 0, 1) := by decide +kernel
theorem dX5_makesOf_151 : decode cX5_makesOf 151 = .ok (.bipush 99, 2) := by decide +kernel
theorem dX5_makesOf_153 : decode cX5_makesOf 153 = .ok (.invokestatic 250, 3) := by decide +kernel
theorem dX5_makesOf_156 : decode cX5_makesOf 156 = .ok (.ireturn, 1) := by decide +kernel
theorem dX5_mendsOf_0 : decode cX5_mendsOf 0 = .ok (.aload_n 0, 1) := by decide +kernel
theorem dX5_mendsOf_1 : decode cX5_mendsOf 1 = .ok (.getfield 32, 3) := by decide +kernel
theorem dX5_mendsOf_4 : decode cX5_mendsOf 4 = .ok (.iconst 4, 1) := by decide +kernel
theorem dX5_mendsOf_5 : decode cX5_mendsOf 5 = .ok (.iload_n 1, 1) := by decide +kernel
theorem dX5_mendsOf_6 : decode cX5_mendsOf 6 = .ok (.imul, 1) := by decide +kernel
theorem dX5_mendsOf_7 : decode cX5_mendsOf 7 = .ok (.iconst 2, 1) := by decide +kernel
theorem dX5_mendsOf_8 : decode cX5_mendsOf 8 = .ok (.iadd, 1) := by decide +kernel
theorem dX5_mendsOf_9 : decode cX5_mendsOf 9 = .ok (.iaload, 1) := by decide +kernel
theorem dX5_mendsOf_10 : decode cX5_mendsOf 10 = .ok (.istore_n 3, 1) := by decide +kernel
theorem dX5_mendsOf_11 : decode cX5_mendsOf 11 = .ok (.iload_n 3, 1) := by decide +kernel
theorem dX5_mendsOf_12 : decode cX5_mendsOf 12 = .ok (.iconst 5, 1) := by decide +kernel
theorem dX5_mendsOf_13 : decode cX5_mendsOf 13 = .ok (.if_icmp .eq 19, 3) := by decide +kernel
theorem dX5_mendsOf_16 : decode cX5_mendsOf 16 = .ok (.iload_n 3, 1) := by decide +kernel
theorem dX5_mendsOf_17 : decode cX5_mendsOf 17 = .ok (.iconst 4, 1) := by decide +kernel
theorem dX5_mendsOf_18 : decode cX5_mendsOf 18 = .ok (.if_icmp .ne 16, 3) := by decide +kernel
theorem dX5_mendsOf_21 : decode cX5_mendsOf 21 = .ok (.aload_n 0, 1) := by decide +kernel
theorem dX5_mendsOf_22 : decode cX5_mendsOf 22 = .ok (.getfield 29, 3) := by decide +kernel
theorem dX5_mendsOf_25 : decode cX5_mendsOf 25 = .ok (.iload_n 2, 1) := by decide +kernel
theorem dX5_mendsOf_26 : decode cX5_mendsOf 26 = .ok (.iaload, 1) := by decide +kernel
theorem dX5_mendsOf_27 : decode cX5_mendsOf 27 = .ok (.bipush 49, 2) := by decide +kernel
theorem dX5_mendsOf_29 : decode cX5_mendsOf 29 = .ok (.if_icmp .le 5, 3) := by decide +kernel
theorem dX5_mendsOf_32 : decode cX5_mendsOf 32 = .ok (.iconst 0, 1) := by decide +kernel
theorem dX5_mendsOf_33 : decode cX5_mendsOf 33 = .ok (.ireturn, 1) := by decide +kernel
theorem dX5_mendsOf_34 : decode cX5_mendsOf 34 = .ok (.aload_n 0, 1) := by decide +kernel
theorem dX5_mendsOf_35 : decode cX5_mendsOf 35 = .ok (.iconst 1, 1) := by decide +kernel
theorem dX5_mendsOf_36 : decode cX5_mendsOf 36 = .ok (.iload_n 1, 1) := by decide +kernel
theorem dX5_mendsOf_37 : decode cX5_mendsOf 37 = .ok (.iload_n 2, 1) := by decide +kernel
theorem dX5_mendsOf_38 : decode cX5_mendsOf 38 = .ok (.invokevirtual 257, 3) := by decide +kernel
theorem dX5_mendsOf_41 : decode cX5_mendsOf 41 = .ok (.istore 4, 2) := by decide +kernel
theorem dX5_mendsOf_43 : decode cX5_mendsOf 43 = .ok (.iload_n 2, 1) := by decide +kernel
theorem dX5_mendsOf_44 : decode cX5_mendsOf 44 = .ok (.invokestatic 254, 3) := by decide +kernel
theorem dX5_mendsOf_47 : decode cX5_mendsOf 47 = .ok (.ifCond .eq 10, 3) := by decide +kernel
theorem dX5_mendsOf_50 : decode cX5_mendsOf 50 = .ok (.iconst 2, 1) := by decide +kernel
theorem dX5_mendsOf_51 : decode cX5_mendsOf 51 = .ok (.iload 4, 2) := by decide +kernel
theorem dX5_mendsOf_53 : decode cX5_mendsOf 53 = .ok (.imul, 1) := by decide +kernel
theorem dX5_mendsOf_54 : decode cX5_mendsOf 54 = .ok (.goto 5, 3) := by decide +kernel
theorem dX5_mendsOf_57 : decode cX5_mendsOf 57 = .ok (.iload 4, 2) := by decide +kernel
theorem dX5_mendsOf_59 : decode cX5_mendsOf 59 = .ok (.iconst 0, 1) := by decide +kernel
theorem dX5_mendsOf_60 : decode cX5_mendsOf 60 = .ok (.bipush 99, 2) := by decide +kernel
theorem dX5_mendsOf_62 : decode cX5_mendsOf 62 = .ok (.invokestatic 250, 3) := by decide +kernel
theorem dX5_mendsOf_65 : decode cX5_mendsOf 65 = .ok (.istore 5, 2) := by decide +kernel
theorem dX5_mendsOf_67 : decode cX5_mendsOf 67 = .ok (.iload_n 3, 1) := by decide +kernel
theorem dX5_mendsOf_68 : decode cX5_mendsOf 68 = .ok (.iconst 1, 1) := by decide +kernel
theorem dX5_mendsOf_69 : decode cX5_mendsOf 69 = .ok (.if_icmp .ne 8, 3) := by decide +kernel
theorem dX5_mendsOf_72 : decode cX5_mendsOf 72 = .ok (.iload 5, 2) := by decide +kernel
theorem dX5_mendsOf_74 : decode cX5_mendsOf 74 = .ok (.goto 17, 3) := by decide +kernel
theorem dX5_mendsOf_77 : decode cX5_mendsOf 77 = .ok (.iload_n 3, 1) := by decide +kernel
theorem dX5_mendsOf_78 : decode cX5_mendsOf 78 = .ok (.iconst 3, 1) := by decide +kernel
theorem dX5_mendsOf_79 : decode cX5_mendsOf 79 = .ok (.if_icmp .ne 10, 3) := by decide +kernel
theorem dX5_mendsOf_82 : decode cX5_mendsOf 82 = .ok (.iload 5, 2) := by decide +kernel
theorem dX5_mendsOf_84 : decode cX5_mendsOf 84 = .ok (.iconst 1, 1) := by decide +kernel
theorem dX5_mendsOf_85 : decode cX5_mendsOf 85 = .ok (.iadd, 1) := by decide +kernel
theorem dX5_mendsOf_86 : decode cX5_mendsOf 86 = .ok (.goto 5, 3) := by decide +kernel
theorem dX5_mendsOf_89 : decode cX5_mendsOf 89 = .ok (.iload 4, 2) := by decide +kernel
theorem dX5_mendsOf_91 : decode cX5_mendsOf 91 = .ok (.iconst 0, 1) := by decide +kernel
theorem dX5_mendsOf_92 : decode cX5_mendsOf 92 = .ok (.bipush 99, 2) := by decide +kernel
theorem dX5_mendsOf_94 : decode cX5_mendsOf 94 = .ok (.invokestatic 250, 3) := by decide +kernel
theorem dX5_mendsOf_97 : decode cX5_mendsOf 97 = .ok (.ireturn, 1) := by decide +kernel
theorem dX5_pumpsOf_0 : decode cX5_pumpsOf 0 = .ok (.aload_n 0, 1) := by decide +kernel
theorem dX5_pumpsOf_1 : decode cX5_pumpsOf 1 = .ok (.getfield 32, 3) := by decide +kernel
theorem dX5_pumpsOf_4 : decode cX5_pumpsOf 4 = .ok (.iconst 4, 1) := by decide +kernel
theorem dX5_pumpsOf_5 : decode cX5_pumpsOf 5 = .ok (.iload_n 1, 1) := by decide +kernel
theorem dX5_pumpsOf_6 : decode cX5_pumpsOf 6 = .ok (.imul, 1) := by decide +kernel
theorem dX5_pumpsOf_7 : decode cX5_pumpsOf 7 = .ok (.iconst 2, 1) := by decide +kernel
theorem dX5_pumpsOf_8 : decode cX5_pumpsOf 8 = .ok (.iadd, 1) := by decide +kernel
theorem dX5_pumpsOf_9 : decode cX5_pumpsOf 9 = .ok (.iaload, 1) := by decide +kernel
theorem dX5_pumpsOf_10 : decode cX5_pumpsOf 10 = .ok (.istore_n 2, 1) := by decide +kernel
theorem dX5_pumpsOf_11 : decode cX5_pumpsOf 11 = .ok (.iload_n 2, 1) := by decide +kernel
theorem dX5_pumpsOf_12 : decode cX5_pumpsOf 12 = .ok (.iconst 5, 1) := by decide +kernel
theorem dX5_pumpsOf_13 : decode cX5_pumpsOf 13 = .ok (.if_icmp .eq 17, 3) := by decide +kernel
theorem dX5_pumpsOf_16 : decode cX5_pumpsOf 16 = .ok (.iload_n 2, 1) := by decide +kernel
theorem dX5_pumpsOf_17 : decode cX5_pumpsOf 17 = .ok (.iconst 4, 1) := by decide +kernel
theorem dX5_pumpsOf_18 : decode cX5_pumpsOf 18 = .ok (.if_icmp .ne 30, 3) := by decide +kernel
theorem dX5_pumpsOf_21 : decode cX5_pumpsOf 21 = .ok (.aload_n 0, 1) := by decide +kernel
theorem dX5_pumpsOf_22 : decode cX5_pumpsOf 22 = .ok (.getfield 110, 3) := by decide +kernel
theorem dX5_pumpsOf_25 : decode cX5_pumpsOf 25 = .ok (.bipush 30, 2) := by decide +kernel
theorem dX5_pumpsOf_27 : decode cX5_pumpsOf 27 = .ok (.if_icmp .ge 21, 3) := by decide +kernel
theorem dX5_pumpsOf_30 : decode cX5_pumpsOf 30 = .ok (.iload_n 2, 1) := by decide +kernel
theorem dX5_pumpsOf_31 : decode cX5_pumpsOf 31 = .ok (.iconst 5, 1) := by decide +kernel
theorem dX5_pumpsOf_32 : decode cX5_pumpsOf 32 = .ok (.if_icmp .ne 14, 3) := by decide +kernel
theorem dX5_pumpsOf_35 : decode cX5_pumpsOf 35 = .ok (.aload_n 0, 1) := by decide +kernel
theorem dX5_pumpsOf_36 : decode cX5_pumpsOf 36 = .ok (.getfield 32, 3) := by decide +kernel
theorem dX5_pumpsOf_39 : decode cX5_pumpsOf 39 = .ok (.iconst 4, 1) := by decide +kernel
theorem dX5_pumpsOf_40 : decode cX5_pumpsOf 40 = .ok (.iload_n 1, 1) := by decide +kernel
theorem dX5_pumpsOf_41 : decode cX5_pumpsOf 41 = .ok (.imul, 1) := by decide +kernel
theorem dX5_pumpsOf_42 : decode cX5_pumpsOf 42 = .ok (.iaload, 1) := by decide +kernel
theorem dX5_pumpsOf_43 : decode cX5_pumpsOf 43 = .ok (.goto 4, 3) := by decide +kernel
theorem dX5_pumpsOf_46 : decode cX5_pumpsOf 46 = .ok (.iconst 0, 1) := by decide +kernel
theorem dX5_pumpsOf_47 : decode cX5_pumpsOf 47 = .ok (.ireturn, 1) := by decide +kernel
theorem dX5_pumpsOf_48 : decode cX5_pumpsOf 48 = .ok (.aload_n 0, 1) := by decide +kernel
theorem dX5_pumpsOf_49 : decode cX5_pumpsOf 49 = .ok (.iconst 2, 1) := by decide +kernel
theorem dX5_pumpsOf_50 : decode cX5_pumpsOf 50 = .ok (.iload_n 1, 1) := by decide +kernel
theorem dX5_pumpsOf_51 : decode cX5_pumpsOf 51 = .ok (.iconst (-1), 1) := by decide +kernel
theorem dX5_pumpsOf_52 : decode cX5_pumpsOf 52 = .ok (.invokevirtual 257, 3) := by decide +kernel
theorem dX5_pumpsOf_55 : decode cX5_pumpsOf 55 = .ok (.istore_n 3, 1) := by decide +kernel
theorem dX5_pumpsOf_56 : decode cX5_pumpsOf 56 = .ok (.aload_n 0, 1) := by decide +kernel
theorem dX5_pumpsOf_57 : decode cX5_pumpsOf 57 = .ok (.iconst 1, 1) := by decide +kernel
theorem dX5_pumpsOf_58 : decode cX5_pumpsOf 58 = .ok (.invokevirtual 263, 3) := by decide +kernel
theorem dX5_pumpsOf_61 : decode cX5_pumpsOf 61 = .ok (.iconst 1, 1) := by decide +kernel
theorem dX5_pumpsOf_62 : decode cX5_pumpsOf 62 = .ok (.iload_n 1, 1) := by decide +kernel
theorem dX5_pumpsOf_63 : decode cX5_pumpsOf 63 = .ok (.ishl, 1) := by decide +kernel
theorem dX5_pumpsOf_64 : decode cX5_pumpsOf 64 = .ok (.iconst (-1), 1) := by decide +kernel
theorem dX5_pumpsOf_65 : decode cX5_pumpsOf 65 = .ok (.ixor, 1) := by decide +kernel
theorem dX5_pumpsOf_66 : decode cX5_pumpsOf 66 = .ok (.iand, 1) := by decide +kernel
theorem dX5_pumpsOf_67 : decode cX5_pumpsOf 67 = .ok (.invokestatic 260, 3) := by decide +kernel
theorem dX5_pumpsOf_70 : decode cX5_pumpsOf 70 = .ok (.istore 4, 2) := by decide +kernel
theorem dX5_pumpsOf_72 : decode cX5_pumpsOf 72 = .ok (.iload_n 2, 1) := by decide +kernel
theorem dX5_pumpsOf_73 : decode cX5_pumpsOf 73 = .ok (.iconst 1, 1) := by decide +kernel
theorem dX5_pumpsOf_74 : decode cX5_pumpsOf 74 = .ok (.if_icmp .eq 8, 3) := by decide +kernel
theorem dX5_pumpsOf_77 : decode cX5_pumpsOf 77 = .ok (.iload_n 2, 1) := by decide +kernel
theorem dX5_pumpsOf_78 : decode cX5_pumpsOf 78 = .ok (.iconst 3, 1) := by decide +kernel
theorem dX5_pumpsOf_79 : decode cX5_pumpsOf 79 = .ok (.if_icmp .ne 9, 3) := by decide +kernel
theorem dX5_pumpsOf_82 : decode cX5_pumpsOf 82 = .ok (.iload_n 3, 1) := by decide +kernel
theorem dX5_pumpsOf_83 : decode cX5_pumpsOf 83 = .ok (.iconst 2, 1) := by decide +kernel
theorem dX5_pumpsOf_84 : decode cX5_pumpsOf 84 = .ok (.idiv, 1) := by decide +kernel
theorem dX5_pumpsOf_85 : decode cX5_pumpsOf 85 = .ok (.goto 21, 3) := by decide +kernel
theorem dX5_pumpsOf_88 : decode cX5_pumpsOf 88 = .ok (.iload_n 2, 1) := by decide +kernel
theorem dX5_pumpsOf_89 : decode cX5_pumpsOf 89 = .ok (.iconst 2, 1) := by decide +kernel
theorem dX5_pumpsOf_90 : decode cX5_pumpsOf 90 = .ok (.if_icmp .eq 8, 3) := by decide +kernel
theorem dX5_pumpsOf_93 : decode cX5_pumpsOf 93 = .ok (.iload_n 2, 1) := by decide +kernel
theorem dX5_pumpsOf_94 : decode cX5_pumpsOf 94 = .ok (.iconst 4, 1) := by decide +kernel
theorem dX5_pumpsOf_95 : decode cX5_pumpsOf 95 = .ok (.if_icmp .ne 10, 3) := by decide +kernel
theorem dX5_pumpsOf_98 : decode cX5_pumpsOf 98 = .ok (.iload_n 3, 1) := by decide +kernel
theorem dX5_pumpsOf_99 : decode cX5_pumpsOf 99 = .ok (.iload 4, 2) := by decide +kernel
theorem dX5_pumpsOf_101 : decode cX5_pumpsOf 101 = .ok (.iadd, 1) := by decide +kernel
theorem dX5_pumpsOf_102 : decode cX5_pumpsOf 102 = .ok (.goto 4, 3) := by decide +kernel
theorem dX5_pumpsOf_105 : decode cX5_pumpsOf 105 = .ok (.iload_n 3, 1) := by decide +kernel
theorem dX5_pumpsOf_106 : decode cX5_pumpsOf 106 = .ok (.iconst 0, 1) := by decide +kernel
theorem dX5_pumpsOf_107 : decode cX5_pumpsOf 107 = .ok (.bipush 99, 2) := by decide +kernel
theorem dX5_pumpsOf_109 : decode cX5_pumpsOf 109 = .ok (.invokestatic 250, 3) := by decide +kernel
theorem dX5_pumpsOf_112 : decode cX5_pumpsOf 112 = .ok (.ireturn, 1) := by decide +kernel
theorem dX5_asks_0 : decode cX5_asks 0 = .ok (.aload_n 0, 1) := by decide +kernel
theorem dX5_asks_1 : decode cX5_asks 1 = .ok (.iload_n 1, 1) := by decide +kernel
theorem dX5_asks_2 : decode cX5_asks 2 = .ok (.invokevirtual 86, 3) := by decide +kernel
theorem dX5_asks_5 : decode cX5_asks 5 = .ok (.ifCond .eq 20, 3) := by decide +kernel
theorem dX5_asks_8 : decode cX5_asks 8 = .ok (.iload_n 2, 1) := by decide +kernel
theorem dX5_asks_9 : decode cX5_asks 9 = .ok (.invokestatic 82, 3) := by decide +kernel
theorem dX5_asks_12 : decode cX5_asks 12 = .ok (.ifCond .eq 13, 3) := by decide +kernel
theorem dX5_asks_15 : decode cX5_asks 15 = .ok (.iload_n 3, 1) := by decide +kernel
theorem dX5_asks_16 : decode cX5_asks 16 = .ok (.i2l, 1) := by decide +kernel
theorem dX5_asks_17 : decode cX5_asks 17 = .ok (.lconst 0, 1) := by decide +kernel
theorem dX5_asks_18 : decode cX5_asks 18 = .ok (.lconst 1, 1) := by decide +kernel
theorem dX5_asks_19 : decode cX5_asks 19 = .ok (.invokestatic 76, 3) := by decide +kernel
theorem dX5_asks_22 : decode cX5_asks 22 = .ok (.ifCond .ne 6, 3) := by decide +kernel
theorem dX5_asks_25 : decode cX5_asks 25 = .ok (.bipush (-2), 2) := by decide +kernel
theorem dX5_asks_27 : decode cX5_asks 27 = .ok (.ireturn, 1) := by decide +kernel
theorem dX5_asks_28 : decode cX5_asks 28 = .ok (.iload_n 3, 1) := by decide +kernel
theorem dX5_asks_29 : decode cX5_asks 29 = .ok (.ifCond .ne 12, 3) := by decide +kernel
theorem dX5_asks_32 : decode cX5_asks 32 = .ok (.aload_n 0, 1) := by decide +kernel
theorem dX5_asks_33 : decode cX5_asks 33 = .ok (.iload_n 1, 1) := by decide +kernel
theorem dX5_asks_34 : decode cX5_asks 34 = .ok (.iload_n 2, 1) := by decide +kernel
theorem dX5_asks_35 : decode cX5_asks 35 = .ok (.invokevirtual 266, 3) := by decide +kernel
theorem dX5_asks_38 : decode cX5_asks 38 = .ok (.goto 9, 3) := by decide +kernel
theorem dX5_asks_41 : decode cX5_asks 41 = .ok (.aload_n 0, 1) := by decide +kernel
theorem dX5_asks_42 : decode cX5_asks 42 = .ok (.iload_n 1, 1) := by decide +kernel
theorem dX5_asks_43 : decode cX5_asks 43 = .ok (.iload_n 2, 1) := by decide +kernel
theorem dX5_asks_44 : decode cX5_asks 44 = .ok (.invokevirtual 269, 3) := by decide +kernel
theorem dX5_asks_47 : decode cX5_asks 47 = .ok (.ireturn, 1) := by decide +kernel
theorem dX5_built_0 : decode cX5_built 0 = .ok (.aload_n 0, 1) := by decide +kernel
theorem dX5_built_1 : decode cX5_built 1 = .ok (.iload_n 1, 1) := by decide +kernel
theorem dX5_built_2 : decode cX5_built 2 = .ok (.iload_n 2, 1) := by decide +kernel
theorem dX5_built_3 : decode cX5_built 3 = .ok (.invokevirtual 266, 3) := by decide +kernel
theorem dX5_built_6 : decode cX5_built 6 = .ok (.istore_n 3, 1) := by decide +kernel
theorem dX5_built_7 : decode cX5_built 7 = .ok (.aload_n 0, 1) := by decide +kernel
theorem dX5_built_8 : decode cX5_built 8 = .ok (.getfield 26, 3) := by decide +kernel
theorem dX5_built_11 : decode cX5_built 11 = .ok (.iload_n 2, 1) := by decide +kernel
theorem dX5_built_12 : decode cX5_built 12 = .ok (.iload_n 1, 1) := by decide +kernel
theorem dX5_built_13 : decode cX5_built 13 = .ok (.iastore, 1) := by decide +kernel
theorem dX5_built_14 : decode cX5_built 14 = .ok (.aload_n 0, 1) := by decide +kernel
theorem dX5_built_15 : decode cX5_built 15 = .ok (.getfield 29, 3) := by decide +kernel
theorem dX5_built_18 : decode cX5_built 18 = .ok (.iload_n 2, 1) := by decide +kernel
theorem dX5_built_19 : decode cX5_built 19 = .ok (.iload_n 3, 1) := by decide +kernel
theorem dX5_built_20 : decode cX5_built 20 = .ok (.iastore, 1) := by decide +kernel
theorem dX5_built_21 : decode cX5_built 21 = .ok (.iload_n 3, 1) := by decide +kernel
theorem dX5_built_22 : decode cX5_built 22 = .ok (.ireturn, 1) := by decide +kernel
theorem dX5_builds_0 : decode cX5_builds 0 = .ok (.aload_n 0, 1) := by decide +kernel
theorem dX5_builds_1 : decode cX5_builds 1 = .ok (.iload_n 1, 1) := by decide +kernel
theorem dX5_builds_2 : decode cX5_builds 2 = .ok (.invokevirtual 86, 3) := by decide +kernel
theorem dX5_builds_5 : decode cX5_builds 5 = .ok (.ifCond .eq 10, 3) := by decide +kernel
theorem dX5_builds_8 : decode cX5_builds 8 = .ok (.iload_n 2, 1) := by decide +kernel
theorem dX5_builds_9 : decode cX5_builds 9 = .ok (.invokestatic 82, 3) := by decide +kernel
theorem dX5_builds_12 : decode cX5_builds 12 = .ok (.ifCond .ne 6, 3) := by decide +kernel
theorem dX5_builds_15 : decode cX5_builds 15 = .ok (.bipush (-2), 2) := by decide +kernel
theorem dX5_builds_17 : decode cX5_builds 17 = .ok (.ireturn, 1) := by decide +kernel
theorem dX5_builds_18 : decode cX5_builds 18 = .ok (.aload_n 0, 1) := by decide +kernel
theorem dX5_builds_19 : decode cX5_builds 19 = .ok (.iload_n 1, 1) := by decide +kernel
theorem dX5_builds_20 : decode cX5_builds 20 = .ok (.iconst 0, 1) := by decide +kernel
theorem dX5_builds_21 : decode cX5_builds 21 = .ok (.invokevirtual 129, 3) := by decide +kernel
theorem dX5_builds_24 : decode cX5_builds 24 = .ok (.ifCond .eq 12, 3) := by decide +kernel
theorem dX5_builds_27 : decode cX5_builds 27 = .ok (.aload_n 0, 1) := by decide +kernel
theorem dX5_builds_28 : decode cX5_builds 28 = .ok (.iload_n 1, 1) := by decide +kernel
theorem dX5_builds_29 : decode cX5_builds 29 = .ok (.iload_n 2, 1) := by decide +kernel
theorem dX5_builds_30 : decode cX5_builds 30 = .ok (.invokevirtual 272, 3) := by decide +kernel
theorem dX5_builds_33 : decode cX5_builds 33 = .ok (.goto 5, 3) := by decide +kernel
theorem dX5_builds_36 : decode cX5_builds 36 = .ok (.bipush (-3), 2) := by decide +kernel
theorem dX5_builds_38 : decode cX5_builds 38 = .ok (.ireturn, 1) := by decide +kernel
theorem dX5_binds_0 : decode cX5_binds 0 = .ok (.iconst 0, 1) := by decide +kernel
theorem dX5_binds_1 : decode cX5_binds 1 = .ok (.istore_n 1, 1) := by decide +kernel
theorem dX5_binds_2 : decode cX5_binds 2 = .ok (.iload_n 1, 1) := by decide +kernel
theorem dX5_binds_3 : decode cX5_binds 3 = .ok (.aload_n 0, 1) := by decide +kernel
theorem dX5_binds_4 : decode cX5_binds 4 = .ok (.getfield 73, 3) := by decide +kernel
theorem dX5_binds_7 : decode cX5_binds 7 = .ok (.if_icmp .ge 50, 3) := by decide +kernel
theorem dX5_binds_10 : decode cX5_binds 10 = .ok (.aload_n 0, 1) := by decide +kernel
theorem dX5_binds_11 : decode cX5_binds 11 = .ok (.getfield 32, 3) := by decide +kernel
theorem dX5_binds_14 : decode cX5_binds 14 = .ok (.iconst 4, 1) := by decide +kernel
theorem dX5_binds_15 : decode cX5_binds 15 = .ok (.iload_n 1, 1) := by decide +kernel
theorem dX5_binds_16 : decode cX5_binds 16 = .ok (.imul, 1) := by decide +kernel
theorem dX5_binds_17 : decode cX5_binds 17 = .ok (.iconst 3, 1) := by decide +kernel
theorem dX5_binds_18 : decode cX5_binds 18 = .ok (.iadd, 1) := by decide +kernel
theorem dX5_binds_19 : decode cX5_binds 19 = .ok (.aload_n 0, 1) := by decide +kernel
theorem dX5_binds_20 : decode cX5_binds 20 = .ok (.iload_n 1, 1) := by decide +kernel
theorem dX5_binds_21 : decode cX5_binds 21 = .ok (.iconst 0, 1) := by decide +kernel
theorem dX5_binds_22 : decode cX5_binds 22 = .ok (.invokevirtual 129, 3) := by decide +kernel
theorem dX5_binds_25 : decode cX5_binds 25 = .ok (.ifCond .eq 15, 3) := by decide +kernel
theorem dX5_binds_28 : decode cX5_binds 28 = .ok (.aload_n 0, 1) := by decide +kernel
theorem dX5_binds_29 : decode cX5_binds 29 = .ok (.iload_n 1, 1) := by decide +kernel
theorem dX5_binds_30 : decode cX5_binds 30 = .ok (.invokevirtual 120, 3) := by decide +kernel
theorem dX5_binds_33 : decode cX5_binds 33 = .ok (.ifCond .eq 7, 3) := by decide +kernel
theorem dX5_binds_36 : decode cX5_binds 36 = .ok (.iconst 1, 1) := by decide +kernel
theorem dX5_binds_37 : decode cX5_binds 37 = .ok (.goto 13, 3) := by decide +kernel
theorem dX5_binds_40 : decode cX5_binds 40 = .ok (.aload_n 0, 1) := by decide +kernel
theorem dX5_binds_41 : decode cX5_binds 41 = .ok (.getfield 32, 3) := by decide +kernel
theorem dX5_binds_44 : decode cX5_binds 44 = .ok (.iconst 4, 1) := by decide +kernel
theorem dX5_binds_45 : decode cX5_binds 45 = .ok (.iload_n 1, 1) := by decide +kernel
theorem dX5_binds_46 : decode cX5_binds 46 = .ok (.imul, 1) := by decide +kernel
theorem dX5_binds_47 : decode cX5_binds 47 = .ok (.iconst 3, 1) := by decide +kernel
theorem dX5_binds_48 : decode cX5_binds 48 = .ok (.iadd, 1) := by decide +kernel
theorem dX5_binds_49 : decode cX5_binds 49 = .ok (.iaload, 1) := by decide +kernel
theorem dX5_binds_50 : decode cX5_binds 50 = .ok (.iastore, 1) := by decide +kernel
theorem dX5_binds_51 : decode cX5_binds 51 = .ok (.iinc 1 1, 3) := by decide +kernel
theorem dX5_binds_54 : decode cX5_binds 54 = .ok (.goto (-52), 3) := by decide +kernel
theorem dX5_binds_57 : decode cX5_binds 57 = .ok (.return_, 1) := by decide +kernel
theorem dX5_bound_0 : decode cX5_bound 0 = .ok (.aload_n 0, 1) := by decide +kernel
theorem dX5_bound_1 : decode cX5_bound 1 = .ok (.invokevirtual 275, 3) := by decide +kernel
theorem dX5_bound_4 : decode cX5_bound 4 = .ok (.aload_n 0, 1) := by decide +kernel
theorem dX5_bound_5 : decode cX5_bound 5 = .ok (.iconst 1, 1) := by decide +kernel
theorem dX5_bound_6 : decode cX5_bound 6 = .ok (.invokevirtual 263, 3) := by decide +kernel
theorem dX5_bound_9 : decode cX5_bound 9 = .ok (.ireturn, 1) := by decide +kernel
theorem dX5_home_0 : decode cX5_home 0 = .ok (.aload_n 0, 1) := by decide +kernel
theorem dX5_home_1 : decode cX5_home 1 = .ok (.getfield 110, 3) := by decide +kernel
theorem dX5_home_4 : decode cX5_home 4 = .ok (.bipush 100, 2) := by decide +kernel
theorem dX5_home_6 : decode cX5_home 6 = .ok (.if_icmp .ne 6, 3) := by decide +kernel
theorem dX5_home_9 : decode cX5_home 9 = .ok (.bipush (-3), 2) := by decide +kernel
theorem dX5_home_11 : decode cX5_home 11 = .ok (.ireturn, 1) := by decide +kernel
theorem dX5_home_12 : decode cX5_home 12 = .ok (.aload_n 0, 1) := by decide +kernel
theorem dX5_home_13 : decode cX5_home 13 = .ok (.iconst 1, 1) := by decide +kernel
theorem dX5_home_14 : decode cX5_home 14 = .ok (.invokevirtual 263, 3) := by decide +kernel
theorem dX5_home_17 : decode cX5_home 17 = .ok (.istore_n 1, 1) := by decide +kernel
theorem dX5_home_18 : decode cX5_home 18 = .ok (.iconst 0, 1) := by decide +kernel
theorem dX5_home_19 : decode cX5_home 19 = .ok (.istore_n 2, 1) := by decide +kernel
theorem dX5_home_20 : decode cX5_home 20 = .ok (.iload_n 2, 1) := by decide +kernel
theorem dX5_home_21 : decode cX5_home 21 = .ok (.aload_n 0, 1) := by decide +kernel
theorem dX5_home_22 : decode cX5_home 22 = .ok (.getfield 73, 3) := by decide +kernel
theorem dX5_home_25 : decode cX5_home 25 = .ok (.if_icmp .ge 42, 3) := by decide +kernel
theorem dX5_home_28 : decode cX5_home 28 = .ok (.aload_n 0, 1) := by decide +kernel
theorem dX5_home_29 : decode cX5_home 29 = .ok (.getfield 32, 3) := by decide +kernel
theorem dX5_home_32 : decode cX5_home 32 = .ok (.iconst 4, 1) := by decide +kernel
theorem dX5_home_33 : decode cX5_home 33 = .ok (.iload_n 2, 1) := by decide +kernel
theorem dX5_home_34 : decode cX5_home 34 = .ok (.imul, 1) := by decide +kernel
theorem dX5_home_35 : decode cX5_home 35 = .ok (.iconst 3, 1) := by decide +kernel
theorem dX5_home_36 : decode cX5_home 36 = .ok (.iadd, 1) := by decide +kernel
theorem dX5_home_37 : decode cX5_home 37 = .ok (.aload_n 0, 1) := by decide +kernel
theorem dX5_home_38 : decode cX5_home 38 = .ok (.iload_n 2, 1) := by decide +kernel
theorem dX5_home_39 : decode cX5_home 39 = .ok (.iconst 1, 1) := by decide +kernel
theorem dX5_home_40 : decode cX5_home 40 = .ok (.invokevirtual 129, 3) := by decide +kernel
theorem dX5_home_43 : decode cX5_home 43 = .ok (.ifCond .eq 7, 3) := by decide +kernel
theorem dX5_home_46 : decode cX5_home 46 = .ok (.iconst 0, 1) := by decide +kernel
theorem dX5_home_47 : decode cX5_home 47 = .ok (.goto 13, 3) := by decide +kernel
theorem dX5_home_50 : decode cX5_home 50 = .ok (.aload_n 0, 1) := by decide +kernel
theorem dX5_home_51 : decode cX5_home 51 = .ok (.getfield 32, 3) := by decide +kernel
theorem dX5_home_54 : decode cX5_home 54 = .ok (.iconst 4, 1) := by decide +kernel
theorem dX5_home_55 : decode cX5_home 55 = .ok (.iload_n 2, 1) := by decide +kernel
theorem dX5_home_56 : decode cX5_home 56 = .ok (.imul, 1) := by decide +kernel
theorem dX5_home_57 : decode cX5_home 57 = .ok (.iconst 3, 1) := by decide +kernel
theorem dX5_home_58 : decode cX5_home 58 = .ok (.iadd, 1) := by decide +kernel
theorem dX5_home_59 : decode cX5_home 59 = .ok (.iaload, 1) := by decide +kernel
theorem dX5_home_60 : decode cX5_home 60 = .ok (.iastore, 1) := by decide +kernel
theorem dX5_home_61 : decode cX5_home 61 = .ok (.iinc 2 1, 3) := by decide +kernel
theorem dX5_home_64 : decode cX5_home 64 = .ok (.goto (-44), 3) := by decide +kernel
theorem dX5_home_67 : decode cX5_home 67 = .ok (.iload_n 1, 1) := by decide +kernel
theorem dX5_home_68 : decode cX5_home 68 = .ok (.ireturn, 1) := by decide +kernel
theorem dX5_leaksOf_0 : decode cX5_leaksOf 0 = .ok (.aload_n 0, 1) := by decide +kernel
theorem dX5_leaksOf_1 : decode cX5_leaksOf 1 = .ok (.getfield 23, 3) := by decide +kernel
theorem dX5_leaksOf_4 : decode cX5_leaksOf 4 = .ok (.aload_n 0, 1) := by decide +kernel
theorem dX5_leaksOf_5 : decode cX5_leaksOf 5 = .ok (.getfield 29, 3) := by decide +kernel
theorem dX5_leaksOf_8 : decode cX5_leaksOf 8 = .ok (.iload_n 1, 1) := by decide +kernel
theorem dX5_leaksOf_9 : decode cX5_leaksOf 9 = .ok (.iaload, 1) := by decide +kernel
theorem dX5_leaksOf_10 : decode cX5_leaksOf 10 = .ok (.if_icmp .ge 7, 3) := by decide +kernel
theorem dX5_leaksOf_13 : decode cX5_leaksOf 13 = .ok (.iconst 0, 1) := by decide +kernel
theorem dX5_leaksOf_14 : decode cX5_leaksOf 14 = .ok (.goto 14, 3) := by decide +kernel
theorem dX5_leaksOf_17 : decode cX5_leaksOf 17 = .ok (.aload_n 0, 1) := by decide +kernel
theorem dX5_leaksOf_18 : decode cX5_leaksOf 18 = .ok (.getfield 23, 3) := by decide +kernel
theorem dX5_leaksOf_21 : decode cX5_leaksOf 21 = .ok (.aload_n 0, 1) := by decide +kernel
theorem dX5_leaksOf_22 : decode cX5_leaksOf 22 = .ok (.getfield 29, 3) := by decide +kernel
theorem dX5_leaksOf_25 : decode cX5_leaksOf 25 = .ok (.iload_n 1, 1) := by decide +kernel
theorem dX5_leaksOf_26 : decode cX5_leaksOf 26 = .ok (.iaload, 1) := by decide +kernel
theorem dX5_leaksOf_27 : decode cX5_leaksOf 27 = .ok (.isub, 1) := by decide +kernel
theorem dX5_leaksOf_28 : decode cX5_leaksOf 28 = .ok (.istore_n 2, 1) := by decide +kernel
theorem dX5_leaksOf_29 : decode cX5_leaksOf 29 = .ok (.iload_n 1, 1) := by decide +kernel
theorem dX5_leaksOf_30 : decode cX5_leaksOf 30 = .ok (.invokestatic 254, 3) := by decide +kernel
theorem dX5_leaksOf_33 : decode cX5_leaksOf 33 = .ok (.ifCond .eq 7, 3) := by decide +kernel
theorem dX5_leaksOf_36 : decode cX5_leaksOf 36 = .ok (.iload_n 2, 1) := by decide +kernel
theorem dX5_leaksOf_37 : decode cX5_leaksOf 37 = .ok (.goto 6, 3) := by decide +kernel
theorem dX5_leaksOf_40 : decode cX5_leaksOf 40 = .ok (.iload_n 2, 1) := by decide +kernel
theorem dX5_leaksOf_41 : decode cX5_leaksOf 41 = .ok (.iconst 2, 1) := by decide +kernel
theorem dX5_leaksOf_42 : decode cX5_leaksOf 42 = .ok (.idiv, 1) := by decide +kernel
theorem dX5_leaksOf_43 : decode cX5_leaksOf 43 = .ok (.ireturn, 1) := by decide +kernel
theorem dX5_leaksAll_0 : decode cX5_leaksAll 0 = .ok (.iconst 0, 1) := by decide +kernel
theorem dX5_leaksAll_1 : decode cX5_leaksAll 1 = .ok (.istore_n 1, 1) := by decide +kernel
theorem dX5_leaksAll_2 : decode cX5_leaksAll 2 = .ok (.iconst 0, 1) := by decide +kernel
theorem dX5_leaksAll_3 : decode cX5_leaksAll 3 = .ok (.istore_n 2, 1) := by decide +kernel
theorem dX5_leaksAll_4 : decode cX5_leaksAll 4 = .ok (.iload_n 2, 1) := by decide +kernel
theorem dX5_leaksAll_5 : decode cX5_leaksAll 5 = .ok (.bipush 10, 2) := by decide +kernel
theorem dX5_leaksAll_7 : decode cX5_leaksAll 7 = .ok (.if_icmp .ge 17, 3) := by decide +kernel
theorem dX5_leaksAll_10 : decode cX5_leaksAll 10 = .ok (.iload_n 1, 1) := by decide +kernel
theorem dX5_leaksAll_11 : decode cX5_leaksAll 11 = .ok (.aload_n 0, 1) := by decide +kernel
theorem dX5_leaksAll_12 : decode cX5_leaksAll 12 = .ok (.iload_n 2, 1) := by decide +kernel
theorem dX5_leaksAll_13 : decode cX5_leaksAll 13 = .ok (.invokevirtual 126, 3) := by decide +kernel
theorem dX5_leaksAll_16 : decode cX5_leaksAll 16 = .ok (.iadd, 1) := by decide +kernel
theorem dX5_leaksAll_17 : decode cX5_leaksAll 17 = .ok (.istore_n 1, 1) := by decide +kernel
theorem dX5_leaksAll_18 : decode cX5_leaksAll 18 = .ok (.iinc 2 1, 3) := by decide +kernel
theorem dX5_leaksAll_21 : decode cX5_leaksAll 21 = .ok (.goto (-17), 3) := by decide +kernel
theorem dX5_leaksAll_24 : decode cX5_leaksAll 24 = .ok (.iload_n 1, 1) := by decide +kernel
theorem dX5_leaksAll_25 : decode cX5_leaksAll 25 = .ok (.ireturn, 1) := by decide +kernel
theorem dX5_works_0 : decode cX5_works 0 = .ok (.aload_n 0, 1) := by decide +kernel
theorem dX5_works_1 : decode cX5_works 1 = .ok (.aload_n 0, 1) := by decide +kernel
theorem dX5_works_2 : decode cX5_works 2 = .ok (.getfield 110, 3) := by decide +kernel
theorem dX5_works_5 : decode cX5_works 5 = .ok (.aload_n 0, 1) := by decide +kernel
theorem dX5_works_6 : decode cX5_works 6 = .ok (.iload_n 1, 1) := by decide +kernel
theorem dX5_works_7 : decode cX5_works 7 = .ok (.invokevirtual 123, 3) := by decide +kernel
theorem dX5_works_10 : decode cX5_works 10 = .ok (.isub, 1) := by decide +kernel
theorem dX5_works_11 : decode cX5_works 11 = .ok (.iconst 0, 1) := by decide +kernel
theorem dX5_works_12 : decode cX5_works 12 = .ok (.bipush 100, 2) := by decide +kernel
theorem dX5_works_14 : decode cX5_works 14 = .ok (.invokestatic 250, 3) := by decide +kernel
theorem dX5_works_17 : decode cX5_works 17 = .ok (.putfield 110, 3) := by decide +kernel
theorem dX5_works_20 : decode cX5_works 20 = .ok (.iconst (-1), 1) := by decide +kernel
theorem dX5_works_21 : decode cX5_works 21 = .ok (.istore_n 2, 1) := by decide +kernel
theorem dX5_works_22 : decode cX5_works 22 = .ok (.iconst 0, 1) := by decide +kernel
theorem dX5_works_23 : decode cX5_works 23 = .ok (.istore_n 3, 1) := by decide +kernel
theorem dX5_works_24 : decode cX5_works 24 = .ok (.iload_n 3, 1) := by decide +kernel
theorem dX5_works_25 : decode cX5_works 25 = .ok (.bipush 10, 2) := by decide +kernel
theorem dX5_works_27 : decode cX5_works 27 = .ok (.if_icmp .ge 45, 3) := by decide +kernel
theorem dX5_works_30 : decode cX5_works 30 = .ok (.aload_n 0, 1) := by decide +kernel
theorem dX5_works_31 : decode cX5_works 31 = .ok (.getfield 26, 3) := by decide +kernel
theorem dX5_works_34 : decode cX5_works 34 = .ok (.iload_n 3, 1) := by decide +kernel
theorem dX5_works_35 : decode cX5_works 35 = .ok (.iaload, 1) := by decide +kernel
theorem dX5_works_36 : decode cX5_works 36 = .ok (.iload_n 1, 1) := by decide +kernel
theorem dX5_works_37 : decode cX5_works 37 = .ok (.if_icmp .ne 27, 3) := by decide +kernel
theorem dX5_works_40 : decode cX5_works 40 = .ok (.iload_n 2, 1) := by decide +kernel
theorem dX5_works_41 : decode cX5_works 41 = .ok (.iconst (-1), 1) := by decide +kernel
theorem dX5_works_42 : decode cX5_works 42 = .ok (.if_icmp .eq 18, 3) := by decide +kernel
theorem dX5_works_45 : decode cX5_works 45 = .ok (.aload_n 0, 1) := by decide +kernel
theorem dX5_works_46 : decode cX5_works 46 = .ok (.getfield 29, 3) := by decide +kernel
theorem dX5_works_49 : decode cX5_works 49 = .ok (.iload_n 3, 1) := by decide +kernel
theorem dX5_works_50 : decode cX5_works 50 = .ok (.iaload, 1) := by decide +kernel
theorem dX5_works_51 : decode cX5_works 51 = .ok (.aload_n 0, 1) := by decide +kernel
theorem dX5_works_52 : decode cX5_works 52 = .ok (.getfield 29, 3) := by decide +kernel
theorem dX5_works_55 : decode cX5_works 55 = .ok (.iload_n 2, 1) := by decide +kernel
theorem dX5_works_56 : decode cX5_works 56 = .ok (.iaload, 1) := by decide +kernel
theorem dX5_works_57 : decode cX5_works 57 = .ok (.if_icmp .ge 7, 3) := by decide +kernel
theorem dX5_works_60 : decode cX5_works 60 = .ok (.iload_n 3, 1) := by decide +kernel
theorem dX5_works_61 : decode cX5_works 61 = .ok (.goto 4, 3) := by decide +kernel
theorem dX5_works_64 : decode cX5_works 64 = .ok (.iload_n 2, 1) := by decide +kernel
theorem dX5_works_65 : decode cX5_works 65 = .ok (.istore_n 2, 1) := by decide +kernel
theorem dX5_works_66 : decode cX5_works 66 = .ok (.iinc 3 1, 3) := by decide +kernel
theorem dX5_works_69 : decode cX5_works 69 = .ok (.goto (-45), 3) := by decide +kernel
theorem dX5_works_72 : decode cX5_works 72 = .ok (.iload_n 2, 1) := by decide +kernel
theorem dX5_works_73 : decode cX5_works 73 = .ok (.iconst (-1), 1) := by decide +kernel
theorem dX5_works_74 : decode cX5_works 74 = .ok (.if_icmp .eq 28, 3) := by decide +kernel
theorem dX5_works_77 : decode cX5_works 77 = .ok (.aload_n 0, 1) := by decide +kernel
theorem dX5_works_78 : decode cX5_works 78 = .ok (.getfield 29, 3) := by decide +kernel
theorem dX5_works_81 : decode cX5_works 81 = .ok (.iload_n 2, 1) := by decide +kernel
theorem dX5_works_82 : decode cX5_works 82 = .ok (.aload_n 0, 1) := by decide +kernel
theorem dX5_works_83 : decode cX5_works 83 = .ok (.getfield 29, 3) := by decide +kernel
theorem dX5_works_86 : decode cX5_works 86 = .ok (.iload_n 2, 1) := by decide +kernel
theorem dX5_works_87 : decode cX5_works 87 = .ok (.iaload, 1) := by decide +kernel
theorem dX5_works_88 : decode cX5_works 88 = .ok (.aload_n 0, 1) := by decide +kernel
theorem dX5_works_89 : decode cX5_works 89 = .ok (.iload_n 1, 1) := by decide +kernel
theorem dX5_works_90 : decode cX5_works 90 = .ok (.iload_n 2, 1) := by decide +kernel
theorem dX5_works_91 : decode cX5_works 91 = .ok (.invokevirtual 269, 3) := by decide +kernel
theorem dX5_works_94 : decode cX5_works 94 = .ok (.iadd, 1) := by decide +kernel
theorem dX5_works_95 : decode cX5_works 95 = .ok (.iconst 0, 1) := by decide +kernel
theorem dX5_works_96 : decode cX5_works 96 = .ok (.bipush 99, 2) := by decide +kernel
theorem dX5_works_98 : decode cX5_works 98 = .ok (.invokestatic 250, 3) := by decide +kernel
theorem dX5_works_101 : decode cX5_works 101 = .ok (.iastore, 1) := by decide +kernel
theorem dX5_works_102 : decode cX5_works 102 = .ok (.return_, 1) := by decide +kernel
theorem dX5_passes_0 : decode cX5_passes 0 = .ok (.aload_n 0, 1) := by decide +kernel
theorem dX5_passes_1 : decode cX5_passes 1 = .ok (.getfield 110, 3) := by decide +kernel
theorem dX5_passes_4 : decode cX5_passes 4 = .ok (.bipush 100, 2) := by decide +kernel
theorem dX5_passes_6 : decode cX5_passes 6 = .ok (.if_icmp .ge 98, 3) := by decide +kernel
theorem dX5_passes_9 : decode cX5_passes 9 = .ok (.aload_n 0, 1) := by decide +kernel
theorem dX5_passes_10 : decode cX5_passes 10 = .ok (.aload_n 0, 1) := by decide +kernel
theorem dX5_passes_11 : decode cX5_passes 11 = .ok (.getfield 110, 3) := by decide +kernel
theorem dX5_passes_14 : decode cX5_passes 14 = .ok (.aload_n 0, 1) := by decide +kernel
theorem dX5_passes_15 : decode cX5_passes 15 = .ok (.invokevirtual 278, 3) := by decide +kernel
theorem dX5_passes_18 : decode cX5_passes 18 = .ok (.bipush 10, 2) := by decide +kernel
theorem dX5_passes_20 : decode cX5_passes 20 = .ok (.idiv, 1) := by decide +kernel
theorem dX5_passes_21 : decode cX5_passes 21 = .ok (.iadd, 1) := by decide +kernel
theorem dX5_passes_22 : decode cX5_passes 22 = .ok (.iconst 0, 1) := by decide +kernel
theorem dX5_passes_23 : decode cX5_passes 23 = .ok (.bipush 100, 2) := by decide +kernel
theorem dX5_passes_25 : decode cX5_passes 25 = .ok (.invokestatic 250, 3) := by decide +kernel
theorem dX5_passes_28 : decode cX5_passes 28 = .ok (.putfield 110, 3) := by decide +kernel
theorem dX5_passes_31 : decode cX5_passes 31 = .ok (.aload_n 0, 1) := by decide +kernel
theorem dX5_passes_32 : decode cX5_passes 32 = .ok (.getfield 110, 3) := by decide +kernel
theorem dX5_passes_35 : decode cX5_passes 35 = .ok (.bipush 100, 2) := by decide +kernel
theorem dX5_passes_37 : decode cX5_passes 37 = .ok (.if_icmp .ne 7, 3) := by decide +kernel
theorem dX5_passes_40 : decode cX5_passes 40 = .ok (.iconst 1, 1) := by decide +kernel
theorem dX5_passes_41 : decode cX5_passes 41 = .ok (.goto 4, 3) := by decide +kernel
theorem dX5_passes_44 : decode cX5_passes 44 = .ok (.iconst 0, 1) := by decide +kernel
theorem dX5_passes_45 : decode cX5_passes 45 = .ok (.istore_n 1, 1) := by decide +kernel
theorem dX5_passes_46 : decode cX5_passes 46 = .ok (.iconst 0, 1) := by decide +kernel
theorem dX5_passes_47 : decode cX5_passes 47 = .ok (.istore_n 2, 1) := by decide +kernel
theorem dX5_passes_48 : decode cX5_passes 48 = .ok (.iload_n 2, 1) := by decide +kernel
theorem dX5_passes_49 : decode cX5_passes 49 = .ok (.aload_n 0, 1) := by decide +kernel
theorem dX5_passes_50 : decode cX5_passes 50 = .ok (.getfield 73, 3) := by decide +kernel
theorem dX5_passes_53 : decode cX5_passes 53 = .ok (.if_icmp .ge 51, 3) := by decide +kernel
theorem dX5_passes_56 : decode cX5_passes 56 = .ok (.aload_n 0, 1) := by decide +kernel
theorem dX5_passes_57 : decode cX5_passes 57 = .ok (.iload_n 2, 1) := by decide +kernel
theorem dX5_passes_58 : decode cX5_passes 58 = .ok (.iconst 1, 1) := by decide +kernel
theorem dX5_passes_59 : decode cX5_passes 59 = .ok (.invokevirtual 129, 3) := by decide +kernel
theorem dX5_passes_62 : decode cX5_passes 62 = .ok (.ifCond .eq 18, 3) := by decide +kernel
theorem dX5_passes_65 : decode cX5_passes 65 = .ok (.iload_n 1, 1) := by decide +kernel
theorem dX5_passes_66 : decode cX5_passes 66 = .ok (.ifCond .eq 14, 3) := by decide +kernel
theorem dX5_passes_69 : decode cX5_passes 69 = .ok (.aload_n 0, 1) := by decide +kernel
theorem dX5_passes_70 : decode cX5_passes 70 = .ok (.getfield 32, 3) := by decide +kernel
theorem dX5_passes_73 : decode cX5_passes 73 = .ok (.iconst 4, 1) := by decide +kernel
theorem dX5_passes_74 : decode cX5_passes 74 = .ok (.iload_n 2, 1) := by decide +kernel
theorem dX5_passes_75 : decode cX5_passes 75 = .ok (.imul, 1) := by decide +kernel
theorem dX5_passes_76 : decode cX5_passes 76 = .ok (.iconst 3, 1) := by decide +kernel
theorem dX5_passes_77 : decode cX5_passes 77 = .ok (.iadd, 1) := by decide +kernel
theorem dX5_passes_78 : decode cX5_passes 78 = .ok (.iconst 2, 1) := by decide +kernel
theorem dX5_passes_79 : decode cX5_passes 79 = .ok (.iastore, 1) := by decide +kernel
theorem dX5_passes_80 : decode cX5_passes 80 = .ok (.aload_n 0, 1) := by decide +kernel
theorem dX5_passes_81 : decode cX5_passes 81 = .ok (.iload_n 2, 1) := by decide +kernel
theorem dX5_passes_82 : decode cX5_passes 82 = .ok (.iconst 1, 1) := by decide +kernel
theorem dX5_passes_83 : decode cX5_passes 83 = .ok (.invokevirtual 129, 3) := by decide +kernel
theorem dX5_passes_86 : decode cX5_passes 86 = .ok (.ifCond .eq 12, 3) := by decide +kernel
theorem dX5_passes_89 : decode cX5_passes 89 = .ok (.iload_n 1, 1) := by decide +kernel
theorem dX5_passes_90 : decode cX5_passes 90 = .ok (.ifCond .ne 8, 3) := by decide +kernel
theorem dX5_passes_93 : decode cX5_passes 93 = .ok (.aload_n 0, 1) := by decide +kernel
theorem dX5_passes_94 : decode cX5_passes 94 = .ok (.iload_n 2, 1) := by decide +kernel
theorem dX5_passes_95 : decode cX5_passes 95 = .ok (.invokevirtual 281, 3) := by decide +kernel
theorem dX5_passes_98 : decode cX5_passes 98 = .ok (.iinc 2 1, 3) := by decide +kernel
theorem dX5_passes_101 : decode cX5_passes 101 = .ok (.goto (-53), 3) := by decide +kernel
theorem dX5_passes_104 : decode cX5_passes 104 = .ok (.aload_n 0, 1) := by decide +kernel
theorem dX5_passes_105 : decode cX5_passes 105 = .ok (.dup, 1) := by decide +kernel
theorem dX5_passes_106 : decode cX5_passes 106 = .ok (.getfield 107, 3) := by decide +kernel
theorem dX5_passes_109 : decode cX5_passes 109 = .ok (.iconst 1, 1) := by decide +kernel
theorem dX5_passes_110 : decode cX5_passes 110 = .ok (.iadd, 1) := by decide +kernel
theorem dX5_passes_111 : decode cX5_passes 111 = .ok (.putfield 107, 3) := by decide +kernel
theorem dX5_passes_114 : decode cX5_passes 114 = .ok (.return_, 1) := by decide +kernel
theorem dX5_day_0 : decode cX5_day 0 = .ok (.aload_n 0, 1) := by decide +kernel
theorem dX5_day_1 : decode cX5_day 1 = .ok (.getfield 107, 3) := by decide +kernel
theorem dX5_day_4 : decode cX5_day 4 = .ok (.sipush 999, 3) := by decide +kernel
theorem dX5_day_7 : decode cX5_day 7 = .ok (.if_icmp .eq 12, 3) := by decide +kernel
theorem dX5_day_10 : decode cX5_day 10 = .ok (.aload_n 0, 1) := by decide +kernel
theorem dX5_day_11 : decode cX5_day 11 = .ok (.getfield 110, 3) := by decide +kernel
theorem dX5_day_14 : decode cX5_day 14 = .ok (.bipush 100, 2) := by decide +kernel
theorem dX5_day_16 : decode cX5_day 16 = .ok (.if_icmp .ne 6, 3) := by decide +kernel
theorem dX5_day_19 : decode cX5_day 19 = .ok (.bipush (-3), 2) := by decide +kernel
theorem dX5_day_21 : decode cX5_day 21 = .ok (.ireturn, 1) := by decide +kernel
theorem dX5_day_22 : decode cX5_day 22 = .ok (.aload_n 0, 1) := by decide +kernel
theorem dX5_day_23 : decode cX5_day 23 = .ok (.invokevirtual 285, 3) := by decide +kernel
theorem dX5_day_26 : decode cX5_day 26 = .ok (.aload_n 0, 1) := by decide +kernel
theorem dX5_day_27 : decode cX5_day 27 = .ok (.getfield 110, 3) := by decide +kernel
theorem dX5_day_30 : decode cX5_day 30 = .ok (.ireturn, 1) := by decide +kernel
theorem dX5_laysAside_0 : decode cX5_laysAside 0 = .ok (.iconst 0, 1) := by decide +kernel
theorem dX5_laysAside_1 : decode cX5_laysAside 1 = .ok (.istore_n 1, 1) := by decide +kernel
theorem dX5_laysAside_2 : decode cX5_laysAside 2 = .ok (.iload_n 1, 1) := by decide +kernel
theorem dX5_laysAside_3 : decode cX5_laysAside 3 = .ok (.bipush 20, 2) := by decide +kernel
theorem dX5_laysAside_5 : decode cX5_laysAside 5 = .ok (.if_icmp .ge 21, 3) := by decide +kernel
theorem dX5_laysAside_8 : decode cX5_laysAside 8 = .ok (.aload_n 0, 1) := by decide +kernel
theorem dX5_laysAside_9 : decode cX5_laysAside 9 = .ok (.getfield 35, 3) := by decide +kernel
theorem dX5_laysAside_12 : decode cX5_laysAside 12 = .ok (.iload_n 1, 1) := by decide +kernel
theorem dX5_laysAside_13 : decode cX5_laysAside 13 = .ok (.aload_n 0, 1) := by decide +kernel
theorem dX5_laysAside_14 : decode cX5_laysAside 14 = .ok (.getfield 32, 3) := by decide +kernel
theorem dX5_laysAside_17 : decode cX5_laysAside 17 = .ok (.iload_n 1, 1) := by decide +kernel
theorem dX5_laysAside_18 : decode cX5_laysAside 18 = .ok (.iaload, 1) := by decide +kernel
theorem dX5_laysAside_19 : decode cX5_laysAside 19 = .ok (.iastore, 1) := by decide +kernel
theorem dX5_laysAside_20 : decode cX5_laysAside 20 = .ok (.iinc 1 1, 3) := by decide +kernel
theorem dX5_laysAside_23 : decode cX5_laysAside 23 = .ok (.goto (-21), 3) := by decide +kernel
theorem dX5_laysAside_26 : decode cX5_laysAside 26 = .ok (.iconst 0, 1) := by decide +kernel
theorem dX5_laysAside_27 : decode cX5_laysAside 27 = .ok (.istore_n 1, 1) := by decide +kernel
theorem dX5_laysAside_28 : decode cX5_laysAside 28 = .ok (.iload_n 1, 1) := by decide +kernel
theorem dX5_laysAside_29 : decode cX5_laysAside 29 = .ok (.bipush 10, 2) := by decide +kernel
theorem dX5_laysAside_31 : decode cX5_laysAside 31 = .ok (.if_icmp .ge 39, 3) := by decide +kernel
theorem dX5_laysAside_34 : decode cX5_laysAside 34 = .ok (.aload_n 0, 1) := by decide +kernel
theorem dX5_laysAside_35 : decode cX5_laysAside 35 = .ok (.getfield 35, 3) := by decide +kernel
theorem dX5_laysAside_38 : decode cX5_laysAside 38 = .ok (.bipush 20, 2) := by decide +kernel
theorem dX5_laysAside_40 : decode cX5_laysAside 40 = .ok (.iload_n 1, 1) := by decide +kernel
theorem dX5_laysAside_41 : decode cX5_laysAside 41 = .ok (.iadd, 1) := by decide +kernel
theorem dX5_laysAside_42 : decode cX5_laysAside 42 = .ok (.aload_n 0, 1) := by decide +kernel
theorem dX5_laysAside_43 : decode cX5_laysAside 43 = .ok (.getfield 26, 3) := by decide +kernel
theorem dX5_laysAside_46 : decode cX5_laysAside 46 = .ok (.iload_n 1, 1) := by decide +kernel
theorem dX5_laysAside_47 : decode cX5_laysAside 47 = .ok (.iaload, 1) := by decide +kernel
theorem dX5_laysAside_48 : decode cX5_laysAside 48 = .ok (.iastore, 1) := by decide +kernel
theorem dX5_laysAside_49 : decode cX5_laysAside 49 = .ok (.aload_n 0, 1) := by decide +kernel
theorem dX5_laysAside_50 : decode cX5_laysAside 50 = .ok (.getfield 35, 3) := by decide +kernel
theorem dX5_laysAside_53 : decode cX5_laysAside 53 = .ok (.bipush 30, 2) := by decide +kernel
theorem dX5_laysAside_55 : decode cX5_laysAside 55 = .ok (.iload_n 1, 1) := by decide +kernel
theorem dX5_laysAside_56 : decode cX5_laysAside 56 = .ok (.iadd, 1) := by decide +kernel
theorem dX5_laysAside_57 : decode cX5_laysAside 57 = .ok (.aload_n 0, 1) := by decide +kernel
theorem dX5_laysAside_58 : decode cX5_laysAside 58 = .ok (.getfield 29, 3) := by decide +kernel
theorem dX5_laysAside_61 : decode cX5_laysAside 61 = .ok (.iload_n 1, 1) := by decide +kernel
theorem dX5_laysAside_62 : decode cX5_laysAside 62 = .ok (.iaload, 1) := by decide +kernel
theorem dX5_laysAside_63 : decode cX5_laysAside 63 = .ok (.iastore, 1) := by decide +kernel
theorem dX5_laysAside_64 : decode cX5_laysAside 64 = .ok (.iinc 1 1, 3) := by decide +kernel
theorem dX5_laysAside_67 : decode cX5_laysAside 67 = .ok (.goto (-39), 3) := by decide +kernel
theorem dX5_laysAside_70 : decode cX5_laysAside 70 = .ok (.aload_n 0, 1) := by decide +kernel
theorem dX5_laysAside_71 : decode cX5_laysAside 71 = .ok (.getfield 35, 3) := by decide +kernel
theorem dX5_laysAside_74 : decode cX5_laysAside 74 = .ok (.bipush 40, 2) := by decide +kernel
theorem dX5_laysAside_76 : decode cX5_laysAside 76 = .ok (.aload_n 0, 1) := by decide +kernel
theorem dX5_laysAside_77 : decode cX5_laysAside 77 = .ok (.getfield 107, 3) := by decide +kernel
theorem dX5_laysAside_80 : decode cX5_laysAside 80 = .ok (.iastore, 1) := by decide +kernel
theorem dX5_laysAside_81 : decode cX5_laysAside 81 = .ok (.aload_n 0, 1) := by decide +kernel
theorem dX5_laysAside_82 : decode cX5_laysAside 82 = .ok (.getfield 35, 3) := by decide +kernel
theorem dX5_laysAside_85 : decode cX5_laysAside 85 = .ok (.bipush 41, 2) := by decide +kernel
theorem dX5_laysAside_87 : decode cX5_laysAside 87 = .ok (.aload_n 0, 1) := by decide +kernel
theorem dX5_laysAside_88 : decode cX5_laysAside 88 = .ok (.getfield 23, 3) := by decide +kernel
theorem dX5_laysAside_91 : decode cX5_laysAside 91 = .ok (.iastore, 1) := by decide +kernel
theorem dX5_laysAside_92 : decode cX5_laysAside 92 = .ok (.aload_n 0, 1) := by decide +kernel
theorem dX5_laysAside_93 : decode cX5_laysAside 93 = .ok (.getfield 35, 3) := by decide +kernel
theorem dX5_laysAside_96 : decode cX5_laysAside 96 = .ok (.bipush 42, 2) := by decide +kernel
theorem dX5_laysAside_98 : decode cX5_laysAside 98 = .ok (.aload_n 0, 1) := by decide +kernel
theorem dX5_laysAside_99 : decode cX5_laysAside 99 = .ok (.getfield 110, 3) := by decide +kernel
theorem dX5_laysAside_102 : decode cX5_laysAside 102 = .ok (.iastore, 1) := by decide +kernel
theorem dX5_laysAside_103 : decode cX5_laysAside 103 = .ok (.return_, 1) := by decide +kernel
theorem dX5_laysBack_0 : decode cX5_laysBack 0 = .ok (.iconst 0, 1) := by decide +kernel
theorem dX5_laysBack_1 : decode cX5_laysBack 1 = .ok (.istore_n 1, 1) := by decide +kernel
theorem dX5_laysBack_2 : decode cX5_laysBack 2 = .ok (.iload_n 1, 1) := by decide +kernel
theorem dX5_laysBack_3 : decode cX5_laysBack 3 = .ok (.bipush 20, 2) := by decide +kernel
theorem dX5_laysBack_5 : decode cX5_laysBack 5 = .ok (.if_icmp .ge 21, 3) := by decide +kernel
theorem dX5_laysBack_8 : decode cX5_laysBack 8 = .ok (.aload_n 0, 1) := by decide +kernel
theorem dX5_laysBack_9 : decode cX5_laysBack 9 = .ok (.getfield 32, 3) := by decide +kernel
theorem dX5_laysBack_12 : decode cX5_laysBack 12 = .ok (.iload_n 1, 1) := by decide +kernel
theorem dX5_laysBack_13 : decode cX5_laysBack 13 = .ok (.aload_n 0, 1) := by decide +kernel
theorem dX5_laysBack_14 : decode cX5_laysBack 14 = .ok (.getfield 35, 3) := by decide +kernel
theorem dX5_laysBack_17 : decode cX5_laysBack 17 = .ok (.iload_n 1, 1) := by decide +kernel
theorem dX5_laysBack_18 : decode cX5_laysBack 18 = .ok (.iaload, 1) := by decide +kernel
theorem dX5_laysBack_19 : decode cX5_laysBack 19 = .ok (.iastore, 1) := by decide +kernel
theorem dX5_laysBack_20 : decode cX5_laysBack 20 = .ok (.iinc 1 1, 3) := by decide +kernel
theorem dX5_laysBack_23 : decode cX5_laysBack 23 = .ok (.goto (-21), 3) := by decide +kernel
theorem dX5_laysBack_26 : decode cX5_laysBack 26 = .ok (.iconst 0, 1) := by decide +kernel
theorem dX5_laysBack_27 : decode cX5_laysBack 27 = .ok (.istore_n 1, 1) := by decide +kernel
theorem dX5_laysBack_28 : decode cX5_laysBack 28 = .ok (.iload_n 1, 1) := by decide +kernel
theorem dX5_laysBack_29 : decode cX5_laysBack 29 = .ok (.bipush 10, 2) := by decide +kernel
theorem dX5_laysBack_31 : decode cX5_laysBack 31 = .ok (.if_icmp .ge 39, 3) := by decide +kernel
theorem dX5_laysBack_34 : decode cX5_laysBack 34 = .ok (.aload_n 0, 1) := by decide +kernel
theorem dX5_laysBack_35 : decode cX5_laysBack 35 = .ok (.getfield 26, 3) := by decide +kernel
theorem dX5_laysBack_38 : decode cX5_laysBack 38 = .ok (.iload_n 1, 1) := by decide +kernel
theorem dX5_laysBack_39 : decode cX5_laysBack 39 = .ok (.aload_n 0, 1) := by decide +kernel
theorem dX5_laysBack_40 : decode cX5_laysBack 40 = .ok (.getfield 35, 3) := by decide +kernel
theorem dX5_laysBack_43 : decode cX5_laysBack 43 = .ok (.bipush 20, 2) := by decide +kernel
theorem dX5_laysBack_45 : decode cX5_laysBack 45 = .ok (.iload_n 1, 1) := by decide +kernel
theorem dX5_laysBack_46 : decode cX5_laysBack 46 = .ok (.iadd, 1) := by decide +kernel
theorem dX5_laysBack_47 : decode cX5_laysBack 47 = .ok (.iaload, 1) := by decide +kernel
theorem dX5_laysBack_48 : decode cX5_laysBack 48 = .ok (.iastore, 1) := by decide +kernel
theorem dX5_laysBack_49 : decode cX5_laysBack 49 = .ok (.aload_n 0, 1) := by decide +kernel
theorem dX5_laysBack_50 : decode cX5_laysBack 50 = .ok (.getfield 29, 3) := by decide +kernel
theorem dX5_laysBack_53 : decode cX5_laysBack 53 = .ok (.iload_n 1, 1) := by decide +kernel
theorem dX5_laysBack_54 : decode cX5_laysBack 54 = .ok (.aload_n 0, 1) := by decide +kernel
theorem dX5_laysBack_55 : decode cX5_laysBack 55 = .ok (.getfield 35, 3) := by decide +kernel
theorem dX5_laysBack_58 : decode cX5_laysBack 58 = .ok (.bipush 30, 2) := by decide +kernel
theorem dX5_laysBack_60 : decode cX5_laysBack 60 = .ok (.iload_n 1, 1) := by decide +kernel
theorem dX5_laysBack_61 : decode cX5_laysBack 61 = .ok (.iadd, 1) := by decide +kernel
theorem dX5_laysBack_62 : decode cX5_laysBack 62 = .ok (.iaload, 1) := by decide +kernel
theorem dX5_laysBack_63 : decode cX5_laysBack 63 = .ok (.iastore, 1) := by decide +kernel
theorem dX5_laysBack_64 : decode cX5_laysBack 64 = .ok (.iinc 1 1, 3) := by decide +kernel
theorem dX5_laysBack_67 : decode cX5_laysBack 67 = .ok (.goto (-39), 3) := by decide +kernel
theorem dX5_laysBack_70 : decode cX5_laysBack 70 = .ok (.aload_n 0, 1) := by decide +kernel
theorem dX5_laysBack_71 : decode cX5_laysBack 71 = .ok (.aload_n 0, 1) := by decide +kernel
theorem dX5_laysBack_72 : decode cX5_laysBack 72 = .ok (.getfield 35, 3) := by decide +kernel
theorem dX5_laysBack_75 : decode cX5_laysBack 75 = .ok (.bipush 40, 2) := by decide +kernel
theorem dX5_laysBack_77 : decode cX5_laysBack 77 = .ok (.iaload, 1) := by decide +kernel
theorem dX5_laysBack_78 : decode cX5_laysBack 78 = .ok (.putfield 107, 3) := by decide +kernel
theorem dX5_laysBack_81 : decode cX5_laysBack 81 = .ok (.aload_n 0, 1) := by decide +kernel
theorem dX5_laysBack_82 : decode cX5_laysBack 82 = .ok (.aload_n 0, 1) := by decide +kernel
theorem dX5_laysBack_83 : decode cX5_laysBack 83 = .ok (.getfield 35, 3) := by decide +kernel
theorem dX5_laysBack_86 : decode cX5_laysBack 86 = .ok (.bipush 41, 2) := by decide +kernel
theorem dX5_laysBack_88 : decode cX5_laysBack 88 = .ok (.iaload, 1) := by decide +kernel
theorem dX5_laysBack_89 : decode cX5_laysBack 89 = .ok (.putfield 23, 3) := by decide +kernel
theorem dX5_laysBack_92 : decode cX5_laysBack 92 = .ok (.aload_n 0, 1) := by decide +kernel
theorem dX5_laysBack_93 : decode cX5_laysBack 93 = .ok (.aload_n 0, 1) := by decide +kernel
theorem dX5_laysBack_94 : decode cX5_laysBack 94 = .ok (.getfield 35, 3) := by decide +kernel
theorem dX5_laysBack_97 : decode cX5_laysBack 97 = .ok (.bipush 42, 2) := by decide +kernel
theorem dX5_laysBack_99 : decode cX5_laysBack 99 = .ok (.iaload, 1) := by decide +kernel
theorem dX5_laysBack_100 : decode cX5_laysBack 100 = .ok (.putfield 110, 3) := by decide +kernel
theorem dX5_laysBack_103 : decode cX5_laysBack 103 = .ok (.return_, 1) := by decide +kernel
theorem dX5_sails_0 : decode cX5_sails 0 = .ok (.iconst 0, 1) := by decide +kernel
theorem dX5_sails_1 : decode cX5_sails 1 = .ok (.istore_n 2, 1) := by decide +kernel
theorem dX5_sails_2 : decode cX5_sails 2 = .ok (.iload_n 2, 1) := by decide +kernel
theorem dX5_sails_3 : decode cX5_sails 3 = .ok (.iload_n 1, 1) := by decide +kernel
theorem dX5_sails_4 : decode cX5_sails 4 = .ok (.if_icmp .ge 13, 3) := by decide +kernel
theorem dX5_sails_7 : decode cX5_sails 7 = .ok (.aload_n 0, 1) := by decide +kernel
theorem dX5_sails_8 : decode cX5_sails 8 = .ok (.invokevirtual 285, 3) := by decide +kernel
theorem dX5_sails_11 : decode cX5_sails 11 = .ok (.iinc 2 1, 3) := by decide +kernel
theorem dX5_sails_14 : decode cX5_sails 14 = .ok (.goto (-12), 3) := by decide +kernel
theorem dX5_sails_17 : decode cX5_sails 17 = .ok (.return_, 1) := by decide +kernel
theorem dX5_waterBehind_0 : decode cX5_waterBehind 0 = .ok (.aload_n 0, 1) := by decide +kernel
theorem dX5_waterBehind_1 : decode cX5_waterBehind 1 = .ok (.invokevirtual 288, 3) := by decide +kernel
theorem dX5_waterBehind_4 : decode cX5_waterBehind 4 = .ok (.aload_n 0, 1) := by decide +kernel
theorem dX5_waterBehind_5 : decode cX5_waterBehind 5 = .ok (.iload_n 1, 1) := by decide +kernel
theorem dX5_waterBehind_6 : decode cX5_waterBehind 6 = .ok (.invokevirtual 291, 3) := by decide +kernel
theorem dX5_waterBehind_9 : decode cX5_waterBehind 9 = .ok (.aload_n 0, 1) := by decide +kernel
theorem dX5_waterBehind_10 : decode cX5_waterBehind 10 = .ok (.getfield 110, 3) := by decide +kernel
theorem dX5_waterBehind_13 : decode cX5_waterBehind 13 = .ok (.istore_n 2, 1) := by decide +kernel
theorem dX5_waterBehind_14 : decode cX5_waterBehind 14 = .ok (.aload_n 0, 1) := by decide +kernel
theorem dX5_waterBehind_15 : decode cX5_waterBehind 15 = .ok (.invokevirtual 294, 3) := by decide +kernel
theorem dX5_waterBehind_18 : decode cX5_waterBehind 18 = .ok (.iload_n 2, 1) := by decide +kernel
theorem dX5_waterBehind_19 : decode cX5_waterBehind 19 = .ok (.ireturn, 1) := by decide +kernel
theorem dX5_run_0 : decode cX5_run 0 = .ok (.iload_n 1, 1) := by decide +kernel
theorem dX5_run_1 : decode cX5_run 1 = .ok (.i2l, 1) := by decide +kernel
theorem dX5_run_2 : decode cX5_run 2 = .ok (.lconst 0, 1) := by decide +kernel
theorem dX5_run_3 : decode cX5_run 3 = .ok (.ldc2_w 297, 3) := by decide +kernel
theorem dX5_run_6 : decode cX5_run 6 = .ok (.invokestatic 76, 3) := by decide +kernel
theorem dX5_run_9 : decode cX5_run 9 = .ok (.ifCond .eq 29, 3) := by decide +kernel
theorem dX5_run_12 : decode cX5_run 12 = .ok (.iload_n 2, 1) := by decide +kernel
theorem dX5_run_13 : decode cX5_run 13 = .ok (.i2l, 1) := by decide +kernel
theorem dX5_run_14 : decode cX5_run 14 = .ok (.lconst 0, 1) := by decide +kernel
theorem dX5_run_15 : decode cX5_run 15 = .ok (.ldc2_w 299, 3) := by decide +kernel
theorem dX5_run_18 : decode cX5_run 18 = .ok (.invokestatic 76, 3) := by decide +kernel
theorem dX5_run_21 : decode cX5_run 21 = .ok (.ifCond .ne 20, 3) := by decide +kernel
theorem dX5_run_24 : decode cX5_run 24 = .ok (.iload_n 2, 1) := by decide +kernel
theorem dX5_run_25 : decode cX5_run 25 = .ok (.i2l, 1) := by decide +kernel
theorem dX5_run_26 : decode cX5_run 26 = .ok (.ldc2_w 167, 3) := by decide +kernel
theorem dX5_run_29 : decode cX5_run 29 = .ok (.ldc2_w 301, 3) := by decide +kernel
theorem dX5_run_32 : decode cX5_run 32 = .ok (.invokestatic 76, 3) := by decide +kernel
theorem dX5_run_35 : decode cX5_run 35 = .ok (.ifCond .ne 6, 3) := by decide +kernel
theorem dX5_run_38 : decode cX5_run 38 = .ok (.bipush (-2), 2) := by decide +kernel
theorem dX5_run_40 : decode cX5_run 40 = .ok (.ireturn, 1) := by decide +kernel
theorem dX5_run_41 : decode cX5_run 41 = .ok (.aload_n 0, 1) := by decide +kernel
theorem dX5_run_42 : decode cX5_run 42 = .ok (.invokevirtual 288, 3) := by decide +kernel
theorem dX5_run_45 : decode cX5_run 45 = .ok (.aload_n 0, 1) := by decide +kernel
theorem dX5_run_46 : decode cX5_run 46 = .ok (.iload_n 1, 1) := by decide +kernel
theorem dX5_run_47 : decode cX5_run 47 = .ok (.invokevirtual 291, 3) := by decide +kernel
theorem dX5_run_50 : decode cX5_run 50 = .ok (.iload_n 2, 1) := by decide +kernel
theorem dX5_run_51 : decode cX5_run 51 = .ok (.ifCond .ne 10, 3) := by decide +kernel
theorem dX5_run_54 : decode cX5_run 54 = .ok (.aload_n 0, 1) := by decide +kernel
theorem dX5_run_55 : decode cX5_run 55 = .ok (.getfield 110, 3) := by decide +kernel
theorem dX5_run_58 : decode cX5_run 58 = .ok (.goto 37, 3) := by decide +kernel
theorem dX5_run_61 : decode cX5_run 61 = .ok (.iload_n 2, 1) := by decide +kernel
theorem dX5_run_62 : decode cX5_run 62 = .ok (.iconst 1, 1) := by decide +kernel
theorem dX5_run_63 : decode cX5_run 63 = .ok (.if_icmp .ne 11, 3) := by decide +kernel
theorem dX5_run_66 : decode cX5_run 66 = .ok (.aload_n 0, 1) := by decide +kernel
theorem dX5_run_67 : decode cX5_run 67 = .ok (.iconst 2, 1) := by decide +kernel
theorem dX5_run_68 : decode cX5_run 68 = .ok (.invokevirtual 263, 3) := by decide +kernel
theorem dX5_run_71 : decode cX5_run 71 = .ok (.goto 24, 3) := by decide +kernel
theorem dX5_run_74 : decode cX5_run 74 = .ok (.iload_n 2, 1) := by decide +kernel
theorem dX5_run_75 : decode cX5_run 75 = .ok (.iconst 2, 1) := by decide +kernel
theorem dX5_run_76 : decode cX5_run 76 = .ok (.if_icmp .ne 10, 3) := by decide +kernel
theorem dX5_run_79 : decode cX5_run 79 = .ok (.aload_n 0, 1) := by decide +kernel
theorem dX5_run_80 : decode cX5_run 80 = .ok (.invokevirtual 278, 3) := by decide +kernel
theorem dX5_run_83 : decode cX5_run 83 = .ok (.goto 12, 3) := by decide +kernel
theorem dX5_run_86 : decode cX5_run 86 = .ok (.aload_n 0, 1) := by decide +kernel
theorem dX5_run_87 : decode cX5_run 87 = .ok (.getfield 29, 3) := by decide +kernel
theorem dX5_run_90 : decode cX5_run 90 = .ok (.iload_n 2, 1) := by decide +kernel
theorem dX5_run_91 : decode cX5_run 91 = .ok (.bipush 10, 2) := by decide +kernel
theorem dX5_run_93 : decode cX5_run 93 = .ok (.isub, 1) := by decide +kernel
theorem dX5_run_94 : decode cX5_run 94 = .ok (.iaload, 1) := by decide +kernel
theorem dX5_run_95 : decode cX5_run 95 = .ok (.istore_n 3, 1) := by decide +kernel
theorem dX5_run_96 : decode cX5_run 96 = .ok (.aload_n 0, 1) := by decide +kernel
theorem dX5_run_97 : decode cX5_run 97 = .ok (.invokevirtual 294, 3) := by decide +kernel
theorem dX5_run_100 : decode cX5_run 100 = .ok (.iload_n 3, 1) := by decide +kernel
theorem dX5_run_101 : decode cX5_run 101 = .ok (.ireturn, 1) := by decide +kernel
theorem dX5_down_0 : decode cX5_down 0 = .ok (.aload_n 0, 1) := by decide +kernel
theorem dX5_down_1 : decode cX5_down 1 = .ok (.invokevirtual 288, 3) := by decide +kernel
theorem dX5_down_4 : decode cX5_down 4 = .ok (.iconst 0, 1) := by decide +kernel
theorem dX5_down_5 : decode cX5_down 5 = .ok (.istore_n 1, 1) := by decide +kernel
theorem dX5_down_6 : decode cX5_down 6 = .ok (.iload_n 1, 1) := by decide +kernel
theorem dX5_down_7 : decode cX5_down 7 = .ok (.bipush 60, 2) := by decide +kernel
theorem dX5_down_9 : decode cX5_down 9 = .ok (.if_icmp .gt 22, 3) := by decide +kernel
theorem dX5_down_12 : decode cX5_down 12 = .ok (.aload_n 0, 1) := by decide +kernel
theorem dX5_down_13 : decode cX5_down 13 = .ok (.getfield 110, 3) := by decide +kernel
theorem dX5_down_16 : decode cX5_down 16 = .ok (.bipush 100, 2) := by decide +kernel
theorem dX5_down_18 : decode cX5_down 18 = .ok (.if_icmp .ge 13, 3) := by decide +kernel
theorem dX5_down_21 : decode cX5_down 21 = .ok (.aload_n 0, 1) := by decide +kernel
theorem dX5_down_22 : decode cX5_down 22 = .ok (.invokevirtual 285, 3) := by decide +kernel
theorem dX5_down_25 : decode cX5_down 25 = .ok (.iinc 1 1, 3) := by decide +kernel
theorem dX5_down_28 : decode cX5_down 28 = .ok (.goto (-22), 3) := by decide +kernel
theorem dX5_down_31 : decode cX5_down 31 = .ok (.aload_n 0, 1) := by decide +kernel
theorem dX5_down_32 : decode cX5_down 32 = .ok (.invokevirtual 294, 3) := by decide +kernel
theorem dX5_down_35 : decode cX5_down 35 = .ok (.iload_n 1, 1) := by decide +kernel
theorem dX5_down_36 : decode cX5_down 36 = .ok (.bipush 60, 2) := by decide +kernel
theorem dX5_down_38 : decode cX5_down 38 = .ok (.if_icmp .le 7, 3) := by decide +kernel
theorem dX5_down_41 : decode cX5_down 41 = .ok (.iconst (-1), 1) := by decide +kernel
theorem dX5_down_42 : decode cX5_down 42 = .ok (.goto 4, 3) := by decide +kernel
theorem dX5_down_45 : decode cX5_down 45 = .ok (.iload_n 1, 1) := by decide +kernel
theorem dX5_down_46 : decode cX5_down 46 = .ok (.ireturn, 1) := by decide +kernel
theorem dX5_tries_0 : decode cX5_tries 0 = .ok (.iload_n 1, 1) := by decide +kernel
theorem dX5_tries_1 : decode cX5_tries 1 = .ok (.aload_n 0, 1) := by decide +kernel
theorem dX5_tries_2 : decode cX5_tries 2 = .ok (.getfield 303, 3) := by decide +kernel
theorem dX5_tries_5 : decode cX5_tries 5 = .ok (.if_icmp .ne 47, 3) := by decide +kernel
theorem dX5_tries_8 : decode cX5_tries 8 = .ok (.aload_n 0, 1) := by decide +kernel
theorem dX5_tries_9 : decode cX5_tries 9 = .ok (.invokevirtual 288, 3) := by decide +kernel
theorem dX5_tries_12 : decode cX5_tries 12 = .ok (.aload_n 0, 1) := by decide +kernel
theorem dX5_tries_13 : decode cX5_tries 13 = .ok (.invokevirtual 275, 3) := by decide +kernel
theorem dX5_tries_16 : decode cX5_tries 16 = .ok (.aload_n 0, 1) := by decide +kernel
theorem dX5_tries_17 : decode cX5_tries 17 = .ok (.iload_n 3, 1) := by decide +kernel
theorem dX5_tries_18 : decode cX5_tries 18 = .ok (.invokevirtual 291, 3) := by decide +kernel
theorem dX5_tries_21 : decode cX5_tries 21 = .ok (.aload_n 0, 1) := by decide +kernel
theorem dX5_tries_22 : decode cX5_tries 22 = .ok (.getfield 110, 3) := by decide +kernel
theorem dX5_tries_25 : decode cX5_tries 25 = .ok (.istore 4, 2) := by decide +kernel
theorem dX5_tries_27 : decode cX5_tries 27 = .ok (.aload_n 0, 1) := by decide +kernel
theorem dX5_tries_28 : decode cX5_tries 28 = .ok (.invokevirtual 294, 3) := by decide +kernel
theorem dX5_tries_31 : decode cX5_tries 31 = .ok (.iload 4, 2) := by decide +kernel
theorem dX5_tries_33 : decode cX5_tries 33 = .ok (.aload_n 0, 1) := by decide +kernel
theorem dX5_tries_34 : decode cX5_tries 34 = .ok (.getfield 306, 3) := by decide +kernel
theorem dX5_tries_37 : decode cX5_tries 37 = .ok (.if_icmp .ge 14, 3) := by decide +kernel
theorem dX5_tries_40 : decode cX5_tries 40 = .ok (.aload_n 0, 1) := by decide +kernel
theorem dX5_tries_41 : decode cX5_tries 41 = .ok (.iload_n 2, 1) := by decide +kernel
theorem dX5_tries_42 : decode cX5_tries 42 = .ok (.putfield 309, 3) := by decide +kernel
theorem dX5_tries_45 : decode cX5_tries 45 = .ok (.aload_n 0, 1) := by decide +kernel
theorem dX5_tries_46 : decode cX5_tries 46 = .ok (.iload 4, 2) := by decide +kernel
theorem dX5_tries_48 : decode cX5_tries 48 = .ok (.putfield 306, 3) := by decide +kernel
theorem dX5_tries_51 : decode cX5_tries 51 = .ok (.return_, 1) := by decide +kernel
theorem dX5_tries_52 : decode cX5_tries 52 = .ok (.aload_n 0, 1) := by decide +kernel
theorem dX5_tries_53 : decode cX5_tries 53 = .ok (.getfield 29, 3) := by decide +kernel
theorem dX5_tries_56 : decode cX5_tries 56 = .ok (.aload_n 0, 1) := by decide +kernel
theorem dX5_tries_57 : decode cX5_tries 57 = .ok (.getfield 38, 3) := by decide +kernel
theorem dX5_tries_60 : decode cX5_tries 60 = .ok (.iload_n 1, 1) := by decide +kernel
theorem dX5_tries_61 : decode cX5_tries 61 = .ok (.iaload, 1) := by decide +kernel
theorem dX5_tries_62 : decode cX5_tries 62 = .ok (.iaload, 1) := by decide +kernel
theorem dX5_tries_63 : decode cX5_tries 63 = .ok (.istore 4, 2) := by decide +kernel
theorem dX5_tries_65 : decode cX5_tries 65 = .ok (.iconst 0, 1) := by decide +kernel
theorem dX5_tries_66 : decode cX5_tries 66 = .ok (.istore 5, 2) := by decide +kernel
theorem dX5_tries_68 : decode cX5_tries 68 = .ok (.iload 5, 2) := by decide +kernel
theorem dX5_tries_70 : decode cX5_tries 70 = .ok (.aload_n 0, 1) := by decide +kernel
theorem dX5_tries_71 : decode cX5_tries 71 = .ok (.getfield 73, 3) := by decide +kernel
theorem dX5_tries_74 : decode cX5_tries 74 = .ok (.if_icmp .ge 74, 3) := by decide +kernel
theorem dX5_tries_77 : decode cX5_tries 77 = .ok (.aload_n 0, 1) := by decide +kernel
theorem dX5_tries_78 : decode cX5_tries 78 = .ok (.iload 5, 2) := by decide +kernel
theorem dX5_tries_80 : decode cX5_tries 80 = .ok (.iconst 0, 1) := by decide +kernel
theorem dX5_tries_81 : decode cX5_tries 81 = .ok (.invokevirtual 129, 3) := by decide +kernel
theorem dX5_tries_84 : decode cX5_tries 84 = .ok (.ifCond .eq 58, 3) := by decide +kernel
theorem dX5_tries_87 : decode cX5_tries 87 = .ok (.aload_n 0, 1) := by decide +kernel
theorem dX5_tries_88 : decode cX5_tries 88 = .ok (.iload 5, 2) := by decide +kernel
theorem dX5_tries_90 : decode cX5_tries 90 = .ok (.aload_n 0, 1) := by decide +kernel
theorem dX5_tries_91 : decode cX5_tries 91 = .ok (.getfield 38, 3) := by decide +kernel
theorem dX5_tries_94 : decode cX5_tries 94 = .ok (.iload_n 1, 1) := by decide +kernel
theorem dX5_tries_95 : decode cX5_tries 95 = .ok (.iaload, 1) := by decide +kernel
theorem dX5_tries_96 : decode cX5_tries 96 = .ok (.invokevirtual 272, 3) := by decide +kernel
theorem dX5_tries_99 : decode cX5_tries 99 = .ok (.pop, 1) := by decide +kernel
theorem dX5_tries_100 : decode cX5_tries 100 = .ok (.aload_n 0, 1) := by decide +kernel
theorem dX5_tries_101 : decode cX5_tries 101 = .ok (.iload_n 1, 1) := by decide +kernel
theorem dX5_tries_102 : decode cX5_tries 102 = .ok (.iconst 1, 1) := by decide +kernel
theorem dX5_tries_103 : decode cX5_tries 103 = .ok (.iadd, 1) := by decide +kernel
theorem dX5_tries_104 : decode cX5_tries 104 = .ok (.bipush 6, 2) := by decide +kernel
theorem dX5_tries_106 : decode cX5_tries 106 = .ok (.iload_n 2, 1) := by decide +kernel
theorem dX5_tries_107 : decode cX5_tries 107 = .ok (.imul, 1) := by decide +kernel
theorem dX5_tries_108 : decode cX5_tries 108 = .ok (.iload 5, 2) := by decide +kernel
theorem dX5_tries_110 : decode cX5_tries 110 = .ok (.iadd, 1) := by decide +kernel
theorem dX5_tries_111 : decode cX5_tries 111 = .ok (.iconst 1, 1) := by decide +kernel
theorem dX5_tries_112 : decode cX5_tries 112 = .ok (.iadd, 1) := by decide +kernel
theorem dX5_tries_113 : decode cX5_tries 113 = .ok (.iload_n 3, 1) := by decide +kernel
theorem dX5_tries_114 : decode cX5_tries 114 = .ok (.invokevirtual 312, 3) := by decide +kernel
theorem dX5_tries_117 : decode cX5_tries 117 = .ok (.aload_n 0, 1) := by decide +kernel
theorem dX5_tries_118 : decode cX5_tries 118 = .ok (.getfield 26, 3) := by decide +kernel
theorem dX5_tries_121 : decode cX5_tries 121 = .ok (.aload_n 0, 1) := by decide +kernel
theorem dX5_tries_122 : decode cX5_tries 122 = .ok (.getfield 38, 3) := by decide +kernel
theorem dX5_tries_125 : decode cX5_tries 125 = .ok (.iload_n 1, 1) := by decide +kernel
theorem dX5_tries_126 : decode cX5_tries 126 = .ok (.iaload, 1) := by decide +kernel
theorem dX5_tries_127 : decode cX5_tries 127 = .ok (.iconst (-1), 1) := by decide +kernel
theorem dX5_tries_128 : decode cX5_tries 128 = .ok (.iastore, 1) := by decide +kernel
theorem dX5_tries_129 : decode cX5_tries 129 = .ok (.aload_n 0, 1) := by decide +kernel
theorem dX5_tries_130 : decode cX5_tries 130 = .ok (.getfield 29, 3) := by decide +kernel
theorem dX5_tries_133 : decode cX5_tries 133 = .ok (.aload_n 0, 1) := by decide +kernel
theorem dX5_tries_134 : decode cX5_tries 134 = .ok (.getfield 38, 3) := by decide +kernel
theorem dX5_tries_137 : decode cX5_tries 137 = .ok (.iload_n 1, 1) := by decide +kernel
theorem dX5_tries_138 : decode cX5_tries 138 = .ok (.iaload, 1) := by decide +kernel
theorem dX5_tries_139 : decode cX5_tries 139 = .ok (.iload 4, 2) := by decide +kernel
theorem dX5_tries_141 : decode cX5_tries 141 = .ok (.iastore, 1) := by decide +kernel
theorem dX5_tries_142 : decode cX5_tries 142 = .ok (.iinc 5 1, 3) := by decide +kernel
theorem dX5_tries_145 : decode cX5_tries 145 = .ok (.goto (-77), 3) := by decide +kernel
theorem dX5_tries_148 : decode cX5_tries 148 = .ok (.return_, 1) := by decide +kernel
theorem dX5_yard_0 : decode cX5_yard 0 = .ok (.iload_n 1, 1) := by decide +kernel
theorem dX5_yard_1 : decode cX5_yard 1 = .ok (.i2l, 1) := by decide +kernel
theorem dX5_yard_2 : decode cX5_yard 2 = .ok (.lconst 0, 1) := by decide +kernel
theorem dX5_yard_3 : decode cX5_yard 3 = .ok (.ldc2_w 315, 3) := by decide +kernel
theorem dX5_yard_6 : decode cX5_yard 6 = .ok (.invokestatic 76, 3) := by decide +kernel
theorem dX5_yard_9 : decode cX5_yard 9 = .ok (.ifCond .eq 13, 3) := by decide +kernel
theorem dX5_yard_12 : decode cX5_yard 12 = .ok (.iload_n 2, 1) := by decide +kernel
theorem dX5_yard_13 : decode cX5_yard 13 = .ok (.i2l, 1) := by decide +kernel
theorem dX5_yard_14 : decode cX5_yard 14 = .ok (.lconst 0, 1) := by decide +kernel
theorem dX5_yard_15 : decode cX5_yard 15 = .ok (.lconst 1, 1) := by decide +kernel
theorem dX5_yard_16 : decode cX5_yard 16 = .ok (.invokestatic 76, 3) := by decide +kernel
theorem dX5_yard_19 : decode cX5_yard 19 = .ok (.ifCond .ne 6, 3) := by decide +kernel
theorem dX5_yard_22 : decode cX5_yard 22 = .ok (.bipush (-2), 2) := by decide +kernel
theorem dX5_yard_24 : decode cX5_yard 24 = .ok (.ireturn, 1) := by decide +kernel
theorem dX5_yard_25 : decode cX5_yard 25 = .ok (.aload_n 0, 1) := by decide +kernel
theorem dX5_yard_26 : decode cX5_yard 26 = .ok (.iconst 0, 1) := by decide +kernel
theorem dX5_yard_27 : decode cX5_yard 27 = .ok (.putfield 303, 3) := by decide +kernel
theorem dX5_yard_30 : decode cX5_yard 30 = .ok (.iconst 0, 1) := by decide +kernel
theorem dX5_yard_31 : decode cX5_yard 31 = .ok (.istore_n 3, 1) := by decide +kernel
theorem dX5_yard_32 : decode cX5_yard 32 = .ok (.iload_n 3, 1) := by decide +kernel
theorem dX5_yard_33 : decode cX5_yard 33 = .ok (.bipush 10, 2) := by decide +kernel
theorem dX5_yard_35 : decode cX5_yard 35 = .ok (.if_icmp .ge 55, 3) := by decide +kernel
theorem dX5_yard_38 : decode cX5_yard 38 = .ok (.aload_n 0, 1) := by decide +kernel
theorem dX5_yard_39 : decode cX5_yard 39 = .ok (.getfield 26, 3) := by decide +kernel
theorem dX5_yard_42 : decode cX5_yard 42 = .ok (.iload_n 3, 1) := by decide +kernel
theorem dX5_yard_43 : decode cX5_yard 43 = .ok (.iaload, 1) := by decide +kernel
theorem dX5_yard_44 : decode cX5_yard 44 = .ok (.iconst (-1), 1) := by decide +kernel
theorem dX5_yard_45 : decode cX5_yard 45 = .ok (.if_icmp .ne 39, 3) := by decide +kernel
theorem dX5_yard_48 : decode cX5_yard 48 = .ok (.aload_n 0, 1) := by decide +kernel
theorem dX5_yard_49 : decode cX5_yard 49 = .ok (.getfield 303, 3) := by decide +kernel
theorem dX5_yard_52 : decode cX5_yard 52 = .ok (.iconst 3, 1) := by decide +kernel
theorem dX5_yard_53 : decode cX5_yard 53 = .ok (.if_icmp .ge 31, 3) := by decide +kernel
theorem dX5_yard_56 : decode cX5_yard 56 = .ok (.aload_n 0, 1) := by decide +kernel
theorem dX5_yard_57 : decode cX5_yard 57 = .ok (.iconst 0, 1) := by decide +kernel
theorem dX5_yard_58 : decode cX5_yard 58 = .ok (.invokevirtual 263, 3) := by decide +kernel
theorem dX5_yard_61 : decode cX5_yard 61 = .ok (.ifCond .eq 23, 3) := by decide +kernel
theorem dX5_yard_64 : decode cX5_yard 64 = .ok (.aload_n 0, 1) := by decide +kernel
theorem dX5_yard_65 : decode cX5_yard 65 = .ok (.getfield 38, 3) := by decide +kernel
theorem dX5_yard_68 : decode cX5_yard 68 = .ok (.aload_n 0, 1) := by decide +kernel
theorem dX5_yard_69 : decode cX5_yard 69 = .ok (.getfield 303, 3) := by decide +kernel
theorem dX5_yard_72 : decode cX5_yard 72 = .ok (.iload_n 3, 1) := by decide +kernel
theorem dX5_yard_73 : decode cX5_yard 73 = .ok (.iastore, 1) := by decide +kernel
theorem dX5_yard_74 : decode cX5_yard 74 = .ok (.aload_n 0, 1) := by decide +kernel
theorem dX5_yard_75 : decode cX5_yard 75 = .ok (.dup, 1) := by decide +kernel
theorem dX5_yard_76 : decode cX5_yard 76 = .ok (.getfield 303, 3) := by decide +kernel
theorem dX5_yard_79 : decode cX5_yard 79 = .ok (.iconst 1, 1) := by decide +kernel
theorem dX5_yard_80 : decode cX5_yard 80 = .ok (.iadd, 1) := by decide +kernel
theorem dX5_yard_81 : decode cX5_yard 81 = .ok (.putfield 303, 3) := by decide +kernel
theorem dX5_yard_84 : decode cX5_yard 84 = .ok (.iinc 3 1, 3) := by decide +kernel
theorem dX5_yard_87 : decode cX5_yard 87 = .ok (.goto (-55), 3) := by decide +kernel
theorem dX5_yard_90 : decode cX5_yard 90 = .ok (.aload_n 0, 1) := by decide +kernel
theorem dX5_yard_91 : decode cX5_yard 91 = .ok (.iconst 0, 1) := by decide +kernel
theorem dX5_yard_92 : decode cX5_yard 92 = .ok (.putfield 309, 3) := by decide +kernel
theorem dX5_yard_95 : decode cX5_yard 95 = .ok (.aload_n 0, 1) := by decide +kernel
theorem dX5_yard_96 : decode cX5_yard 96 = .ok (.bipush 101, 2) := by decide +kernel
theorem dX5_yard_98 : decode cX5_yard 98 = .ok (.putfield 306, 3) := by decide +kernel
theorem dX5_yard_101 : decode cX5_yard 101 = .ok (.aload_n 0, 1) := by decide +kernel
theorem dX5_yard_102 : decode cX5_yard 102 = .ok (.iconst 0, 1) := by decide +kernel
theorem dX5_yard_103 : decode cX5_yard 103 = .ok (.iconst 0, 1) := by decide +kernel
theorem dX5_yard_104 : decode cX5_yard 104 = .ok (.iload_n 1, 1) := by decide +kernel
theorem dX5_yard_105 : decode cX5_yard 105 = .ok (.invokevirtual 312, 3) := by decide +kernel
theorem dX5_yard_108 : decode cX5_yard 108 = .ok (.iload_n 2, 1) := by decide +kernel
theorem dX5_yard_109 : decode cX5_yard 109 = .ok (.ifCond .ne 10, 3) := by decide +kernel
theorem dX5_yard_112 : decode cX5_yard 112 = .ok (.aload_n 0, 1) := by decide +kernel
theorem dX5_yard_113 : decode cX5_yard 113 = .ok (.getfield 309, 3) := by decide +kernel
theorem dX5_yard_116 : decode cX5_yard 116 = .ok (.goto 7, 3) := by decide +kernel
theorem dX5_yard_119 : decode cX5_yard 119 = .ok (.aload_n 0, 1) := by decide +kernel
theorem dX5_yard_120 : decode cX5_yard 120 = .ok (.getfield 306, 3) := by decide +kernel
theorem dX5_yard_123 : decode cX5_yard 123 = .ok (.ireturn, 1) := by decide +kernel
theorem dX5_stands_0 : decode cX5_stands 0 = .ok (.iload_n 1, 1) := by decide +kernel
theorem dX5_stands_1 : decode cX5_stands 1 = .ok (.i2l, 1) := by decide +kernel
theorem dX5_stands_2 : decode cX5_stands 2 = .ok (.lconst 1, 1) := by decide +kernel
theorem dX5_stands_3 : decode cX5_stands 3 = .ok (.ldc2_w 297, 3) := by decide +kernel
theorem dX5_stands_6 : decode cX5_stands 6 = .ok (.invokestatic 76, 3) := by decide +kernel
theorem dX5_stands_9 : decode cX5_stands 9 = .ok (.ifCond .ne 6, 3) := by decide +kernel
theorem dX5_stands_12 : decode cX5_stands 12 = .ok (.bipush (-2), 2) := by decide +kernel
theorem dX5_stands_14 : decode cX5_stands 14 = .ok (.ireturn, 1) := by decide +kernel
theorem dX5_stands_15 : decode cX5_stands 15 = .ok (.aload_n 0, 1) := by decide +kernel
theorem dX5_stands_16 : decode cX5_stands 16 = .ok (.getfield 23, 3) := by decide +kernel
theorem dX5_stands_19 : decode cX5_stands 19 = .ok (.istore_n 2, 1) := by decide +kernel
theorem dX5_stands_20 : decode cX5_stands 20 = .ok (.iconst (-1), 1) := by decide +kernel
theorem dX5_stands_21 : decode cX5_stands 21 = .ok (.istore_n 3, 1) := by decide +kernel
theorem dX5_stands_22 : decode cX5_stands 22 = .ok (.bipush 99, 2) := by decide +kernel
theorem dX5_stands_24 : decode cX5_stands 24 = .ok (.istore 4, 2) := by decide +kernel
theorem dX5_stands_26 : decode cX5_stands 26 = .ok (.iload 4, 2) := by decide +kernel
theorem dX5_stands_28 : decode cX5_stands 28 = .ok (.ifCond .lt 37, 3) := by decide +kernel
theorem dX5_stands_31 : decode cX5_stands 31 = .ok (.iload_n 3, 1) := by decide +kernel
theorem dX5_stands_32 : decode cX5_stands 32 = .ok (.iconst (-1), 1) := by decide +kernel
theorem dX5_stands_33 : decode cX5_stands 33 = .ok (.if_icmp .ne 32, 3) := by decide +kernel
theorem dX5_stands_36 : decode cX5_stands 36 = .ok (.aload_n 0, 1) := by decide +kernel
theorem dX5_stands_37 : decode cX5_stands 37 = .ok (.iload 4, 2) := by decide +kernel
theorem dX5_stands_39 : decode cX5_stands 39 = .ok (.putfield 23, 3) := by decide +kernel
theorem dX5_stands_42 : decode cX5_stands 42 = .ok (.aload_n 0, 1) := by decide +kernel
theorem dX5_stands_43 : decode cX5_stands 43 = .ok (.iload_n 1, 1) := by decide +kernel
theorem dX5_stands_44 : decode cX5_stands 44 = .ok (.invokevirtual 317, 3) := by decide +kernel
theorem dX5_stands_47 : decode cX5_stands 47 = .ok (.bipush 100, 2) := by decide +kernel
theorem dX5_stands_49 : decode cX5_stands 49 = .ok (.if_icmp .ge 8, 3) := by decide +kernel
theorem dX5_stands_52 : decode cX5_stands 52 = .ok (.iload 4, 2) := by decide +kernel
theorem dX5_stands_54 : decode cX5_stands 54 = .ok (.goto 4, 3) := by decide +kernel
theorem dX5_stands_57 : decode cX5_stands 57 = .ok (.iconst (-1), 1) := by decide +kernel
theorem dX5_stands_58 : decode cX5_stands 58 = .ok (.istore_n 3, 1) := by decide +kernel
theorem dX5_stands_59 : decode cX5_stands 59 = .ok (.iinc 4 (-1), 3) := by decide +kernel
theorem dX5_stands_62 : decode cX5_stands 62 = .ok (.goto (-36), 3) := by decide +kernel
theorem dX5_stands_65 : decode cX5_stands 65 = .ok (.aload_n 0, 1) := by decide +kernel
theorem dX5_stands_66 : decode cX5_stands 66 = .ok (.iload_n 2, 1) := by decide +kernel
theorem dX5_stands_67 : decode cX5_stands 67 = .ok (.putfield 23, 3) := by decide +kernel
theorem dX5_stands_70 : decode cX5_stands 70 = .ok (.iload_n 3, 1) := by decide +kernel
theorem dX5_stands_71 : decode cX5_stands 71 = .ok (.ireturn, 1) := by decide +kernel
theorem dX5_goers_0 : decode cX5_goers 0 = .ok (.iconst 1, 1) := by decide +kernel
theorem dX5_goers_1 : decode cX5_goers 1 = .ok (.aload_n 0, 1) := by decide +kernel
theorem dX5_goers_2 : decode cX5_goers 2 = .ok (.getfield 73, 3) := by decide +kernel
theorem dX5_goers_5 : decode cX5_goers 5 = .ok (.ishl, 1) := by decide +kernel
theorem dX5_goers_6 : decode cX5_goers 6 = .ok (.iconst 1, 1) := by decide +kernel
theorem dX5_goers_7 : decode cX5_goers 7 = .ok (.isub, 1) := by decide +kernel
theorem dX5_goers_8 : decode cX5_goers 8 = .ok (.aload_n 0, 1) := by decide +kernel
theorem dX5_goers_9 : decode cX5_goers 9 = .ok (.iconst 2, 1) := by decide +kernel
theorem dX5_goers_10 : decode cX5_goers 10 = .ok (.invokevirtual 263, 3) := by decide +kernel
theorem dX5_goers_13 : decode cX5_goers 13 = .ok (.iconst (-1), 1) := by decide +kernel
theorem dX5_goers_14 : decode cX5_goers 14 = .ok (.ixor, 1) := by decide +kernel
theorem dX5_goers_15 : decode cX5_goers 15 = .ok (.iand, 1) := by decide +kernel
theorem dX5_goers_16 : decode cX5_goers 16 = .ok (.istore_n 2, 1) := by decide +kernel
theorem dX5_goers_17 : decode cX5_goers 17 = .ok (.aload_n 0, 1) := by decide +kernel
theorem dX5_goers_18 : decode cX5_goers 18 = .ok (.iconst 1, 1) := by decide +kernel
theorem dX5_goers_19 : decode cX5_goers 19 = .ok (.invokevirtual 263, 3) := by decide +kernel
theorem dX5_goers_22 : decode cX5_goers 22 = .ok (.istore_n 3, 1) := by decide +kernel
theorem dX5_goers_23 : decode cX5_goers 23 = .ok (.iconst (-1), 1) := by decide +kernel
theorem dX5_goers_24 : decode cX5_goers 24 = .ok (.istore 4, 2) := by decide +kernel
theorem dX5_goers_26 : decode cX5_goers 26 = .ok (.iconst 0, 1) := by decide +kernel
theorem dX5_goers_27 : decode cX5_goers 27 = .ok (.istore 5, 2) := by decide +kernel
theorem dX5_goers_29 : decode cX5_goers 29 = .ok (.iload 5, 2) := by decide +kernel
theorem dX5_goers_31 : decode cX5_goers 31 = .ok (.iconst 1, 1) := by decide +kernel
theorem dX5_goers_32 : decode cX5_goers 32 = .ok (.aload_n 0, 1) := by decide +kernel
theorem dX5_goers_33 : decode cX5_goers 33 = .ok (.getfield 73, 3) := by decide +kernel
theorem dX5_goers_36 : decode cX5_goers 36 = .ok (.ishl, 1) := by decide +kernel
theorem dX5_goers_37 : decode cX5_goers 37 = .ok (.if_icmp .ge 63, 3) := by decide +kernel
theorem dX5_goers_40 : decode cX5_goers 40 = .ok (.iload 5, 2) := by decide +kernel
theorem dX5_goers_42 : decode cX5_goers 42 = .ok (.iload_n 2, 1) := by decide +kernel
theorem dX5_goers_43 : decode cX5_goers 43 = .ok (.iconst (-1), 1) := by decide +kernel
theorem dX5_goers_44 : decode cX5_goers 44 = .ok (.ixor, 1) := by decide +kernel
theorem dX5_goers_45 : decode cX5_goers 45 = .ok (.iand, 1) := by decide +kernel
theorem dX5_goers_46 : decode cX5_goers 46 = .ok (.ifCond .ne 48, 3) := by decide +kernel
theorem dX5_goers_49 : decode cX5_goers 49 = .ok (.iload 4, 2) := by decide +kernel
theorem dX5_goers_51 : decode cX5_goers 51 = .ok (.iconst (-1), 1) := by decide +kernel
theorem dX5_goers_52 : decode cX5_goers 52 = .ok (.if_icmp .eq 16, 3) := by decide +kernel
theorem dX5_goers_55 : decode cX5_goers 55 = .ok (.iload 5, 2) := by decide +kernel
theorem dX5_goers_57 : decode cX5_goers 57 = .ok (.invokestatic 260, 3) := by decide +kernel
theorem dX5_goers_60 : decode cX5_goers 60 = .ok (.iload 4, 2) := by decide +kernel
theorem dX5_goers_62 : decode cX5_goers 62 = .ok (.invokestatic 260, 3) := by decide +kernel
theorem dX5_goers_65 : decode cX5_goers 65 = .ok (.if_icmp .ge 29, 3) := by decide +kernel
theorem dX5_goers_68 : decode cX5_goers 68 = .ok (.aload_n 0, 1) := by decide +kernel
theorem dX5_goers_69 : decode cX5_goers 69 = .ok (.iload 5, 2) := by decide +kernel
theorem dX5_goers_71 : decode cX5_goers 71 = .ok (.iload_n 2, 1) := by decide +kernel
theorem dX5_goers_72 : decode cX5_goers 72 = .ok (.invokevirtual 320, 3) := by decide +kernel
theorem dX5_goers_75 : decode cX5_goers 75 = .ok (.aload_n 0, 1) := by decide +kernel
theorem dX5_goers_76 : decode cX5_goers 76 = .ok (.iload_n 1, 1) := by decide +kernel
theorem dX5_goers_77 : decode cX5_goers 77 = .ok (.invokevirtual 317, 3) := by decide +kernel
theorem dX5_goers_80 : decode cX5_goers 80 = .ok (.bipush 100, 2) := by decide +kernel
theorem dX5_goers_82 : decode cX5_goers 82 = .ok (.if_icmp .ge 8, 3) := by decide +kernel
theorem dX5_goers_85 : decode cX5_goers 85 = .ok (.iload 5, 2) := by decide +kernel
theorem dX5_goers_87 : decode cX5_goers 87 = .ok (.goto 5, 3) := by decide +kernel
theorem dX5_goers_90 : decode cX5_goers 90 = .ok (.iload 4, 2) := by decide +kernel
theorem dX5_goers_92 : decode cX5_goers 92 = .ok (.istore 4, 2) := by decide +kernel
theorem dX5_goers_94 : decode cX5_goers 94 = .ok (.iinc 5 1, 3) := by decide +kernel
theorem dX5_goers_97 : decode cX5_goers 97 = .ok (.goto (-68), 3) := by decide +kernel
theorem dX5_goers_100 : decode cX5_goers 100 = .ok (.aload_n 0, 1) := by decide +kernel
theorem dX5_goers_101 : decode cX5_goers 101 = .ok (.iload_n 3, 1) := by decide +kernel
theorem dX5_goers_102 : decode cX5_goers 102 = .ok (.iload_n 2, 1) := by decide +kernel
theorem dX5_goers_103 : decode cX5_goers 103 = .ok (.invokevirtual 320, 3) := by decide +kernel
theorem dX5_goers_106 : decode cX5_goers 106 = .ok (.iload 4, 2) := by decide +kernel
theorem dX5_goers_108 : decode cX5_goers 108 = .ok (.ireturn, 1) := by decide +kernel
theorem dX5_placed_0 : decode cX5_placed 0 = .ok (.iconst 0, 1) := by decide +kernel
theorem dX5_placed_1 : decode cX5_placed 1 = .ok (.istore_n 3, 1) := by decide +kernel
theorem dX5_placed_2 : decode cX5_placed 2 = .ok (.iload_n 3, 1) := by decide +kernel
theorem dX5_placed_3 : decode cX5_placed 3 = .ok (.aload_n 0, 1) := by decide +kernel
theorem dX5_placed_4 : decode cX5_placed 4 = .ok (.getfield 73, 3) := by decide +kernel
theorem dX5_placed_7 : decode cX5_placed 7 = .ok (.if_icmp .ge 37, 3) := by decide +kernel
theorem dX5_placed_10 : decode cX5_placed 10 = .ok (.aload_n 0, 1) := by decide +kernel
theorem dX5_placed_11 : decode cX5_placed 11 = .ok (.getfield 32, 3) := by decide +kernel
theorem dX5_placed_14 : decode cX5_placed 14 = .ok (.iconst 4, 1) := by decide +kernel
theorem dX5_placed_15 : decode cX5_placed 15 = .ok (.iload_n 3, 1) := by decide +kernel
theorem dX5_placed_16 : decode cX5_placed 16 = .ok (.imul, 1) := by decide +kernel
theorem dX5_placed_17 : decode cX5_placed 17 = .ok (.iconst 3, 1) := by decide +kernel
theorem dX5_placed_18 : decode cX5_placed 18 = .ok (.iadd, 1) := by decide +kernel
theorem dX5_placed_19 : decode cX5_placed 19 = .ok (.iload_n 2, 1) := by decide +kernel
theorem dX5_placed_20 : decode cX5_placed 20 = .ok (.iload_n 3, 1) := by decide +kernel
theorem dX5_placed_21 : decode cX5_placed 21 = .ok (.ishr, 1) := by decide +kernel
theorem dX5_placed_22 : decode cX5_placed 22 = .ok (.iconst 1, 1) := by decide +kernel
theorem dX5_placed_23 : decode cX5_placed 23 = .ok (.iand, 1) := by decide +kernel
theorem dX5_placed_24 : decode cX5_placed 24 = .ok (.iconst 1, 1) := by decide +kernel
theorem dX5_placed_25 : decode cX5_placed 25 = .ok (.if_icmp .ne 11, 3) := by decide +kernel
theorem dX5_placed_28 : decode cX5_placed 28 = .ok (.iload_n 1, 1) := by decide +kernel
theorem dX5_placed_29 : decode cX5_placed 29 = .ok (.iload_n 3, 1) := by decide +kernel
theorem dX5_placed_30 : decode cX5_placed 30 = .ok (.ishr, 1) := by decide +kernel
theorem dX5_placed_31 : decode cX5_placed 31 = .ok (.iconst 1, 1) := by decide +kernel
theorem dX5_placed_32 : decode cX5_placed 32 = .ok (.iand, 1) := by decide +kernel
theorem dX5_placed_33 : decode cX5_placed 33 = .ok (.goto 4, 3) := by decide +kernel
theorem dX5_placed_36 : decode cX5_placed 36 = .ok (.iconst 2, 1) := by decide +kernel
theorem dX5_placed_37 : decode cX5_placed 37 = .ok (.iastore, 1) := by decide +kernel
theorem dX5_placed_38 : decode cX5_placed 38 = .ok (.iinc 3 1, 3) := by decide +kernel
theorem dX5_placed_41 : decode cX5_placed 41 = .ok (.goto (-39), 3) := by decide +kernel
theorem dX5_placed_44 : decode cX5_placed 44 = .ok (.return_, 1) := by decide +kernel
theorem dX5_go_0 : decode cX5_go 0 = .ok (.iload_n 1, 1) := by decide +kernel
theorem dX5_go_1 : decode cX5_go 1 = .ok (.i2l, 1) := by decide +kernel
theorem dX5_go_2 : decode cX5_go 2 = .ok (.lconst 0, 1) := by decide +kernel
theorem dX5_go_3 : decode cX5_go 3 = .ok (.ldc2_w 297, 3) := by decide +kernel
theorem dX5_go_6 : decode cX5_go 6 = .ok (.invokestatic 76, 3) := by decide +kernel
theorem dX5_go_9 : decode cX5_go 9 = .ok (.ifCond .eq 13, 3) := by decide +kernel
theorem dX5_go_12 : decode cX5_go 12 = .ok (.iload_n 2, 1) := by decide +kernel
theorem dX5_go_13 : decode cX5_go 13 = .ok (.i2l, 1) := by decide +kernel
theorem dX5_go_14 : decode cX5_go 14 = .ok (.lconst 0, 1) := by decide +kernel
theorem dX5_go_15 : decode cX5_go 15 = .ok (.lconst 1, 1) := by decide +kernel
theorem dX5_go_16 : decode cX5_go 16 = .ok (.invokestatic 76, 3) := by decide +kernel
theorem dX5_go_19 : decode cX5_go 19 = .ok (.ifCond .ne 6, 3) := by decide +kernel
theorem dX5_go_22 : decode cX5_go 22 = .ok (.bipush (-2), 2) := by decide +kernel
theorem dX5_go_24 : decode cX5_go 24 = .ok (.ireturn, 1) := by decide +kernel
theorem dX5_go_25 : decode cX5_go 25 = .ok (.aload_n 0, 1) := by decide +kernel
theorem dX5_go_26 : decode cX5_go 26 = .ok (.iload_n 1, 1) := by decide +kernel
theorem dX5_go_27 : decode cX5_go 27 = .ok (.invokevirtual 324, 3) := by decide +kernel
theorem dX5_go_30 : decode cX5_go 30 = .ok (.istore_n 3, 1) := by decide +kernel
theorem dX5_go_31 : decode cX5_go 31 = .ok (.iload_n 2, 1) := by decide +kernel
theorem dX5_go_32 : decode cX5_go 32 = .ok (.ifCond .eq 8, 3) := by decide +kernel
theorem dX5_go_35 : decode cX5_go 35 = .ok (.iload_n 3, 1) := by decide +kernel
theorem dX5_go_36 : decode cX5_go 36 = .ok (.iconst (-1), 1) := by decide +kernel
theorem dX5_go_37 : decode cX5_go 37 = .ok (.if_icmp .ne 7, 3) := by decide +kernel
theorem dX5_go_40 : decode cX5_go 40 = .ok (.iload_n 3, 1) := by decide +kernel
theorem dX5_go_41 : decode cX5_go 41 = .ok (.goto 7, 3) := by decide +kernel
theorem dX5_go_44 : decode cX5_go 44 = .ok (.iload_n 3, 1) := by decide +kernel
theorem dX5_go_45 : decode cX5_go 45 = .ok (.invokestatic 260, 3) := by decide +kernel
theorem dX5_go_48 : decode cX5_go 48 = .ok (.ireturn, 1) := by decide +kernel
theorem dX5_worst_0 : decode cX5_worst 0 = .ok (.iconst (-1), 1) := by decide +kernel
theorem dX5_worst_1 : decode cX5_worst 1 = .ok (.istore_n 1, 1) := by decide +kernel
theorem dX5_worst_2 : decode cX5_worst 2 = .ok (.iconst 0, 1) := by decide +kernel
theorem dX5_worst_3 : decode cX5_worst 3 = .ok (.istore_n 2, 1) := by decide +kernel
theorem dX5_worst_4 : decode cX5_worst 4 = .ok (.iconst 0, 1) := by decide +kernel
theorem dX5_worst_5 : decode cX5_worst 5 = .ok (.istore_n 3, 1) := by decide +kernel
theorem dX5_worst_6 : decode cX5_worst 6 = .ok (.iload_n 3, 1) := by decide +kernel
theorem dX5_worst_7 : decode cX5_worst 7 = .ok (.bipush 10, 2) := by decide +kernel
theorem dX5_worst_9 : decode cX5_worst 9 = .ok (.if_icmp .ge 26, 3) := by decide +kernel
theorem dX5_worst_12 : decode cX5_worst 12 = .ok (.aload_n 0, 1) := by decide +kernel
theorem dX5_worst_13 : decode cX5_worst 13 = .ok (.iload_n 3, 1) := by decide +kernel
theorem dX5_worst_14 : decode cX5_worst 14 = .ok (.invokevirtual 126, 3) := by decide +kernel
theorem dX5_worst_17 : decode cX5_worst 17 = .ok (.iload_n 2, 1) := by decide +kernel
theorem dX5_worst_18 : decode cX5_worst 18 = .ok (.if_icmp .le 11, 3) := by decide +kernel
theorem dX5_worst_21 : decode cX5_worst 21 = .ok (.iload_n 3, 1) := by decide +kernel
theorem dX5_worst_22 : decode cX5_worst 22 = .ok (.istore_n 1, 1) := by decide +kernel
theorem dX5_worst_23 : decode cX5_worst 23 = .ok (.aload_n 0, 1) := by decide +kernel
theorem dX5_worst_24 : decode cX5_worst 24 = .ok (.iload_n 3, 1) := by decide +kernel
theorem dX5_worst_25 : decode cX5_worst 25 = .ok (.invokevirtual 126, 3) := by decide +kernel
theorem dX5_worst_28 : decode cX5_worst 28 = .ok (.istore_n 2, 1) := by decide +kernel
theorem dX5_worst_29 : decode cX5_worst 29 = .ok (.iinc 3 1, 3) := by decide +kernel
theorem dX5_worst_32 : decode cX5_worst 32 = .ok (.goto (-26), 3) := by decide +kernel
theorem dX5_worst_35 : decode cX5_worst 35 = .ok (.iload_n 1, 1) := by decide +kernel
theorem dX5_worst_36 : decode cX5_worst 36 = .ok (.ireturn, 1) := by decide +kernel
theorem dX5_lowest_0 : decode cX5_lowest 0 = .ok (.lload_n 0, 1) := by decide +kernel
theorem dX5_lowest_1 : decode cX5_lowest 1 = .ok (.lstore 5, 2) := by decide +kernel
theorem dX5_lowest_3 : decode cX5_lowest 3 = .ok (.lload_n 2, 1) := by decide +kernel
theorem dX5_lowest_4 : decode cX5_lowest 4 = .ok (.lstore 7, 2) := by decide +kernel
theorem dX5_lowest_6 : decode cX5_lowest 6 = .ok (.lload 7, 2) := by decide +kernel
theorem dX5_lowest_8 : decode cX5_lowest 8 = .ok (.lconst 0, 1) := by decide +kernel
theorem dX5_lowest_9 : decode cX5_lowest 9 = .ok (.lcmp, 1) := by decide +kernel
theorem dX5_lowest_10 : decode cX5_lowest 10 = .ok (.ifCond .eq 21, 3) := by decide +kernel
theorem dX5_lowest_13 : decode cX5_lowest 13 = .ok (.lload 5, 2) := by decide +kernel
theorem dX5_lowest_15 : decode cX5_lowest 15 = .ok (.lload 7, 2) := by decide +kernel
theorem dX5_lowest_17 : decode cX5_lowest 17 = .ok (.lrem, 1) := by decide +kernel
theorem dX5_lowest_18 : decode cX5_lowest 18 = .ok (.lstore 9, 2) := by decide +kernel
theorem dX5_lowest_20 : decode cX5_lowest 20 = .ok (.lload 7, 2) := by decide +kernel
theorem dX5_lowest_22 : decode cX5_lowest 22 = .ok (.lstore 5, 2) := by decide +kernel
theorem dX5_lowest_24 : decode cX5_lowest 24 = .ok (.lload 9, 2) := by decide +kernel
theorem dX5_lowest_26 : decode cX5_lowest 26 = .ok (.lstore 7, 2) := by decide +kernel
theorem dX5_lowest_28 : decode cX5_lowest 28 = .ok (.goto (-22), 3) := by decide +kernel
theorem dX5_lowest_31 : decode cX5_lowest 31 = .ok (.iload 4, 2) := by decide +kernel
theorem dX5_lowest_33 : decode cX5_lowest 33 = .ok (.ifCond .ne 10, 3) := by decide +kernel
theorem dX5_lowest_36 : decode cX5_lowest 36 = .ok (.lload_n 0, 1) := by decide +kernel
theorem dX5_lowest_37 : decode cX5_lowest 37 = .ok (.lload 5, 2) := by decide +kernel
theorem dX5_lowest_39 : decode cX5_lowest 39 = .ok (.ldiv, 1) := by decide +kernel
theorem dX5_lowest_40 : decode cX5_lowest 40 = .ok (.goto 7, 3) := by decide +kernel
theorem dX5_lowest_43 : decode cX5_lowest 43 = .ok (.lload_n 2, 1) := by decide +kernel
theorem dX5_lowest_44 : decode cX5_lowest 44 = .ok (.lload 5, 2) := by decide +kernel
theorem dX5_lowest_46 : decode cX5_lowest 46 = .ok (.ldiv, 1) := by decide +kernel
theorem dX5_lowest_47 : decode cX5_lowest 47 = .ok (.lreturn, 1) := by decide +kernel
theorem dX5_mean_0 : decode cX5_mean 0 = .ok (.iconst 0, 1) := by decide +kernel
theorem dX5_mean_1 : decode cX5_mean 1 = .ok (.istore_n 2, 1) := by decide +kernel
theorem dX5_mean_2 : decode cX5_mean 2 = .ok (.iconst 0, 1) := by decide +kernel
theorem dX5_mean_3 : decode cX5_mean 3 = .ok (.istore_n 3, 1) := by decide +kernel
theorem dX5_mean_4 : decode cX5_mean 4 = .ok (.iload_n 3, 1) := by decide +kernel
theorem dX5_mean_5 : decode cX5_mean 5 = .ok (.bipush 10, 2) := by decide +kernel
theorem dX5_mean_7 : decode cX5_mean 7 = .ok (.if_icmp .ge 18, 3) := by decide +kernel
theorem dX5_mean_10 : decode cX5_mean 10 = .ok (.iload_n 2, 1) := by decide +kernel
theorem dX5_mean_11 : decode cX5_mean 11 = .ok (.aload_n 0, 1) := by decide +kernel
theorem dX5_mean_12 : decode cX5_mean 12 = .ok (.getfield 29, 3) := by decide +kernel
theorem dX5_mean_15 : decode cX5_mean 15 = .ok (.iload_n 3, 1) := by decide +kernel
theorem dX5_mean_16 : decode cX5_mean 16 = .ok (.iaload, 1) := by decide +kernel
theorem dX5_mean_17 : decode cX5_mean 17 = .ok (.iadd, 1) := by decide +kernel
theorem dX5_mean_18 : decode cX5_mean 18 = .ok (.istore_n 2, 1) := by decide +kernel
theorem dX5_mean_19 : decode cX5_mean 19 = .ok (.iinc 3 1, 3) := by decide +kernel
theorem dX5_mean_22 : decode cX5_mean 22 = .ok (.goto (-18), 3) := by decide +kernel
theorem dX5_mean_25 : decode cX5_mean 25 = .ok (.iload_n 1, 1) := by decide +kernel
theorem dX5_mean_26 : decode cX5_mean 26 = .ok (.i2l, 1) := by decide +kernel
theorem dX5_mean_27 : decode cX5_mean 27 = .ok (.lconst 0, 1) := by decide +kernel
theorem dX5_mean_28 : decode cX5_mean 28 = .ok (.lconst 1, 1) := by decide +kernel
theorem dX5_mean_29 : decode cX5_mean 29 = .ok (.invokestatic 76, 3) := by decide +kernel
theorem dX5_mean_32 : decode cX5_mean 32 = .ok (.ifCond .eq 15, 3) := by decide +kernel
theorem dX5_mean_35 : decode cX5_mean 35 = .ok (.iload_n 2, 1) := by decide +kernel
theorem dX5_mean_36 : decode cX5_mean 36 = .ok (.i2l, 1) := by decide +kernel
theorem dX5_mean_37 : decode cX5_mean 37 = .ok (.ldc2_w 167, 3) := by decide +kernel
theorem dX5_mean_40 : decode cX5_mean 40 = .ok (.iload_n 1, 1) := by decide +kernel
theorem dX5_mean_41 : decode cX5_mean 41 = .ok (.invokestatic 327, 3) := by decide +kernel
theorem dX5_mean_44 : decode cX5_mean 44 = .ok (.goto 6, 3) := by decide +kernel
theorem dX5_mean_47 : decode cX5_mean 47 = .ok (.ldc2_w 331, 3) := by decide +kernel
theorem dX5_mean_50 : decode cX5_mean 50 = .ok (.lreturn, 1) := by decide +kernel
theorem dX5_firstOther_0 : decode cX5_firstOther 0 = .ok (.aload_n 0, 1) := by decide +kernel
theorem dX5_firstOther_1 : decode cX5_firstOther 1 = .ok (.invokevirtual 288, 3) := by decide +kernel
theorem dX5_firstOther_4 : decode cX5_firstOther 4 = .ok (.iconst (-1), 1) := by decide +kernel
theorem dX5_firstOther_5 : decode cX5_firstOther 5 = .ok (.istore_n 2, 1) := by decide +kernel
theorem dX5_firstOther_6 : decode cX5_firstOther 6 = .ok (.iconst 0, 1) := by decide +kernel
theorem dX5_firstOther_7 : decode cX5_firstOther 7 = .ok (.istore_n 3, 1) := by decide +kernel
theorem dX5_firstOther_8 : decode cX5_firstOther 8 = .ok (.iload_n 3, 1) := by decide +kernel
theorem dX5_firstOther_9 : decode cX5_firstOther 9 = .ok (.aload_n 0, 1) := by decide +kernel
theorem dX5_firstOther_10 : decode cX5_firstOther 10 = .ok (.getfield 60, 3) := by decide +kernel
theorem dX5_firstOther_13 : decode cX5_firstOther 13 = .ok (.iload_n 1, 1) := by decide +kernel
theorem dX5_firstOther_14 : decode cX5_firstOther 14 = .ok (.iaload, 1) := by decide +kernel
theorem dX5_firstOther_15 : decode cX5_firstOther 15 = .ok (.if_icmp .ge 42, 3) := by decide +kernel
theorem dX5_firstOther_18 : decode cX5_firstOther 18 = .ok (.iload_n 2, 1) := by decide +kernel
theorem dX5_firstOther_19 : decode cX5_firstOther 19 = .ok (.iconst (-1), 1) := by decide +kernel
theorem dX5_firstOther_20 : decode cX5_firstOther 20 = .ok (.if_icmp .ne 37, 3) := by decide +kernel
theorem dX5_firstOther_23 : decode cX5_firstOther 23 = .ok (.aload_n 0, 1) := by decide +kernel
theorem dX5_firstOther_24 : decode cX5_firstOther 24 = .ok (.invokevirtual 285, 3) := by decide +kernel
theorem dX5_firstOther_27 : decode cX5_firstOther 27 = .ok (.aload_n 0, 1) := by decide +kernel
theorem dX5_firstOther_28 : decode cX5_firstOther 28 = .ok (.getfield 110, 3) := by decide +kernel
theorem dX5_firstOther_31 : decode cX5_firstOther 31 = .ok (.aload_n 0, 1) := by decide +kernel
theorem dX5_firstOther_32 : decode cX5_firstOther 32 = .ok (.getfield 63, 3) := by decide +kernel
theorem dX5_firstOther_35 : decode cX5_firstOther 35 = .ok (.bipush 40, 2) := by decide +kernel
theorem dX5_firstOther_37 : decode cX5_firstOther 37 = .ok (.iload_n 1, 1) := by decide +kernel
theorem dX5_firstOther_38 : decode cX5_firstOther 38 = .ok (.imul, 1) := by decide +kernel
theorem dX5_firstOther_39 : decode cX5_firstOther 39 = .ok (.iload_n 3, 1) := by decide +kernel
theorem dX5_firstOther_40 : decode cX5_firstOther 40 = .ok (.iadd, 1) := by decide +kernel
theorem dX5_firstOther_41 : decode cX5_firstOther 41 = .ok (.iaload, 1) := by decide +kernel
theorem dX5_firstOther_42 : decode cX5_firstOther 42 = .ok (.if_icmp .ne 7, 3) := by decide +kernel
theorem dX5_firstOther_45 : decode cX5_firstOther 45 = .ok (.iconst (-1), 1) := by decide +kernel
theorem dX5_firstOther_46 : decode cX5_firstOther 46 = .ok (.goto 4, 3) := by decide +kernel
theorem dX5_firstOther_49 : decode cX5_firstOther 49 = .ok (.iload_n 3, 1) := by decide +kernel
theorem dX5_firstOther_50 : decode cX5_firstOther 50 = .ok (.istore_n 2, 1) := by decide +kernel
theorem dX5_firstOther_51 : decode cX5_firstOther 51 = .ok (.iinc 3 1, 3) := by decide +kernel
theorem dX5_firstOther_54 : decode cX5_firstOther 54 = .ok (.goto (-46), 3) := by decide +kernel
theorem dX5_firstOther_57 : decode cX5_firstOther 57 = .ok (.aload_n 0, 1) := by decide +kernel
theorem dX5_firstOther_58 : decode cX5_firstOther 58 = .ok (.invokevirtual 294, 3) := by decide +kernel
theorem dX5_firstOther_61 : decode cX5_firstOther 61 = .ok (.iload_n 2, 1) := by decide +kernel
theorem dX5_firstOther_62 : decode cX5_firstOther 62 = .ok (.ireturn, 1) := by decide +kernel
theorem dX5_soundSet_0 : decode cX5_soundSet 0 = .ok (.iconst 0, 1) := by decide +kernel
theorem dX5_soundSet_1 : decode cX5_soundSet 1 = .ok (.istore_n 2, 1) := by decide +kernel
theorem dX5_soundSet_2 : decode cX5_soundSet 2 = .ok (.iconst 0, 1) := by decide +kernel
theorem dX5_soundSet_3 : decode cX5_soundSet 3 = .ok (.istore_n 3, 1) := by decide +kernel
theorem dX5_soundSet_4 : decode cX5_soundSet 4 = .ok (.iload_n 3, 1) := by decide +kernel
theorem dX5_soundSet_5 : decode cX5_soundSet 5 = .ok (.bipush 10, 2) := by decide +kernel
theorem dX5_soundSet_7 : decode cX5_soundSet 7 = .ok (.if_icmp .ge 52, 3) := by decide +kernel
theorem dX5_soundSet_10 : decode cX5_soundSet 10 = .ok (.aload_n 0, 1) := by decide +kernel
theorem dX5_soundSet_11 : decode cX5_soundSet 11 = .ok (.getfield 29, 3) := by decide +kernel
theorem dX5_soundSet_14 : decode cX5_soundSet 14 = .ok (.iload_n 3, 1) := by decide +kernel
theorem dX5_soundSet_15 : decode cX5_soundSet 15 = .ok (.iaload, 1) := by decide +kernel
theorem dX5_soundSet_16 : decode cX5_soundSet 16 = .ok (.istore 4, 2) := by decide +kernel
theorem dX5_soundSet_18 : decode cX5_soundSet 18 = .ok (.aload_n 0, 1) := by decide +kernel
theorem dX5_soundSet_19 : decode cX5_soundSet 19 = .ok (.getfield 29, 3) := by decide +kernel
theorem dX5_soundSet_22 : decode cX5_soundSet 22 = .ok (.iload_n 3, 1) := by decide +kernel
theorem dX5_soundSet_23 : decode cX5_soundSet 23 = .ok (.bipush 99, 2) := by decide +kernel
theorem dX5_soundSet_25 : decode cX5_soundSet 25 = .ok (.iastore, 1) := by decide +kernel
theorem dX5_soundSet_26 : decode cX5_soundSet 26 = .ok (.iload_n 2, 1) := by decide +kernel
theorem dX5_soundSet_27 : decode cX5_soundSet 27 = .ok (.aload_n 0, 1) := by decide +kernel
theorem dX5_soundSet_28 : decode cX5_soundSet 28 = .ok (.iload_n 1, 1) := by decide +kernel
theorem dX5_soundSet_29 : decode cX5_soundSet 29 = .ok (.invokevirtual 333, 3) := by decide +kernel
theorem dX5_soundSet_32 : decode cX5_soundSet 32 = .ok (.iconst (-1), 1) := by decide +kernel
theorem dX5_soundSet_33 : decode cX5_soundSet 33 = .ok (.if_icmp .ne 7, 3) := by decide +kernel
theorem dX5_soundSet_36 : decode cX5_soundSet 36 = .ok (.iconst 1, 1) := by decide +kernel
theorem dX5_soundSet_37 : decode cX5_soundSet 37 = .ok (.goto 4, 3) := by decide +kernel
theorem dX5_soundSet_40 : decode cX5_soundSet 40 = .ok (.iconst 0, 1) := by decide +kernel
theorem dX5_soundSet_41 : decode cX5_soundSet 41 = .ok (.iload_n 3, 1) := by decide +kernel
theorem dX5_soundSet_42 : decode cX5_soundSet 42 = .ok (.ishl, 1) := by decide +kernel
theorem dX5_soundSet_43 : decode cX5_soundSet 43 = .ok (.ior, 1) := by decide +kernel
theorem dX5_soundSet_44 : decode cX5_soundSet 44 = .ok (.istore_n 2, 1) := by decide +kernel
theorem dX5_soundSet_45 : decode cX5_soundSet 45 = .ok (.aload_n 0, 1) := by decide +kernel
theorem dX5_soundSet_46 : decode cX5_soundSet 46 = .ok (.getfield 29, 3) := by decide +kernel
theorem dX5_soundSet_49 : decode cX5_soundSet 49 = .ok (.iload_n 3, 1) := by decide +kernel
theorem dX5_soundSet_50 : decode cX5_soundSet 50 = .ok (.iload 4, 2) := by decide +kernel
theorem dX5_soundSet_52 : decode cX5_soundSet 52 = .ok (.iastore, 1) := by decide +kernel
theorem dX5_soundSet_53 : decode cX5_soundSet 53 = .ok (.iinc 3 1, 3) := by decide +kernel
theorem dX5_soundSet_56 : decode cX5_soundSet 56 = .ok (.goto (-52), 3) := by decide +kernel
theorem dX5_soundSet_59 : decode cX5_soundSet 59 = .ok (.iload_n 2, 1) := by decide +kernel
theorem dX5_soundSet_60 : decode cX5_soundSet 60 = .ok (.ireturn, 1) := by decide +kernel
theorem dX5_tells_0 : decode cX5_tells 0 = .ok (.iload_n 1, 1) := by decide +kernel
theorem dX5_tells_1 : decode cX5_tells 1 = .ok (.invokestatic 336, 3) := by decide +kernel
theorem dX5_tells_4 : decode cX5_tells 4 = .ok (.ifCond .eq 23, 3) := by decide +kernel
theorem dX5_tells_7 : decode cX5_tells 7 = .ok (.aload_n 0, 1) := by decide +kernel
theorem dX5_tells_8 : decode cX5_tells 8 = .ok (.iload_n 2, 1) := by decide +kernel
theorem dX5_tells_9 : decode cX5_tells 9 = .ok (.invokevirtual 86, 3) := by decide +kernel
theorem dX5_tells_12 : decode cX5_tells 12 = .ok (.ifCond .eq 15, 3) := by decide +kernel
theorem dX5_tells_15 : decode cX5_tells 15 = .ok (.iload_n 3, 1) := by decide +kernel
theorem dX5_tells_16 : decode cX5_tells 16 = .ok (.i2l, 1) := by decide +kernel
theorem dX5_tells_17 : decode cX5_tells 17 = .ok (.lconst 0, 1) := by decide +kernel
theorem dX5_tells_18 : decode cX5_tells 18 = .ok (.ldc2_w 339, 3) := by decide +kernel
theorem dX5_tells_21 : decode cX5_tells 21 = .ok (.invokestatic 76, 3) := by decide +kernel
theorem dX5_tells_24 : decode cX5_tells 24 = .ok (.ifCond .ne 6, 3) := by decide +kernel
theorem dX5_tells_27 : decode cX5_tells 27 = .ok (.bipush (-2), 2) := by decide +kernel
theorem dX5_tells_29 : decode cX5_tells 29 = .ok (.ireturn, 1) := by decide +kernel
theorem dX5_tells_30 : decode cX5_tells 30 = .ok (.aload_n 0, 1) := by decide +kernel
theorem dX5_tells_31 : decode cX5_tells 31 = .ok (.getfield 53, 3) := by decide +kernel
theorem dX5_tells_34 : decode cX5_tells 34 = .ok (.iload_n 1, 1) := by decide +kernel
theorem dX5_tells_35 : decode cX5_tells 35 = .ok (.baload, 1) := by decide +kernel
theorem dX5_tells_36 : decode cX5_tells 36 = .ok (.ifCond .ne 6, 3) := by decide +kernel
theorem dX5_tells_39 : decode cX5_tells 39 = .ok (.bipush (-11), 2) := by decide +kernel
theorem dX5_tells_41 : decode cX5_tells 41 = .ok (.ireturn, 1) := by decide +kernel
theorem dX5_tells_42 : decode cX5_tells 42 = .ok (.aload_n 0, 1) := by decide +kernel
theorem dX5_tells_43 : decode cX5_tells 43 = .ok (.getfield 60, 3) := by decide +kernel
theorem dX5_tells_46 : decode cX5_tells 46 = .ok (.iload_n 1, 1) := by decide +kernel
theorem dX5_tells_47 : decode cX5_tells 47 = .ok (.iaload, 1) := by decide +kernel
theorem dX5_tells_48 : decode cX5_tells 48 = .ok (.bipush 20, 2) := by decide +kernel
theorem dX5_tells_50 : decode cX5_tells 50 = .ok (.if_icmp .le 6, 3) := by decide +kernel
theorem dX5_tells_53 : decode cX5_tells 53 = .ok (.bipush (-2), 2) := by decide +kernel
theorem dX5_tells_55 : decode cX5_tells 55 = .ok (.ireturn, 1) := by decide +kernel
theorem dX5_tells_56 : decode cX5_tells 56 = .ok (.iload_n 3, 1) := by decide +kernel
theorem dX5_tells_57 : decode cX5_tells 57 = .ok (.ifCond .eq 9, 3) := by decide +kernel
theorem dX5_tells_60 : decode cX5_tells 60 = .ok (.iload_n 3, 1) := by decide +kernel
theorem dX5_tells_61 : decode cX5_tells 61 = .ok (.bipush 8, 2) := by decide +kernel
theorem dX5_tells_63 : decode cX5_tells 63 = .ok (.if_icmp .ne 21, 3) := by decide +kernel
theorem dX5_tells_66 : decode cX5_tells 66 = .ok (.iload_n 3, 1) := by decide +kernel
theorem dX5_tells_67 : decode cX5_tells 67 = .ok (.ifCond .ne 11, 3) := by decide +kernel
theorem dX5_tells_70 : decode cX5_tells 70 = .ok (.aload_n 0, 1) := by decide +kernel
theorem dX5_tells_71 : decode cX5_tells 71 = .ok (.iload_n 1, 1) := by decide +kernel
theorem dX5_tells_72 : decode cX5_tells 72 = .ok (.invokevirtual 333, 3) := by decide +kernel
theorem dX5_tells_75 : decode cX5_tells 75 = .ok (.goto 8, 3) := by decide +kernel
theorem dX5_tells_78 : decode cX5_tells 78 = .ok (.aload_n 0, 1) := by decide +kernel
theorem dX5_tells_79 : decode cX5_tells 79 = .ok (.iload_n 1, 1) := by decide +kernel
theorem dX5_tells_80 : decode cX5_tells 80 = .ok (.invokevirtual 341, 3) := by decide +kernel
theorem dX5_tells_83 : decode cX5_tells 83 = .ok (.ireturn, 1) := by decide +kernel
theorem dX5_tells_84 : decode cX5_tells 84 = .ok (.iload_n 3, 1) := by decide +kernel
theorem dX5_tells_85 : decode cX5_tells 85 = .ok (.iconst 1, 1) := by decide +kernel
theorem dX5_tells_86 : decode cX5_tells 86 = .ok (.if_icmp .ne 8, 3) := by decide +kernel
theorem dX5_tells_89 : decode cX5_tells 89 = .ok (.bipush 6, 2) := by decide +kernel
theorem dX5_tells_91 : decode cX5_tells 91 = .ok (.goto 33, 3) := by decide +kernel
theorem dX5_tells_94 : decode cX5_tells 94 = .ok (.iload_n 3, 1) := by decide +kernel
theorem dX5_tells_95 : decode cX5_tells 95 = .ok (.iconst 2, 1) := by decide +kernel
theorem dX5_tells_96 : decode cX5_tells 96 = .ok (.if_icmp .ne 7, 3) := by decide +kernel
theorem dX5_tells_99 : decode cX5_tells 99 = .ok (.iconst 4, 1) := by decide +kernel
theorem dX5_tells_100 : decode cX5_tells 100 = .ok (.goto 24, 3) := by decide +kernel
theorem dX5_tells_103 : decode cX5_tells 103 = .ok (.iload_n 3, 1) := by decide +kernel
theorem dX5_tells_104 : decode cX5_tells 104 = .ok (.iconst 5, 1) := by decide +kernel
theorem dX5_tells_105 : decode cX5_tells 105 = .ok (.if_icmp .ge 7, 3) := by decide +kernel
theorem dX5_tells_108 : decode cX5_tells 108 = .ok (.iconst 5, 1) := by decide +kernel
theorem dX5_tells_109 : decode cX5_tells 109 = .ok (.goto 15, 3) := by decide +kernel
theorem dX5_tells_112 : decode cX5_tells 112 = .ok (.iload_n 3, 1) := by decide +kernel
theorem dX5_tells_113 : decode cX5_tells 113 = .ok (.bipush 7, 2) := by decide +kernel
theorem dX5_tells_115 : decode cX5_tells 115 = .ok (.if_icmp .ge 7, 3) := by decide +kernel
theorem dX5_tells_118 : decode cX5_tells 118 = .ok (.iconst 1, 1) := by decide +kernel
theorem dX5_tells_119 : decode cX5_tells 119 = .ok (.goto 5, 3) := by decide +kernel
theorem dX5_tells_122 : decode cX5_tells 122 = .ok (.bipush 7, 2) := by decide +kernel
theorem dX5_tells_124 : decode cX5_tells 124 = .ok (.istore 4, 2) := by decide +kernel
theorem dX5_tells_126 : decode cX5_tells 126 = .ok (.iload 4, 2) := by decide +kernel
theorem dX5_tells_128 : decode cX5_tells 128 = .ok (.bipush 7, 2) := by decide +kernel
theorem dX5_tells_130 : decode cX5_tells 130 = .ok (.if_icmp .ne 10, 3) := by decide +kernel
theorem dX5_tells_133 : decode cX5_tells 133 = .ok (.aload_n 0, 1) := by decide +kernel
theorem dX5_tells_134 : decode cX5_tells 134 = .ok (.getfield 113, 3) := by decide +kernel
theorem dX5_tells_137 : decode cX5_tells 137 = .ok (.goto 10, 3) := by decide +kernel
theorem dX5_tells_140 : decode cX5_tells 140 = .ok (.aload_n 0, 1) := by decide +kernel
theorem dX5_tells_141 : decode cX5_tells 141 = .ok (.iload_n 2, 1) := by decide +kernel
theorem dX5_tells_142 : decode cX5_tells 142 = .ok (.iload 4, 2) := by decide +kernel
theorem dX5_tells_144 : decode cX5_tells 144 = .ok (.invokevirtual 99, 3) := by decide +kernel
theorem dX5_tells_147 : decode cX5_tells 147 = .ok (.istore 5, 2) := by decide +kernel
theorem dX5_tells_149 : decode cX5_tells 149 = .ok (.iload 4, 2) := by decide +kernel
theorem dX5_tells_151 : decode cX5_tells 151 = .ok (.bipush 7, 2) := by decide +kernel
theorem dX5_tells_153 : decode cX5_tells 153 = .ok (.if_icmp .ne 12, 3) := by decide +kernel
theorem dX5_tells_156 : decode cX5_tells 156 = .ok (.aload_n 0, 1) := by decide +kernel
theorem dX5_tells_157 : decode cX5_tells 157 = .ok (.getfield 70, 3) := by decide +kernel
theorem dX5_tells_160 : decode cX5_tells 160 = .ok (.iconst 1, 1) := by decide +kernel
theorem dX5_tells_161 : decode cX5_tells 161 = .ok (.isub, 1) := by decide +kernel
theorem dX5_tells_162 : decode cX5_tells 162 = .ok (.goto 27, 3) := by decide +kernel
theorem dX5_tells_165 : decode cX5_tells 165 = .ok (.iload 4, 2) := by decide +kernel
theorem dX5_tells_167 : decode cX5_tells 167 = .ok (.bipush 6, 2) := by decide +kernel
theorem dX5_tells_169 : decode cX5_tells 169 = .ok (.if_icmp .ne 7, 3) := by decide +kernel
theorem dX5_tells_172 : decode cX5_tells 172 = .ok (.iconst 5, 1) := by decide +kernel
theorem dX5_tells_173 : decode cX5_tells 173 = .ok (.goto 16, 3) := by decide +kernel
theorem dX5_tells_176 : decode cX5_tells 176 = .ok (.iload 4, 2) := by decide +kernel
theorem dX5_tells_178 : decode cX5_tells 178 = .ok (.iconst 4, 1) := by decide +kernel
theorem dX5_tells_179 : decode cX5_tells 179 = .ok (.if_icmp .ne 8, 3) := by decide +kernel
theorem dX5_tells_182 : decode cX5_tells 182 = .ok (.bipush 9, 2) := by decide +kernel
theorem dX5_tells_184 : decode cX5_tells 184 = .ok (.goto 5, 3) := by decide +kernel
theorem dX5_tells_187 : decode cX5_tells 187 = .ok (.bipush 99, 2) := by decide +kernel
theorem dX5_tells_189 : decode cX5_tells 189 = .ok (.istore 6, 2) := by decide +kernel
theorem dX5_tells_191 : decode cX5_tells 191 = .ok (.iconst 0, 1) := by decide +kernel
theorem dX5_tells_192 : decode cX5_tells 192 = .ok (.istore 7, 2) := by decide +kernel
theorem dX5_tells_194 : decode cX5_tells 194 = .ok (.iconst 0, 1) := by decide +kernel
theorem dX5_tells_195 : decode cX5_tells 195 = .ok (.istore 8, 2) := by decide +kernel
theorem dX5_tells_197 : decode cX5_tells 197 = .ok (.iconst (-1), 1) := by decide +kernel
theorem dX5_tells_198 : decode cX5_tells 198 = .ok (.istore 9, 2) := by decide +kernel
theorem dX5_tells_200 : decode cX5_tells 200 = .ok (.iload 6, 2) := by decide +kernel
theorem dX5_tells_202 : decode cX5_tells 202 = .ok (.istore 10, 2) := by decide +kernel
theorem dX5_tells_204 : decode cX5_tells 204 = .ok (.iload 10, 2) := by decide +kernel
theorem dX5_tells_206 : decode cX5_tells 206 = .ok (.ifCond .lt 54, 3) := by decide +kernel
theorem dX5_tells_209 : decode cX5_tells 209 = .ok (.aload_n 0, 1) := by decide +kernel
theorem dX5_tells_210 : decode cX5_tells 210 = .ok (.iload 4, 2) := by decide +kernel
theorem dX5_tells_212 : decode cX5_tells 212 = .ok (.iload_n 2, 1) := by decide +kernel
theorem dX5_tells_213 : decode cX5_tells 213 = .ok (.iload 10, 2) := by decide +kernel
theorem dX5_tells_215 : decode cX5_tells 215 = .ok (.invokevirtual 103, 3) := by decide +kernel
theorem dX5_tells_218 : decode cX5_tells 218 = .ok (.aload_n 0, 1) := by decide +kernel
theorem dX5_tells_219 : decode cX5_tells 219 = .ok (.iload_n 1, 1) := by decide +kernel
theorem dX5_tells_220 : decode cX5_tells 220 = .ok (.invokevirtual 333, 3) := by decide +kernel
theorem dX5_tells_223 : decode cX5_tells 223 = .ok (.iconst (-1), 1) := by decide +kernel
theorem dX5_tells_224 : decode cX5_tells 224 = .ok (.if_icmp .ne 30, 3) := by decide +kernel
theorem dX5_tells_227 : decode cX5_tells 227 = .ok (.iload 7, 2) := by decide +kernel
theorem dX5_tells_229 : decode cX5_tells 229 = .ok (.iload 10, 2) := by decide +kernel
theorem dX5_tells_231 : decode cX5_tells 231 = .ok (.bipush 10, 2) := by decide +kernel
theorem dX5_tells_233 : decode cX5_tells 233 = .ok (.if_icmp .ge 10, 3) := by decide +kernel
theorem dX5_tells_236 : decode cX5_tells 236 = .ok (.iconst 1, 1) := by decide +kernel
theorem dX5_tells_237 : decode cX5_tells 237 = .ok (.iload 10, 2) := by decide +kernel
theorem dX5_tells_239 : decode cX5_tells 239 = .ok (.ishl, 1) := by decide +kernel
theorem dX5_tells_240 : decode cX5_tells 240 = .ok (.goto 4, 3) := by decide +kernel
theorem dX5_tells_243 : decode cX5_tells 243 = .ok (.iconst 0, 1) := by decide +kernel
theorem dX5_tells_244 : decode cX5_tells 244 = .ok (.ior, 1) := by decide +kernel
theorem dX5_tells_245 : decode cX5_tells 245 = .ok (.istore 7, 2) := by decide +kernel
theorem dX5_tells_247 : decode cX5_tells 247 = .ok (.iinc 8 1, 3) := by decide +kernel
theorem dX5_tells_250 : decode cX5_tells 250 = .ok (.iload 10, 2) := by decide +kernel
theorem dX5_tells_252 : decode cX5_tells 252 = .ok (.istore 9, 2) := by decide +kernel
theorem dX5_tells_254 : decode cX5_tells 254 = .ok (.iinc 10 (-1), 3) := by decide +kernel
theorem dX5_tells_257 : decode cX5_tells 257 = .ok (.goto (-53), 3) := by decide +kernel
theorem dX5_tells_260 : decode cX5_tells 260 = .ok (.aload_n 0, 1) := by decide +kernel
theorem dX5_tells_261 : decode cX5_tells 261 = .ok (.iload 4, 2) := by decide +kernel
theorem dX5_tells_263 : decode cX5_tells 263 = .ok (.iload_n 2, 1) := by decide +kernel
theorem dX5_tells_264 : decode cX5_tells 264 = .ok (.iload 5, 2) := by decide +kernel
theorem dX5_tells_266 : decode cX5_tells 266 = .ok (.invokevirtual 103, 3) := by decide +kernel
theorem dX5_tells_269 : decode cX5_tells 269 = .ok (.iload_n 3, 1) := by decide +kernel
theorem dX5_tells_270 : decode cX5_tells 270 = .ok (.iconst 3, 1) := by decide +kernel
theorem dX5_tells_271 : decode cX5_tells 271 = .ok (.if_icmp .eq 8, 3) := by decide +kernel
theorem dX5_tells_274 : decode cX5_tells 274 = .ok (.iload_n 3, 1) := by decide +kernel
theorem dX5_tells_275 : decode cX5_tells 275 = .ok (.iconst 5, 1) := by decide +kernel
theorem dX5_tells_276 : decode cX5_tells 276 = .ok (.if_icmp .ne 8, 3) := by decide +kernel
theorem dX5_tells_279 : decode cX5_tells 279 = .ok (.iload 8, 2) := by decide +kernel
theorem dX5_tells_281 : decode cX5_tells 281 = .ok (.goto 21, 3) := by decide +kernel
theorem dX5_tells_284 : decode cX5_tells 284 = .ok (.iload_n 3, 1) := by decide +kernel
theorem dX5_tells_285 : decode cX5_tells 285 = .ok (.iconst 4, 1) := by decide +kernel
theorem dX5_tells_286 : decode cX5_tells 286 = .ok (.if_icmp .eq 9, 3) := by decide +kernel
theorem dX5_tells_289 : decode cX5_tells 289 = .ok (.iload_n 3, 1) := by decide +kernel
theorem dX5_tells_290 : decode cX5_tells 290 = .ok (.bipush 6, 2) := by decide +kernel
theorem dX5_tells_292 : decode cX5_tells 292 = .ok (.if_icmp .ne 8, 3) := by decide +kernel
theorem dX5_tells_295 : decode cX5_tells 295 = .ok (.iload 9, 2) := by decide +kernel
theorem dX5_tells_297 : decode cX5_tells 297 = .ok (.goto 5, 3) := by decide +kernel
theorem dX5_tells_300 : decode cX5_tells 300 = .ok (.iload 7, 2) := by decide +kernel
theorem dX5_tells_302 : decode cX5_tells 302 = .ok (.ireturn, 1) := by decide +kernel
theorem dX5_film_0 : decode cX5_film 0 = .ok (.iload_n 1, 1) := by decide +kernel
theorem dX5_film_1 : decode cX5_film 1 = .ok (.invokestatic 336, 3) := by decide +kernel
theorem dX5_film_4 : decode cX5_film 4 = .ok (.ifCond .eq 15, 3) := by decide +kernel
theorem dX5_film_7 : decode cX5_film 7 = .ok (.iload_n 2, 1) := by decide +kernel
theorem dX5_film_8 : decode cX5_film 8 = .ok (.i2l, 1) := by decide +kernel
theorem dX5_film_9 : decode cX5_film 9 = .ok (.lconst 0, 1) := by decide +kernel
theorem dX5_film_10 : decode cX5_film 10 = .ok (.ldc2_w 315, 3) := by decide +kernel
theorem dX5_film_13 : decode cX5_film 13 = .ok (.invokestatic 76, 3) := by decide +kernel
theorem dX5_film_16 : decode cX5_film 16 = .ok (.ifCond .ne 6, 3) := by decide +kernel
theorem dX5_film_19 : decode cX5_film 19 = .ok (.bipush (-2), 2) := by decide +kernel
theorem dX5_film_21 : decode cX5_film 21 = .ok (.ireturn, 1) := by decide +kernel
theorem dX5_film_22 : decode cX5_film 22 = .ok (.aload_n 0, 1) := by decide +kernel
theorem dX5_film_23 : decode cX5_film 23 = .ok (.iload_n 1, 1) := by decide +kernel
theorem dX5_film_24 : decode cX5_film 24 = .ok (.iconst 0, 1) := by decide +kernel
theorem dX5_film_25 : decode cX5_film 25 = .ok (.iload_n 2, 1) := by decide +kernel
theorem dX5_film_26 : decode cX5_film 26 = .ok (.invokevirtual 344, 3) := by decide +kernel
theorem dX5_film_29 : decode cX5_film 29 = .ok (.pop, 1) := by decide +kernel
theorem dX5_film_30 : decode cX5_film 30 = .ok (.aload_n 0, 1) := by decide +kernel
theorem dX5_film_31 : decode cX5_film 31 = .ok (.invokevirtual 288, 3) := by decide +kernel
theorem dX5_film_34 : decode cX5_film 34 = .ok (.iconst 0, 1) := by decide +kernel
theorem dX5_film_35 : decode cX5_film 35 = .ok (.istore_n 3, 1) := by decide +kernel
theorem dX5_film_36 : decode cX5_film 36 = .ok (.iload_n 3, 1) := by decide +kernel
theorem dX5_film_37 : decode cX5_film 37 = .ok (.iload_n 2, 1) := by decide +kernel
theorem dX5_film_38 : decode cX5_film 38 = .ok (.if_icmp .ge 28, 3) := by decide +kernel
theorem dX5_film_41 : decode cX5_film 41 = .ok (.aload_n 0, 1) := by decide +kernel
theorem dX5_film_42 : decode cX5_film 42 = .ok (.invokevirtual 285, 3) := by decide +kernel
theorem dX5_film_45 : decode cX5_film 45 = .ok (.aload_n 0, 1) := by decide +kernel
theorem dX5_film_46 : decode cX5_film 46 = .ok (.getfield 63, 3) := by decide +kernel
theorem dX5_film_49 : decode cX5_film 49 = .ok (.bipush 40, 2) := by decide +kernel
theorem dX5_film_51 : decode cX5_film 51 = .ok (.iload_n 1, 1) := by decide +kernel
theorem dX5_film_52 : decode cX5_film 52 = .ok (.imul, 1) := by decide +kernel
theorem dX5_film_53 : decode cX5_film 53 = .ok (.iload_n 3, 1) := by decide +kernel
theorem dX5_film_54 : decode cX5_film 54 = .ok (.iadd, 1) := by decide +kernel
theorem dX5_film_55 : decode cX5_film 55 = .ok (.aload_n 0, 1) := by decide +kernel
theorem dX5_film_56 : decode cX5_film 56 = .ok (.getfield 110, 3) := by decide +kernel
theorem dX5_film_59 : decode cX5_film 59 = .ok (.iastore, 1) := by decide +kernel
theorem dX5_film_60 : decode cX5_film 60 = .ok (.iinc 3 1, 3) := by decide +kernel
theorem dX5_film_63 : decode cX5_film 63 = .ok (.goto (-27), 3) := by decide +kernel
theorem dX5_film_66 : decode cX5_film 66 = .ok (.aload_n 0, 1) := by decide +kernel
theorem dX5_film_67 : decode cX5_film 67 = .ok (.invokevirtual 294, 3) := by decide +kernel
theorem dX5_film_70 : decode cX5_film 70 = .ok (.iload_n 2, 1) := by decide +kernel
theorem dX5_film_71 : decode cX5_film 71 = .ok (.ireturn, 1) := by decide +kernel
theorem dX5_waterDrawn_0 : decode cX5_waterDrawn 0 = .ok (.aload_n 0, 1) := by decide +kernel
theorem dX5_waterDrawn_1 : decode cX5_waterDrawn 1 = .ok (.invokevirtual 288, 3) := by decide +kernel
theorem dX5_waterDrawn_4 : decode cX5_waterDrawn 4 = .ok (.iload_n 1, 1) := by decide +kernel
theorem dX5_waterDrawn_5 : decode cX5_waterDrawn 5 = .ok (.istore_n 3, 1) := by decide +kernel
theorem dX5_waterDrawn_6 : decode cX5_waterDrawn 6 = .ok (.iconst 0, 1) := by decide +kernel
theorem dX5_waterDrawn_7 : decode cX5_waterDrawn 7 = .ok (.istore 4, 2) := by decide +kernel
theorem dX5_waterDrawn_9 : decode cX5_waterDrawn 9 = .ok (.iload 4, 2) := by decide +kernel
theorem dX5_waterDrawn_11 : decode cX5_waterDrawn 11 = .ok (.iload_n 2, 1) := by decide +kernel
theorem dX5_waterDrawn_12 : decode cX5_waterDrawn 12 = .ok (.if_icmp .ge 34, 3) := by decide +kernel
theorem dX5_waterDrawn_15 : decode cX5_waterDrawn 15 = .ok (.iload_n 3, 1) := by decide +kernel
theorem dX5_waterDrawn_16 : decode cX5_waterDrawn 16 = .ok (.ldc_w 347, 3) := by decide +kernel
theorem dX5_waterDrawn_19 : decode cX5_waterDrawn 19 = .ok (.imul, 1) := by decide +kernel
theorem dX5_waterDrawn_20 : decode cX5_waterDrawn 20 = .ok (.sipush 12345, 3) := by decide +kernel
theorem dX5_waterDrawn_23 : decode cX5_waterDrawn 23 = .ok (.iadd, 1) := by decide +kernel
theorem dX5_waterDrawn_24 : decode cX5_waterDrawn 24 = .ok (.istore_n 3, 1) := by decide +kernel
theorem dX5_waterDrawn_25 : decode cX5_waterDrawn 25 = .ok (.aload_n 0, 1) := by decide +kernel
theorem dX5_waterDrawn_26 : decode cX5_waterDrawn 26 = .ok (.iload_n 3, 1) := by decide +kernel
theorem dX5_waterDrawn_27 : decode cX5_waterDrawn 27 = .ok (.bipush 9, 2) := by decide +kernel
theorem dX5_waterDrawn_29 : decode cX5_waterDrawn 29 = .ok (.iushr, 1) := by decide +kernel
theorem dX5_waterDrawn_30 : decode cX5_waterDrawn 30 = .ok (.bipush 100, 2) := by decide +kernel
theorem dX5_waterDrawn_32 : decode cX5_waterDrawn 32 = .ok (.irem, 1) := by decide +kernel
theorem dX5_waterDrawn_33 : decode cX5_waterDrawn 33 = .ok (.putfield 23, 3) := by decide +kernel
theorem dX5_waterDrawn_36 : decode cX5_waterDrawn 36 = .ok (.aload_n 0, 1) := by decide +kernel
theorem dX5_waterDrawn_37 : decode cX5_waterDrawn 37 = .ok (.invokevirtual 285, 3) := by decide +kernel
theorem dX5_waterDrawn_40 : decode cX5_waterDrawn 40 = .ok (.iinc 4 1, 3) := by decide +kernel
theorem dX5_waterDrawn_43 : decode cX5_waterDrawn 43 = .ok (.goto (-34), 3) := by decide +kernel
theorem dX5_waterDrawn_46 : decode cX5_waterDrawn 46 = .ok (.aload_n 0, 1) := by decide +kernel
theorem dX5_waterDrawn_47 : decode cX5_waterDrawn 47 = .ok (.getfield 110, 3) := by decide +kernel
theorem dX5_waterDrawn_50 : decode cX5_waterDrawn 50 = .ok (.istore 4, 2) := by decide +kernel
theorem dX5_waterDrawn_52 : decode cX5_waterDrawn 52 = .ok (.aload_n 0, 1) := by decide +kernel
theorem dX5_waterDrawn_53 : decode cX5_waterDrawn 53 = .ok (.invokevirtual 294, 3) := by decide +kernel
theorem dX5_waterDrawn_56 : decode cX5_waterDrawn 56 = .ok (.iload 4, 2) := by decide +kernel
theorem dX5_waterDrawn_58 : decode cX5_waterDrawn 58 = .ok (.ireturn, 1) := by decide +kernel
theorem dX5_drawn_0 : decode cX5_drawn 0 = .ok (.iload_n 2, 1) := by decide +kernel
theorem dX5_drawn_1 : decode cX5_drawn 1 = .ok (.i2l, 1) := by decide +kernel
theorem dX5_drawn_2 : decode cX5_drawn 2 = .ok (.lconst 0, 1) := by decide +kernel
theorem dX5_drawn_3 : decode cX5_drawn 3 = .ok (.ldc2_w 297, 3) := by decide +kernel
theorem dX5_drawn_6 : decode cX5_drawn 6 = .ok (.invokestatic 76, 3) := by decide +kernel
theorem dX5_drawn_9 : decode cX5_drawn 9 = .ok (.ifCond .eq 12, 3) := by decide +kernel
theorem dX5_drawn_12 : decode cX5_drawn 12 = .ok (.aload_n 0, 1) := by decide +kernel
theorem dX5_drawn_13 : decode cX5_drawn 13 = .ok (.iload_n 1, 1) := by decide +kernel
theorem dX5_drawn_14 : decode cX5_drawn 14 = .ok (.iload_n 2, 1) := by decide +kernel
theorem dX5_drawn_15 : decode cX5_drawn 15 = .ok (.invokevirtual 348, 3) := by decide +kernel
theorem dX5_drawn_18 : decode cX5_drawn 18 = .ok (.goto 5, 3) := by decide +kernel
theorem dX5_drawn_21 : decode cX5_drawn 21 = .ok (.bipush (-2), 2) := by decide +kernel
theorem dX5_drawn_23 : decode cX5_drawn 23 = .ok (.ireturn, 1) := by decide +kernel
theorem dX5_chance_0 : decode cX5_chance 0 = .ok (.iload_n 2, 1) := by decide +kernel
theorem dX5_chance_1 : decode cX5_chance 1 = .ok (.i2l, 1) := by decide +kernel
theorem dX5_chance_2 : decode cX5_chance 2 = .ok (.lconst 1, 1) := by decide +kernel
theorem dX5_chance_3 : decode cX5_chance 3 = .ok (.ldc2_w 315, 3) := by decide +kernel
theorem dX5_chance_6 : decode cX5_chance 6 = .ok (.invokestatic 76, 3) := by decide +kernel
theorem dX5_chance_9 : decode cX5_chance 9 = .ok (.ifCond .eq 13, 3) := by decide +kernel
theorem dX5_chance_12 : decode cX5_chance 12 = .ok (.iload_n 3, 1) := by decide +kernel
theorem dX5_chance_13 : decode cX5_chance 13 = .ok (.i2l, 1) := by decide +kernel
theorem dX5_chance_14 : decode cX5_chance 14 = .ok (.lconst 0, 1) := by decide +kernel
theorem dX5_chance_15 : decode cX5_chance 15 = .ok (.lconst 1, 1) := by decide +kernel
theorem dX5_chance_16 : decode cX5_chance 16 = .ok (.invokestatic 76, 3) := by decide +kernel
theorem dX5_chance_19 : decode cX5_chance 19 = .ok (.ifCond .ne 7, 3) := by decide +kernel
theorem dX5_chance_22 : decode cX5_chance 22 = .ok (.ldc2_w 331, 3) := by decide +kernel
theorem dX5_chance_25 : decode cX5_chance 25 = .ok (.lreturn, 1) := by decide +kernel
theorem dX5_chance_26 : decode cX5_chance 26 = .ok (.lconst 0, 1) := by decide +kernel
theorem dX5_chance_27 : decode cX5_chance 27 = .ok (.lstore 4, 2) := by decide +kernel
theorem dX5_chance_29 : decode cX5_chance 29 = .ok (.iconst 0, 1) := by decide +kernel
theorem dX5_chance_30 : decode cX5_chance 30 = .ok (.istore 6, 2) := by decide +kernel
theorem dX5_chance_32 : decode cX5_chance 32 = .ok (.iload 6, 2) := by decide +kernel
theorem dX5_chance_34 : decode cX5_chance 34 = .ok (.iload_n 2, 1) := by decide +kernel
theorem dX5_chance_35 : decode cX5_chance 35 = .ok (.if_icmp .ge 34, 3) := by decide +kernel
theorem dX5_chance_38 : decode cX5_chance 38 = .ok (.lload 4, 2) := by decide +kernel
theorem dX5_chance_40 : decode cX5_chance 40 = .ok (.aload_n 0, 1) := by decide +kernel
theorem dX5_chance_41 : decode cX5_chance 41 = .ok (.iload_n 1, 1) := by decide +kernel
theorem dX5_chance_42 : decode cX5_chance 42 = .ok (.iload 6, 2) := by decide +kernel
theorem dX5_chance_44 : decode cX5_chance 44 = .ok (.iadd, 1) := by decide +kernel
theorem dX5_chance_45 : decode cX5_chance 45 = .ok (.bipush 10, 2) := by decide +kernel
theorem dX5_chance_47 : decode cX5_chance 47 = .ok (.invokevirtual 348, 3) := by decide +kernel
theorem dX5_chance_50 : decode cX5_chance 50 = .ok (.bipush 100, 2) := by decide +kernel
theorem dX5_chance_52 : decode cX5_chance 52 = .ok (.if_icmp .ne 7, 3) := by decide +kernel
theorem dX5_chance_55 : decode cX5_chance 55 = .ok (.lconst 1, 1) := by decide +kernel
theorem dX5_chance_56 : decode cX5_chance 56 = .ok (.goto 4, 3) := by decide +kernel
theorem dX5_chance_59 : decode cX5_chance 59 = .ok (.lconst 0, 1) := by decide +kernel
theorem dX5_chance_60 : decode cX5_chance 60 = .ok (.ladd, 1) := by decide +kernel
theorem dX5_chance_61 : decode cX5_chance 61 = .ok (.lstore 4, 2) := by decide +kernel
theorem dX5_chance_63 : decode cX5_chance 63 = .ok (.iinc 6 1, 3) := by decide +kernel
theorem dX5_chance_66 : decode cX5_chance 66 = .ok (.goto (-34), 3) := by decide +kernel
theorem dX5_chance_69 : decode cX5_chance 69 = .ok (.lload 4, 2) := by decide +kernel
theorem dX5_chance_71 : decode cX5_chance 71 = .ok (.iload_n 2, 1) := by decide +kernel
theorem dX5_chance_72 : decode cX5_chance 72 = .ok (.i2l, 1) := by decide +kernel
theorem dX5_chance_73 : decode cX5_chance 73 = .ok (.iload_n 3, 1) := by decide +kernel
theorem dX5_chance_74 : decode cX5_chance 74 = .ok (.invokestatic 327, 3) := by decide +kernel
theorem dX5_chance_77 : decode cX5_chance 77 = .ok (.lreturn, 1) := by decide +kernel
theorem dX5_image_0 : decode cX5_image 0 = .ok (.iconst 0, 1) := by decide +kernel
theorem dX5_image_1 : decode cX5_image 1 = .ok (.istore_n 1, 1) := by decide +kernel
theorem dX5_image_2 : decode cX5_image 2 = .ok (.iload_n 1, 1) := by decide +kernel
theorem dX5_image_3 : decode cX5_image 3 = .ok (.bipush 20, 2) := by decide +kernel
theorem dX5_image_5 : decode cX5_image 5 = .ok (.if_icmp .ge 21, 3) := by decide +kernel
theorem dX5_image_8 : decode cX5_image 8 = .ok (.aload_n 0, 1) := by decide +kernel
theorem dX5_image_9 : decode cX5_image 9 = .ok (.getfield 41, 3) := by decide +kernel
theorem dX5_image_12 : decode cX5_image 12 = .ok (.iload_n 1, 1) := by decide +kernel
theorem dX5_image_13 : decode cX5_image 13 = .ok (.aload_n 0, 1) := by decide +kernel
theorem dX5_image_14 : decode cX5_image 14 = .ok (.getfield 32, 3) := by decide +kernel
theorem dX5_image_17 : decode cX5_image 17 = .ok (.iload_n 1, 1) := by decide +kernel
theorem dX5_image_18 : decode cX5_image 18 = .ok (.iaload, 1) := by decide +kernel
theorem dX5_image_19 : decode cX5_image 19 = .ok (.iastore, 1) := by decide +kernel
theorem dX5_image_20 : decode cX5_image 20 = .ok (.iinc 1 1, 3) := by decide +kernel
theorem dX5_image_23 : decode cX5_image 23 = .ok (.goto (-21), 3) := by decide +kernel
theorem dX5_image_26 : decode cX5_image 26 = .ok (.iconst 0, 1) := by decide +kernel
theorem dX5_image_27 : decode cX5_image 27 = .ok (.istore_n 1, 1) := by decide +kernel
theorem dX5_image_28 : decode cX5_image 28 = .ok (.iload_n 1, 1) := by decide +kernel
theorem dX5_image_29 : decode cX5_image 29 = .ok (.bipush 10, 2) := by decide +kernel
theorem dX5_image_31 : decode cX5_image 31 = .ok (.if_icmp .ge 33, 3) := by decide +kernel
theorem dX5_image_34 : decode cX5_image 34 = .ok (.aload_n 0, 1) := by decide +kernel
theorem dX5_image_35 : decode cX5_image 35 = .ok (.getfield 44, 3) := by decide +kernel
theorem dX5_image_38 : decode cX5_image 38 = .ok (.iload_n 1, 1) := by decide +kernel
theorem dX5_image_39 : decode cX5_image 39 = .ok (.aload_n 0, 1) := by decide +kernel
theorem dX5_image_40 : decode cX5_image 40 = .ok (.getfield 26, 3) := by decide +kernel
theorem dX5_image_43 : decode cX5_image 43 = .ok (.iload_n 1, 1) := by decide +kernel
theorem dX5_image_44 : decode cX5_image 44 = .ok (.iaload, 1) := by decide +kernel
theorem dX5_image_45 : decode cX5_image 45 = .ok (.iastore, 1) := by decide +kernel
theorem dX5_image_46 : decode cX5_image 46 = .ok (.aload_n 0, 1) := by decide +kernel
theorem dX5_image_47 : decode cX5_image 47 = .ok (.getfield 47, 3) := by decide +kernel
theorem dX5_image_50 : decode cX5_image 50 = .ok (.iload_n 1, 1) := by decide +kernel
theorem dX5_image_51 : decode cX5_image 51 = .ok (.aload_n 0, 1) := by decide +kernel
theorem dX5_image_52 : decode cX5_image 52 = .ok (.getfield 29, 3) := by decide +kernel
theorem dX5_image_55 : decode cX5_image 55 = .ok (.iload_n 1, 1) := by decide +kernel
theorem dX5_image_56 : decode cX5_image 56 = .ok (.iaload, 1) := by decide +kernel
theorem dX5_image_57 : decode cX5_image 57 = .ok (.iastore, 1) := by decide +kernel
theorem dX5_image_58 : decode cX5_image 58 = .ok (.iinc 1 1, 3) := by decide +kernel
theorem dX5_image_61 : decode cX5_image 61 = .ok (.goto (-33), 3) := by decide +kernel
theorem dX5_image_64 : decode cX5_image 64 = .ok (.aload_n 0, 1) := by decide +kernel
theorem dX5_image_65 : decode cX5_image 65 = .ok (.aload_n 0, 1) := by decide +kernel
theorem dX5_image_66 : decode cX5_image 66 = .ok (.getfield 73, 3) := by decide +kernel
theorem dX5_image_69 : decode cX5_image 69 = .ok (.putfield 50, 3) := by decide +kernel
theorem dX5_image_72 : decode cX5_image 72 = .ok (.aload_n 0, 1) := by decide +kernel
theorem dX5_image_73 : decode cX5_image 73 = .ok (.aload_n 0, 1) := by decide +kernel
theorem dX5_image_74 : decode cX5_image 74 = .ok (.getfield 107, 3) := by decide +kernel
theorem dX5_image_77 : decode cX5_image 77 = .ok (.putfield 351, 3) := by decide +kernel
theorem dX5_image_80 : decode cX5_image 80 = .ok (.aload_n 0, 1) := by decide +kernel
theorem dX5_image_81 : decode cX5_image 81 = .ok (.aload_n 0, 1) := by decide +kernel
theorem dX5_image_82 : decode cX5_image 82 = .ok (.getfield 23, 3) := by decide +kernel
theorem dX5_image_85 : decode cX5_image 85 = .ok (.putfield 354, 3) := by decide +kernel
theorem dX5_image_88 : decode cX5_image 88 = .ok (.aload_n 0, 1) := by decide +kernel
theorem dX5_image_89 : decode cX5_image 89 = .ok (.aload_n 0, 1) := by decide +kernel
theorem dX5_image_90 : decode cX5_image 90 = .ok (.getfield 110, 3) := by decide +kernel
theorem dX5_image_93 : decode cX5_image 93 = .ok (.putfield 357, 3) := by decide +kernel
theorem dX5_image_96 : decode cX5_image 96 = .ok (.aload_n 0, 1) := by decide +kernel
theorem dX5_image_97 : decode cX5_image 97 = .ok (.aload_n 0, 1) := by decide +kernel
theorem dX5_image_98 : decode cX5_image 98 = .ok (.getfield 113, 3) := by decide +kernel
theorem dX5_image_101 : decode cX5_image 101 = .ok (.putfield 360, 3) := by decide +kernel
theorem dX5_image_104 : decode cX5_image 104 = .ok (.aload_n 0, 1) := by decide +kernel
theorem dX5_image_105 : decode cX5_image 105 = .ok (.getfield 73, 3) := by decide +kernel
theorem dX5_image_108 : decode cX5_image 108 = .ok (.ireturn, 1) := by decide +kernel
theorem dX5_back_0 : decode cX5_back 0 = .ok (.aload_n 0, 1) := by decide +kernel
theorem dX5_back_1 : decode cX5_back 1 = .ok (.getfield 50, 3) := by decide +kernel
theorem dX5_back_4 : decode cX5_back 4 = .ok (.iconst (-1), 1) := by decide +kernel
theorem dX5_back_5 : decode cX5_back 5 = .ok (.if_icmp .ne 6, 3) := by decide +kernel
theorem dX5_back_8 : decode cX5_back 8 = .ok (.bipush (-3), 2) := by decide +kernel
theorem dX5_back_10 : decode cX5_back 10 = .ok (.ireturn, 1) := by decide +kernel
theorem dX5_back_11 : decode cX5_back 11 = .ok (.iconst 0, 1) := by decide +kernel
theorem dX5_back_12 : decode cX5_back 12 = .ok (.istore_n 1, 1) := by decide +kernel
theorem dX5_back_13 : decode cX5_back 13 = .ok (.iload_n 1, 1) := by decide +kernel
theorem dX5_back_14 : decode cX5_back 14 = .ok (.bipush 20, 2) := by decide +kernel
theorem dX5_back_16 : decode cX5_back 16 = .ok (.if_icmp .ge 21, 3) := by decide +kernel
theorem dX5_back_19 : decode cX5_back 19 = .ok (.aload_n 0, 1) := by decide +kernel
theorem dX5_back_20 : decode cX5_back 20 = .ok (.getfield 32, 3) := by decide +kernel
theorem dX5_back_23 : decode cX5_back 23 = .ok (.iload_n 1, 1) := by decide +kernel
theorem dX5_back_24 : decode cX5_back 24 = .ok (.aload_n 0, 1) := by decide +kernel
theorem dX5_back_25 : decode cX5_back 25 = .ok (.getfield 41, 3) := by decide +kernel
theorem dX5_back_28 : decode cX5_back 28 = .ok (.iload_n 1, 1) := by decide +kernel
theorem dX5_back_29 : decode cX5_back 29 = .ok (.iaload, 1) := by decide +kernel
theorem dX5_back_30 : decode cX5_back 30 = .ok (.iastore, 1) := by decide +kernel
theorem dX5_back_31 : decode cX5_back 31 = .ok (.iinc 1 1, 3) := by decide +kernel
theorem dX5_back_34 : decode cX5_back 34 = .ok (.goto (-21), 3) := by decide +kernel
theorem dX5_back_37 : decode cX5_back 37 = .ok (.iconst 0, 1) := by decide +kernel
theorem dX5_back_38 : decode cX5_back 38 = .ok (.istore_n 1, 1) := by decide +kernel
theorem dX5_back_39 : decode cX5_back 39 = .ok (.iload_n 1, 1) := by decide +kernel
theorem dX5_back_40 : decode cX5_back 40 = .ok (.bipush 10, 2) := by decide +kernel
theorem dX5_back_42 : decode cX5_back 42 = .ok (.if_icmp .ge 33, 3) := by decide +kernel
theorem dX5_back_45 : decode cX5_back 45 = .ok (.aload_n 0, 1) := by decide +kernel
theorem dX5_back_46 : decode cX5_back 46 = .ok (.getfield 26, 3) := by decide +kernel
theorem dX5_back_49 : decode cX5_back 49 = .ok (.iload_n 1, 1) := by decide +kernel
theorem dX5_back_50 : decode cX5_back 50 = .ok (.aload_n 0, 1) := by decide +kernel
theorem dX5_back_51 : decode cX5_back 51 = .ok (.getfield 44, 3) := by decide +kernel
theorem dX5_back_54 : decode cX5_back 54 = .ok (.iload_n 1, 1) := by decide +kernel
theorem dX5_back_55 : decode cX5_back 55 = .ok (.iaload, 1) := by decide +kernel
theorem dX5_back_56 : decode cX5_back 56 = .ok (.iastore, 1) := by decide +kernel
theorem dX5_back_57 : decode cX5_back 57 = .ok (.aload_n 0, 1) := by decide +kernel
theorem dX5_back_58 : decode cX5_back 58 = .ok (.getfield 29, 3) := by decide +kernel
theorem dX5_back_61 : decode cX5_back 61 = .ok (.iload_n 1, 1) := by decide +kernel
theorem dX5_back_62 : decode cX5_back 62 = .ok (.aload_n 0, 1) := by decide +kernel
theorem dX5_back_63 : decode cX5_back 63 = .ok (.getfield 47, 3) := by decide +kernel
theorem dX5_back_66 : decode cX5_back 66 = .ok (.iload_n 1, 1) := by decide +kernel
theorem dX5_back_67 : decode cX5_back 67 = .ok (.iaload, 1) := by decide +kernel
theorem dX5_back_68 : decode cX5_back 68 = .ok (.iastore, 1) := by decide +kernel
theorem dX5_back_69 : decode cX5_back 69 = .ok (.iinc 1 1, 3) := by decide +kernel
theorem dX5_back_72 : decode cX5_back 72 = .ok (.goto (-33), 3) := by decide +kernel
theorem dX5_back_75 : decode cX5_back 75 = .ok (.aload_n 0, 1) := by decide +kernel
theorem dX5_back_76 : decode cX5_back 76 = .ok (.aload_n 0, 1) := by decide +kernel
theorem dX5_back_77 : decode cX5_back 77 = .ok (.getfield 50, 3) := by decide +kernel
theorem dX5_back_80 : decode cX5_back 80 = .ok (.putfield 73, 3) := by decide +kernel
theorem dX5_back_83 : decode cX5_back 83 = .ok (.aload_n 0, 1) := by decide +kernel
theorem dX5_back_84 : decode cX5_back 84 = .ok (.aload_n 0, 1) := by decide +kernel
theorem dX5_back_85 : decode cX5_back 85 = .ok (.getfield 351, 3) := by decide +kernel
theorem dX5_back_88 : decode cX5_back 88 = .ok (.putfield 107, 3) := by decide +kernel
theorem dX5_back_91 : decode cX5_back 91 = .ok (.aload_n 0, 1) := by decide +kernel
theorem dX5_back_92 : decode cX5_back 92 = .ok (.aload_n 0, 1) := by decide +kernel
theorem dX5_back_93 : decode cX5_back 93 = .ok (.getfield 354, 3) := by decide +kernel
theorem dX5_back_96 : decode cX5_back 96 = .ok (.putfield 23, 3) := by decide +kernel
theorem dX5_back_99 : decode cX5_back 99 = .ok (.aload_n 0, 1) := by decide +kernel
theorem dX5_back_100 : decode cX5_back 100 = .ok (.aload_n 0, 1) := by decide +kernel
theorem dX5_back_101 : decode cX5_back 101 = .ok (.getfield 357, 3) := by decide +kernel
theorem dX5_back_104 : decode cX5_back 104 = .ok (.putfield 110, 3) := by decide +kernel
theorem dX5_back_107 : decode cX5_back 107 = .ok (.aload_n 0, 1) := by decide +kernel
theorem dX5_back_108 : decode cX5_back 108 = .ok (.aload_n 0, 1) := by decide +kernel
theorem dX5_back_109 : decode cX5_back 109 = .ok (.getfield 360, 3) := by decide +kernel
theorem dX5_back_112 : decode cX5_back 112 = .ok (.putfield 113, 3) := by decide +kernel
theorem dX5_back_115 : decode cX5_back 115 = .ok (.aload_n 0, 1) := by decide +kernel
theorem dX5_back_116 : decode cX5_back 116 = .ok (.getfield 73, 3) := by decide +kernel
theorem dX5_back_119 : decode cX5_back 119 = .ok (.ireturn, 1) := by decide +kernel
theorem dX5_madeMany_0 : decode cX5_madeMany 0 = .ok (.iconst 0, 1) := by decide +kernel
theorem dX5_madeMany_1 : decode cX5_madeMany 1 = .ok (.istore_n 1, 1) := by decide +kernel
theorem dX5_madeMany_2 : decode cX5_madeMany 2 = .ok (.iconst 0, 1) := by decide +kernel
theorem dX5_madeMany_3 : decode cX5_madeMany 3 = .ok (.istore_n 2, 1) := by decide +kernel
theorem dX5_madeMany_4 : decode cX5_madeMany 4 = .ok (.iload_n 2, 1) := by decide +kernel
theorem dX5_madeMany_5 : decode cX5_madeMany 5 = .ok (.bipush 10, 2) := by decide +kernel
theorem dX5_madeMany_7 : decode cX5_madeMany 7 = .ok (.if_icmp .ge 27, 3) := by decide +kernel
theorem dX5_madeMany_10 : decode cX5_madeMany 10 = .ok (.iload_n 1, 1) := by decide +kernel
theorem dX5_madeMany_11 : decode cX5_madeMany 11 = .ok (.aload_n 0, 1) := by decide +kernel
theorem dX5_madeMany_12 : decode cX5_madeMany 12 = .ok (.getfield 26, 3) := by decide +kernel
theorem dX5_madeMany_15 : decode cX5_madeMany 15 = .ok (.iload_n 2, 1) := by decide +kernel
theorem dX5_madeMany_16 : decode cX5_madeMany 16 = .ok (.iaload, 1) := by decide +kernel
theorem dX5_madeMany_17 : decode cX5_madeMany 17 = .ok (.iconst (-1), 1) := by decide +kernel
theorem dX5_madeMany_18 : decode cX5_madeMany 18 = .ok (.if_icmp .ne 7, 3) := by decide +kernel
theorem dX5_madeMany_21 : decode cX5_madeMany 21 = .ok (.iconst 0, 1) := by decide +kernel
theorem dX5_madeMany_22 : decode cX5_madeMany 22 = .ok (.goto 4, 3) := by decide +kernel
theorem dX5_madeMany_25 : decode cX5_madeMany 25 = .ok (.iconst 1, 1) := by decide +kernel
theorem dX5_madeMany_26 : decode cX5_madeMany 26 = .ok (.iadd, 1) := by decide +kernel
theorem dX5_madeMany_27 : decode cX5_madeMany 27 = .ok (.istore_n 1, 1) := by decide +kernel
theorem dX5_madeMany_28 : decode cX5_madeMany 28 = .ok (.iinc 2 1, 3) := by decide +kernel
theorem dX5_madeMany_31 : decode cX5_madeMany 31 = .ok (.goto (-27), 3) := by decide +kernel
theorem dX5_madeMany_34 : decode cX5_madeMany 34 = .ok (.iload_n 1, 1) := by decide +kernel
theorem dX5_madeMany_35 : decode cX5_madeMany 35 = .ok (.ireturn, 1) := by decide +kernel
theorem dX5_count_0 : decode cX5_count 0 = .ok (.iload_n 1, 1) := by decide +kernel
theorem dX5_count_1 : decode cX5_count 1 = .ok (.i2l, 1) := by decide +kernel
theorem dX5_count_2 : decode cX5_count 2 = .ok (.lconst 0, 1) := by decide +kernel
theorem dX5_count_3 : decode cX5_count 3 = .ok (.ldc2_w 89, 3) := by decide +kernel
theorem dX5_count_6 : decode cX5_count 6 = .ok (.invokestatic 76, 3) := by decide +kernel
theorem dX5_count_9 : decode cX5_count 9 = .ok (.ifCond .ne 6, 3) := by decide +kernel
theorem dX5_count_12 : decode cX5_count 12 = .ok (.bipush (-2), 2) := by decide +kernel
theorem dX5_count_14 : decode cX5_count 14 = .ok (.ireturn, 1) := by decide +kernel
theorem dX5_count_15 : decode cX5_count 15 = .ok (.iload_n 1, 1) := by decide +kernel
theorem dX5_count_16 : decode cX5_count 16 = .ok (.ifCond .ne 10, 3) := by decide +kernel
theorem dX5_count_19 : decode cX5_count 19 = .ok (.aload_n 0, 1) := by decide +kernel
theorem dX5_count_20 : decode cX5_count 20 = .ok (.getfield 73, 3) := by decide +kernel
theorem dX5_count_23 : decode cX5_count 23 = .ok (.goto 59, 3) := by decide +kernel
theorem dX5_count_26 : decode cX5_count 26 = .ok (.iload_n 1, 1) := by decide +kernel
theorem dX5_count_27 : decode cX5_count 27 = .ok (.iconst 1, 1) := by decide +kernel
theorem dX5_count_28 : decode cX5_count 28 = .ok (.if_icmp .ne 10, 3) := by decide +kernel
theorem dX5_count_31 : decode cX5_count 31 = .ok (.aload_n 0, 1) := by decide +kernel
theorem dX5_count_32 : decode cX5_count 32 = .ok (.invokevirtual 363, 3) := by decide +kernel
theorem dX5_count_35 : decode cX5_count 35 = .ok (.goto 47, 3) := by decide +kernel
theorem dX5_count_38 : decode cX5_count 38 = .ok (.iload_n 1, 1) := by decide +kernel
theorem dX5_count_39 : decode cX5_count 39 = .ok (.iconst 2, 1) := by decide +kernel
theorem dX5_count_40 : decode cX5_count 40 = .ok (.if_icmp .ne 14, 3) := by decide +kernel
theorem dX5_count_43 : decode cX5_count 43 = .ok (.aload_n 0, 1) := by decide +kernel
theorem dX5_count_44 : decode cX5_count 44 = .ok (.iconst 1, 1) := by decide +kernel
theorem dX5_count_45 : decode cX5_count 45 = .ok (.invokevirtual 263, 3) := by decide +kernel
theorem dX5_count_48 : decode cX5_count 48 = .ok (.invokestatic 260, 3) := by decide +kernel
theorem dX5_count_51 : decode cX5_count 51 = .ok (.goto 31, 3) := by decide +kernel
theorem dX5_count_54 : decode cX5_count 54 = .ok (.iload_n 1, 1) := by decide +kernel
theorem dX5_count_55 : decode cX5_count 55 = .ok (.iconst 3, 1) := by decide +kernel
theorem dX5_count_56 : decode cX5_count 56 = .ok (.if_icmp .ne 10, 3) := by decide +kernel
theorem dX5_count_59 : decode cX5_count 59 = .ok (.aload_n 0, 1) := by decide +kernel
theorem dX5_count_60 : decode cX5_count 60 = .ok (.getfield 70, 3) := by decide +kernel
theorem dX5_count_63 : decode cX5_count 63 = .ok (.goto 19, 3) := by decide +kernel
theorem dX5_count_66 : decode cX5_count 66 = .ok (.iload_n 1, 1) := by decide +kernel
theorem dX5_count_67 : decode cX5_count 67 = .ok (.iconst 4, 1) := by decide +kernel
theorem dX5_count_68 : decode cX5_count 68 = .ok (.if_icmp .ne 10, 3) := by decide +kernel
theorem dX5_count_71 : decode cX5_count 71 = .ok (.aload_n 0, 1) := by decide +kernel
theorem dX5_count_72 : decode cX5_count 72 = .ok (.getfield 134, 3) := by decide +kernel
theorem dX5_count_75 : decode cX5_count 75 = .ok (.goto 7, 3) := by decide +kernel
theorem dX5_count_78 : decode cX5_count 78 = .ok (.aload_n 0, 1) := by decide +kernel
theorem dX5_count_79 : decode cX5_count 79 = .ok (.getfield 113, 3) := by decide +kernel
theorem dX5_count_82 : decode cX5_count 82 = .ok (.ireturn, 1) := by decide +kernel
theorem dX5_isSheet_0 : decode cX5_isSheet 0 = .ok (.iload_n 0, 1) := by decide +kernel
theorem dX5_isSheet_1 : decode cX5_isSheet 1 = .ok (.i2l, 1) := by decide +kernel
theorem dX5_isSheet_2 : decode cX5_isSheet 2 = .ok (.lconst 0, 1) := by decide +kernel
theorem dX5_isSheet_3 : decode cX5_isSheet 3 = .ok (.ldc2_w 366, 3) := by decide +kernel
theorem dX5_isSheet_6 : decode cX5_isSheet 6 = .ok (.invokestatic 76, 3) := by decide +kernel
theorem dX5_isSheet_9 : decode cX5_isSheet 9 = .ok (.ireturn, 1) := by decide +kernel
theorem dX5_sheet_0 : decode cX5_sheet 0 = .ok (.iload_n 1, 1) := by decide +kernel
theorem dX5_sheet_1 : decode cX5_sheet 1 = .ok (.invokestatic 336, 3) := by decide +kernel
theorem dX5_sheet_4 : decode cX5_sheet 4 = .ok (.ifCond .eq 27, 3) := by decide +kernel
theorem dX5_sheet_7 : decode cX5_sheet 7 = .ok (.iload_n 2, 1) := by decide +kernel
theorem dX5_sheet_8 : decode cX5_sheet 8 = .ok (.i2l, 1) := by decide +kernel
theorem dX5_sheet_9 : decode cX5_sheet 9 = .ok (.ldc2_w 368, 3) := by decide +kernel
theorem dX5_sheet_12 : decode cX5_sheet 12 = .ok (.ldc2_w 299, 3) := by decide +kernel
theorem dX5_sheet_15 : decode cX5_sheet 15 = .ok (.invokestatic 76, 3) := by decide +kernel
theorem dX5_sheet_18 : decode cX5_sheet 18 = .ok (.ifCond .eq 13, 3) := by decide +kernel
theorem dX5_sheet_21 : decode cX5_sheet 21 = .ok (.iload_n 2, 1) := by decide +kernel
theorem dX5_sheet_22 : decode cX5_sheet 22 = .ok (.ifCond .lt 12, 3) := by decide +kernel
theorem dX5_sheet_25 : decode cX5_sheet 25 = .ok (.iload_n 3, 1) := by decide +kernel
theorem dX5_sheet_26 : decode cX5_sheet 26 = .ok (.bipush 40, 2) := by decide +kernel
theorem dX5_sheet_28 : decode cX5_sheet 28 = .ok (.if_icmp .le 6, 3) := by decide +kernel
theorem dX5_sheet_31 : decode cX5_sheet 31 = .ok (.bipush (-2), 2) := by decide +kernel
theorem dX5_sheet_33 : decode cX5_sheet 33 = .ok (.ireturn, 1) := by decide +kernel
theorem dX5_sheet_34 : decode cX5_sheet 34 = .ok (.iload_n 2, 1) := by decide +kernel
theorem dX5_sheet_35 : decode cX5_sheet 35 = .ok (.ifCond .lt 10, 3) := by decide +kernel
theorem dX5_sheet_38 : decode cX5_sheet 38 = .ok (.iload_n 3, 1) := by decide +kernel
theorem dX5_sheet_39 : decode cX5_sheet 39 = .ok (.ifCond .ge 6, 3) := by decide +kernel
theorem dX5_sheet_42 : decode cX5_sheet 42 = .ok (.bipush (-14), 2) := by decide +kernel
theorem dX5_sheet_44 : decode cX5_sheet 44 = .ok (.ireturn, 1) := by decide +kernel
theorem dX5_sheet_45 : decode cX5_sheet 45 = .ok (.aload_n 0, 1) := by decide +kernel
theorem dX5_sheet_46 : decode cX5_sheet 46 = .ok (.getfield 53, 3) := by decide +kernel
theorem dX5_sheet_49 : decode cX5_sheet 49 = .ok (.iload_n 1, 1) := by decide +kernel
theorem dX5_sheet_50 : decode cX5_sheet 50 = .ok (.iload_n 2, 1) := by decide +kernel
theorem dX5_sheet_51 : decode cX5_sheet 51 = .ok (.ifCond .lt 7, 3) := by decide +kernel
theorem dX5_sheet_54 : decode cX5_sheet 54 = .ok (.iconst 1, 1) := by decide +kernel
theorem dX5_sheet_55 : decode cX5_sheet 55 = .ok (.goto 4, 3) := by decide +kernel
theorem dX5_sheet_58 : decode cX5_sheet 58 = .ok (.iconst 0, 1) := by decide +kernel
theorem dX5_sheet_59 : decode cX5_sheet 59 = .ok (.bastore, 1) := by decide +kernel
theorem dX5_sheet_60 : decode cX5_sheet 60 = .ok (.aload_n 0, 1) := by decide +kernel
theorem dX5_sheet_61 : decode cX5_sheet 61 = .ok (.getfield 57, 3) := by decide +kernel
theorem dX5_sheet_64 : decode cX5_sheet 64 = .ok (.iload_n 1, 1) := by decide +kernel
theorem dX5_sheet_65 : decode cX5_sheet 65 = .ok (.iload_n 2, 1) := by decide +kernel
theorem dX5_sheet_66 : decode cX5_sheet 66 = .ok (.iastore, 1) := by decide +kernel
theorem dX5_sheet_67 : decode cX5_sheet 67 = .ok (.aload_n 0, 1) := by decide +kernel
theorem dX5_sheet_68 : decode cX5_sheet 68 = .ok (.getfield 60, 3) := by decide +kernel
theorem dX5_sheet_71 : decode cX5_sheet 71 = .ok (.iload_n 1, 1) := by decide +kernel
theorem dX5_sheet_72 : decode cX5_sheet 72 = .ok (.iload_n 3, 1) := by decide +kernel
theorem dX5_sheet_73 : decode cX5_sheet 73 = .ok (.iastore, 1) := by decide +kernel
theorem dX5_sheet_74 : decode cX5_sheet 74 = .ok (.iconst 0, 1) := by decide +kernel
theorem dX5_sheet_75 : decode cX5_sheet 75 = .ok (.istore 4, 2) := by decide +kernel
theorem dX5_sheet_77 : decode cX5_sheet 77 = .ok (.iload 4, 2) := by decide +kernel
theorem dX5_sheet_79 : decode cX5_sheet 79 = .ok (.iload_n 3, 1) := by decide +kernel
theorem dX5_sheet_80 : decode cX5_sheet 80 = .ok (.if_icmp .ge 26, 3) := by decide +kernel
theorem dX5_sheet_83 : decode cX5_sheet 83 = .ok (.iload_n 2, 1) := by decide +kernel
theorem dX5_sheet_84 : decode cX5_sheet 84 = .ok (.ifCond .lt 22, 3) := by decide +kernel
theorem dX5_sheet_87 : decode cX5_sheet 87 = .ok (.aload_n 0, 1) := by decide +kernel
theorem dX5_sheet_88 : decode cX5_sheet 88 = .ok (.getfield 63, 3) := by decide +kernel
theorem dX5_sheet_91 : decode cX5_sheet 91 = .ok (.bipush 40, 2) := by decide +kernel
theorem dX5_sheet_93 : decode cX5_sheet 93 = .ok (.iload_n 1, 1) := by decide +kernel
theorem dX5_sheet_94 : decode cX5_sheet 94 = .ok (.imul, 1) := by decide +kernel
theorem dX5_sheet_95 : decode cX5_sheet 95 = .ok (.iload 4, 2) := by decide +kernel
theorem dX5_sheet_97 : decode cX5_sheet 97 = .ok (.iadd, 1) := by decide +kernel
theorem dX5_sheet_98 : decode cX5_sheet 98 = .ok (.iconst 0, 1) := by decide +kernel
theorem dX5_sheet_99 : decode cX5_sheet 99 = .ok (.iastore, 1) := by decide +kernel
theorem dX5_sheet_100 : decode cX5_sheet 100 = .ok (.iinc 4 1, 3) := by decide +kernel
theorem dX5_sheet_103 : decode cX5_sheet 103 = .ok (.goto (-26), 3) := by decide +kernel
theorem dX5_sheet_106 : decode cX5_sheet 106 = .ok (.iconst 1, 1) := by decide +kernel
theorem dX5_sheet_107 : decode cX5_sheet 107 = .ok (.ireturn, 1) := by decide +kernel
theorem dX5_cell_0 : decode cX5_cell 0 = .ok (.iload_n 1, 1) := by decide +kernel
theorem dX5_cell_1 : decode cX5_cell 1 = .ok (.invokestatic 336, 3) := by decide +kernel
theorem dX5_cell_4 : decode cX5_cell 4 = .ok (.ifCond .ne 6, 3) := by decide +kernel
theorem dX5_cell_7 : decode cX5_cell 7 = .ok (.bipush (-2), 2) := by decide +kernel
theorem dX5_cell_9 : decode cX5_cell 9 = .ok (.ireturn, 1) := by decide +kernel
theorem dX5_cell_10 : decode cX5_cell 10 = .ok (.aload_n 0, 1) := by decide +kernel
theorem dX5_cell_11 : decode cX5_cell 11 = .ok (.getfield 53, 3) := by decide +kernel
theorem dX5_cell_14 : decode cX5_cell 14 = .ok (.iload_n 1, 1) := by decide +kernel
theorem dX5_cell_15 : decode cX5_cell 15 = .ok (.baload, 1) := by decide +kernel
theorem dX5_cell_16 : decode cX5_cell 16 = .ok (.ifCond .ne 6, 3) := by decide +kernel
theorem dX5_cell_19 : decode cX5_cell 19 = .ok (.bipush (-11), 2) := by decide +kernel
theorem dX5_cell_21 : decode cX5_cell 21 = .ok (.ireturn, 1) := by decide +kernel
theorem dX5_cell_22 : decode cX5_cell 22 = .ok (.iload_n 2, 1) := by decide +kernel
theorem dX5_cell_23 : decode cX5_cell 23 = .ok (.i2l, 1) := by decide +kernel
theorem dX5_cell_24 : decode cX5_cell 24 = .ok (.lconst 0, 1) := by decide +kernel
theorem dX5_cell_25 : decode cX5_cell 25 = .ok (.aload_n 0, 1) := by decide +kernel
theorem dX5_cell_26 : decode cX5_cell 26 = .ok (.getfield 60, 3) := by decide +kernel
theorem dX5_cell_29 : decode cX5_cell 29 = .ok (.iload_n 1, 1) := by decide +kernel
theorem dX5_cell_30 : decode cX5_cell 30 = .ok (.iaload, 1) := by decide +kernel
theorem dX5_cell_31 : decode cX5_cell 31 = .ok (.iconst 1, 1) := by decide +kernel
theorem dX5_cell_32 : decode cX5_cell 32 = .ok (.isub, 1) := by decide +kernel
theorem dX5_cell_33 : decode cX5_cell 33 = .ok (.i2l, 1) := by decide +kernel
theorem dX5_cell_34 : decode cX5_cell 34 = .ok (.invokestatic 76, 3) := by decide +kernel
theorem dX5_cell_37 : decode cX5_cell 37 = .ok (.ifCond .ne 6, 3) := by decide +kernel
theorem dX5_cell_40 : decode cX5_cell 40 = .ok (.bipush (-12), 2) := by decide +kernel
theorem dX5_cell_42 : decode cX5_cell 42 = .ok (.ireturn, 1) := by decide +kernel
theorem dX5_cell_43 : decode cX5_cell 43 = .ok (.aload_n 0, 1) := by decide +kernel
theorem dX5_cell_44 : decode cX5_cell 44 = .ok (.getfield 63, 3) := by decide +kernel
theorem dX5_cell_47 : decode cX5_cell 47 = .ok (.bipush 40, 2) := by decide +kernel
theorem dX5_cell_49 : decode cX5_cell 49 = .ok (.iload_n 1, 1) := by decide +kernel
theorem dX5_cell_50 : decode cX5_cell 50 = .ok (.imul, 1) := by decide +kernel
theorem dX5_cell_51 : decode cX5_cell 51 = .ok (.iload_n 2, 1) := by decide +kernel
theorem dX5_cell_52 : decode cX5_cell 52 = .ok (.iadd, 1) := by decide +kernel
theorem dX5_cell_53 : decode cX5_cell 53 = .ok (.aload_n 0, 1) := by decide +kernel
theorem dX5_cell_54 : decode cX5_cell 54 = .ok (.getfield 57, 3) := by decide +kernel
theorem dX5_cell_57 : decode cX5_cell 57 = .ok (.iload_n 1, 1) := by decide +kernel
theorem dX5_cell_58 : decode cX5_cell 58 = .ok (.iaload, 1) := by decide +kernel
theorem dX5_cell_59 : decode cX5_cell 59 = .ok (.ifCond .ne 8, 3) := by decide +kernel
theorem dX5_cell_62 : decode cX5_cell 62 = .ok (.iload_n 3, 1) := by decide +kernel
theorem dX5_cell_63 : decode cX5_cell 63 = .ok (.i2b, 1) := by decide +kernel
theorem dX5_cell_64 : decode cX5_cell 64 = .ok (.goto 19, 3) := by decide +kernel
theorem dX5_cell_67 : decode cX5_cell 67 = .ok (.aload_n 0, 1) := by decide +kernel
theorem dX5_cell_68 : decode cX5_cell 68 = .ok (.getfield 57, 3) := by decide +kernel
theorem dX5_cell_71 : decode cX5_cell 71 = .ok (.iload_n 1, 1) := by decide +kernel
theorem dX5_cell_72 : decode cX5_cell 72 = .ok (.iaload, 1) := by decide +kernel
theorem dX5_cell_73 : decode cX5_cell 73 = .ok (.iconst 1, 1) := by decide +kernel
theorem dX5_cell_74 : decode cX5_cell 74 = .ok (.if_icmp .ne 8, 3) := by decide +kernel
theorem dX5_cell_77 : decode cX5_cell 77 = .ok (.iload_n 3, 1) := by decide +kernel
theorem dX5_cell_78 : decode cX5_cell 78 = .ok (.i2s, 1) := by decide +kernel
theorem dX5_cell_79 : decode cX5_cell 79 = .ok (.goto 4, 3) := by decide +kernel
theorem dX5_cell_82 : decode cX5_cell 82 = .ok (.iload_n 3, 1) := by decide +kernel
theorem dX5_cell_83 : decode cX5_cell 83 = .ok (.iastore, 1) := by decide +kernel
theorem dX5_cell_84 : decode cX5_cell 84 = .ok (.iconst 1, 1) := by decide +kernel
theorem dX5_cell_85 : decode cX5_cell 85 = .ok (.ireturn, 1) := by decide +kernel
theorem dX5_copy_0 : decode cX5_copy 0 = .ok (.iload_n 1, 1) := by decide +kernel
theorem dX5_copy_1 : decode cX5_copy 1 = .ok (.invokestatic 336, 3) := by decide +kernel
theorem dX5_copy_4 : decode cX5_copy 4 = .ok (.ifCond .eq 10, 3) := by decide +kernel
theorem dX5_copy_7 : decode cX5_copy 7 = .ok (.iload_n 3, 1) := by decide +kernel
theorem dX5_copy_8 : decode cX5_copy 8 = .ok (.invokestatic 336, 3) := by decide +kernel
theorem dX5_copy_11 : decode cX5_copy 11 = .ok (.ifCond .ne 6, 3) := by decide +kernel
theorem dX5_copy_14 : decode cX5_copy 14 = .ok (.bipush (-2), 2) := by decide +kernel
theorem dX5_copy_16 : decode cX5_copy 16 = .ok (.ireturn, 1) := by decide +kernel
theorem dX5_copy_17 : decode cX5_copy 17 = .ok (.aload_n 0, 1) := by decide +kernel
theorem dX5_copy_18 : decode cX5_copy 18 = .ok (.getfield 53, 3) := by decide +kernel
theorem dX5_copy_21 : decode cX5_copy 21 = .ok (.iload_n 1, 1) := by decide +kernel
theorem dX5_copy_22 : decode cX5_copy 22 = .ok (.baload, 1) := by decide +kernel
theorem dX5_copy_23 : decode cX5_copy 23 = .ok (.ifCond .eq 12, 3) := by decide +kernel
theorem dX5_copy_26 : decode cX5_copy 26 = .ok (.aload_n 0, 1) := by decide +kernel
theorem dX5_copy_27 : decode cX5_copy 27 = .ok (.getfield 53, 3) := by decide +kernel
theorem dX5_copy_30 : decode cX5_copy 30 = .ok (.iload_n 3, 1) := by decide +kernel
theorem dX5_copy_31 : decode cX5_copy 31 = .ok (.baload, 1) := by decide +kernel
theorem dX5_copy_32 : decode cX5_copy 32 = .ok (.ifCond .ne 6, 3) := by decide +kernel
theorem dX5_copy_35 : decode cX5_copy 35 = .ok (.bipush (-11), 2) := by decide +kernel
theorem dX5_copy_37 : decode cX5_copy 37 = .ok (.ireturn, 1) := by decide +kernel
theorem dX5_copy_38 : decode cX5_copy 38 = .ok (.aload_n 0, 1) := by decide +kernel
theorem dX5_copy_39 : decode cX5_copy 39 = .ok (.getfield 57, 3) := by decide +kernel
theorem dX5_copy_42 : decode cX5_copy 42 = .ok (.iload_n 1, 1) := by decide +kernel
theorem dX5_copy_43 : decode cX5_copy 43 = .ok (.iaload, 1) := by decide +kernel
theorem dX5_copy_44 : decode cX5_copy 44 = .ok (.aload_n 0, 1) := by decide +kernel
theorem dX5_copy_45 : decode cX5_copy 45 = .ok (.getfield 57, 3) := by decide +kernel
theorem dX5_copy_48 : decode cX5_copy 48 = .ok (.iload_n 3, 1) := by decide +kernel
theorem dX5_copy_49 : decode cX5_copy 49 = .ok (.iaload, 1) := by decide +kernel
theorem dX5_copy_50 : decode cX5_copy 50 = .ok (.if_icmp .eq 6, 3) := by decide +kernel
theorem dX5_copy_53 : decode cX5_copy 53 = .ok (.bipush (-13), 2) := by decide +kernel
theorem dX5_copy_55 : decode cX5_copy 55 = .ok (.ireturn, 1) := by decide +kernel
theorem dX5_copy_56 : decode cX5_copy 56 = .ok (.iload 5, 2) := by decide +kernel
theorem dX5_copy_58 : decode cX5_copy 58 = .ok (.ifCond .lt 39, 3) := by decide +kernel
theorem dX5_copy_61 : decode cX5_copy 61 = .ok (.iload_n 2, 1) := by decide +kernel
theorem dX5_copy_62 : decode cX5_copy 62 = .ok (.ifCond .lt 35, 3) := by decide +kernel
theorem dX5_copy_65 : decode cX5_copy 65 = .ok (.iload 4, 2) := by decide +kernel
theorem dX5_copy_67 : decode cX5_copy 67 = .ok (.ifCond .lt 30, 3) := by decide +kernel
theorem dX5_copy_70 : decode cX5_copy 70 = .ok (.iload_n 2, 1) := by decide +kernel
theorem dX5_copy_71 : decode cX5_copy 71 = .ok (.aload_n 0, 1) := by decide +kernel
theorem dX5_copy_72 : decode cX5_copy 72 = .ok (.getfield 60, 3) := by decide +kernel
theorem dX5_copy_75 : decode cX5_copy 75 = .ok (.iload_n 1, 1) := by decide +kernel
theorem dX5_copy_76 : decode cX5_copy 76 = .ok (.iaload, 1) := by decide +kernel
theorem dX5_copy_77 : decode cX5_copy 77 = .ok (.iload 5, 2) := by decide +kernel
theorem dX5_copy_79 : decode cX5_copy 79 = .ok (.isub, 1) := by decide +kernel
theorem dX5_copy_80 : decode cX5_copy 80 = .ok (.if_icmp .gt 17, 3) := by decide +kernel
theorem dX5_copy_83 : decode cX5_copy 83 = .ok (.iload 4, 2) := by decide +kernel
theorem dX5_copy_85 : decode cX5_copy 85 = .ok (.aload_n 0, 1) := by decide +kernel
theorem dX5_copy_86 : decode cX5_copy 86 = .ok (.getfield 60, 3) := by decide +kernel
theorem dX5_copy_89 : decode cX5_copy 89 = .ok (.iload_n 3, 1) := by decide +kernel
theorem dX5_copy_90 : decode cX5_copy 90 = .ok (.iaload, 1) := by decide +kernel
theorem dX5_copy_91 : decode cX5_copy 91 = .ok (.iload 5, 2) := by decide +kernel
theorem dX5_copy_93 : decode cX5_copy 93 = .ok (.isub, 1) := by decide +kernel
theorem dX5_copy_94 : decode cX5_copy 94 = .ok (.if_icmp .le 6, 3) := by decide +kernel
theorem dX5_copy_97 : decode cX5_copy 97 = .ok (.bipush (-12), 2) := by decide +kernel
theorem dX5_copy_99 : decode cX5_copy 99 = .ok (.ireturn, 1) := by decide +kernel
theorem dX5_copy_100 : decode cX5_copy 100 = .ok (.iload_n 1, 1) := by decide +kernel
theorem dX5_copy_101 : decode cX5_copy 101 = .ok (.iload_n 3, 1) := by decide +kernel
theorem dX5_copy_102 : decode cX5_copy 102 = .ok (.if_icmp .ne 13, 3) := by decide +kernel
theorem dX5_copy_105 : decode cX5_copy 105 = .ok (.iload_n 2, 1) := by decide +kernel
theorem dX5_copy_106 : decode cX5_copy 106 = .ok (.iload 4, 2) := by decide +kernel
theorem dX5_copy_108 : decode cX5_copy 108 = .ok (.if_icmp .ge 7, 3) := by decide +kernel
theorem dX5_copy_111 : decode cX5_copy 111 = .ok (.iconst 1, 1) := by decide +kernel
theorem dX5_copy_112 : decode cX5_copy 112 = .ok (.goto 4, 3) := by decide +kernel
theorem dX5_copy_115 : decode cX5_copy 115 = .ok (.iconst 0, 1) := by decide +kernel
theorem dX5_copy_116 : decode cX5_copy 116 = .ok (.istore 6, 2) := by decide +kernel
theorem dX5_copy_118 : decode cX5_copy 118 = .ok (.iconst 0, 1) := by decide +kernel
theorem dX5_copy_119 : decode cX5_copy 119 = .ok (.istore 7, 2) := by decide +kernel
theorem dX5_copy_121 : decode cX5_copy 121 = .ok (.iload 7, 2) := by decide +kernel
theorem dX5_copy_123 : decode cX5_copy 123 = .ok (.iload 5, 2) := by decide +kernel
theorem dX5_copy_125 : decode cX5_copy 125 = .ok (.if_icmp .ge 57, 3) := by decide +kernel
theorem dX5_copy_128 : decode cX5_copy 128 = .ok (.iload 6, 2) := by decide +kernel
theorem dX5_copy_130 : decode cX5_copy 130 = .ok (.ifCond .eq 13, 3) := by decide +kernel
theorem dX5_copy_133 : decode cX5_copy 133 = .ok (.iload 5, 2) := by decide +kernel
theorem dX5_copy_135 : decode cX5_copy 135 = .ok (.iconst 1, 1) := by decide +kernel
theorem dX5_copy_136 : decode cX5_copy 136 = .ok (.isub, 1) := by decide +kernel
theorem dX5_copy_137 : decode cX5_copy 137 = .ok (.iload 7, 2) := by decide +kernel
theorem dX5_copy_139 : decode cX5_copy 139 = .ok (.isub, 1) := by decide +kernel
theorem dX5_copy_140 : decode cX5_copy 140 = .ok (.goto 5, 3) := by decide +kernel
theorem dX5_copy_143 : decode cX5_copy 143 = .ok (.iload 7, 2) := by decide +kernel
theorem dX5_copy_145 : decode cX5_copy 145 = .ok (.istore 8, 2) := by decide +kernel
theorem dX5_copy_147 : decode cX5_copy 147 = .ok (.aload_n 0, 1) := by decide +kernel
theorem dX5_copy_148 : decode cX5_copy 148 = .ok (.getfield 63, 3) := by decide +kernel
theorem dX5_copy_151 : decode cX5_copy 151 = .ok (.bipush 40, 2) := by decide +kernel
theorem dX5_copy_153 : decode cX5_copy 153 = .ok (.iload_n 3, 1) := by decide +kernel
theorem dX5_copy_154 : decode cX5_copy 154 = .ok (.imul, 1) := by decide +kernel
theorem dX5_copy_155 : decode cX5_copy 155 = .ok (.iload 4, 2) := by decide +kernel
theorem dX5_copy_157 : decode cX5_copy 157 = .ok (.iadd, 1) := by decide +kernel
theorem dX5_copy_158 : decode cX5_copy 158 = .ok (.iload 8, 2) := by decide +kernel
theorem dX5_copy_160 : decode cX5_copy 160 = .ok (.iadd, 1) := by decide +kernel
theorem dX5_copy_161 : decode cX5_copy 161 = .ok (.aload_n 0, 1) := by decide +kernel
theorem dX5_copy_162 : decode cX5_copy 162 = .ok (.getfield 63, 3) := by decide +kernel
theorem dX5_copy_165 : decode cX5_copy 165 = .ok (.bipush 40, 2) := by decide +kernel
theorem dX5_copy_167 : decode cX5_copy 167 = .ok (.iload_n 1, 1) := by decide +kernel
theorem dX5_copy_168 : decode cX5_copy 168 = .ok (.imul, 1) := by decide +kernel
theorem dX5_copy_169 : decode cX5_copy 169 = .ok (.iload_n 2, 1) := by decide +kernel
theorem dX5_copy_170 : decode cX5_copy 170 = .ok (.iadd, 1) := by decide +kernel
theorem dX5_copy_171 : decode cX5_copy 171 = .ok (.iload 8, 2) := by decide +kernel
theorem dX5_copy_173 : decode cX5_copy 173 = .ok (.iadd, 1) := by decide +kernel
theorem dX5_copy_174 : decode cX5_copy 174 = .ok (.iaload, 1) := by decide +kernel
theorem dX5_copy_175 : decode cX5_copy 175 = .ok (.iastore, 1) := by decide +kernel
theorem dX5_copy_176 : decode cX5_copy 176 = .ok (.iinc 7 1, 3) := by decide +kernel
theorem dX5_copy_179 : decode cX5_copy 179 = .ok (.goto (-58), 3) := by decide +kernel
theorem dX5_copy_182 : decode cX5_copy 182 = .ok (.iload 5, 2) := by decide +kernel
theorem dX5_copy_184 : decode cX5_copy 184 = .ok (.ireturn, 1) := by decide +kernel
theorem dX5_gang_0 : decode cX5_gang 0 = .ok (.iload_n 1, 1) := by decide +kernel
theorem dX5_gang_1 : decode cX5_gang 1 = .ok (.invokestatic 336, 3) := by decide +kernel
theorem dX5_gang_4 : decode cX5_gang 4 = .ok (.ifCond .eq 28, 3) := by decide +kernel
theorem dX5_gang_7 : decode cX5_gang 7 = .ok (.iload_n 2, 1) := by decide +kernel
theorem dX5_gang_8 : decode cX5_gang 8 = .ok (.i2l, 1) := by decide +kernel
theorem dX5_gang_9 : decode cX5_gang 9 = .ok (.lconst 0, 1) := by decide +kernel
theorem dX5_gang_10 : decode cX5_gang 10 = .ok (.ldc2_w 299, 3) := by decide +kernel
theorem dX5_gang_13 : decode cX5_gang 13 = .ok (.invokestatic 76, 3) := by decide +kernel
theorem dX5_gang_16 : decode cX5_gang 16 = .ok (.ifCond .eq 16, 3) := by decide +kernel
theorem dX5_gang_19 : decode cX5_gang 19 = .ok (.iload 4, 2) := by decide +kernel
theorem dX5_gang_21 : decode cX5_gang 21 = .ok (.i2l, 1) := by decide +kernel
theorem dX5_gang_22 : decode cX5_gang 22 = .ok (.lconst 0, 1) := by decide +kernel
theorem dX5_gang_23 : decode cX5_gang 23 = .ok (.ldc2_w 89, 3) := by decide +kernel
theorem dX5_gang_26 : decode cX5_gang 26 = .ok (.invokestatic 76, 3) := by decide +kernel
theorem dX5_gang_29 : decode cX5_gang 29 = .ok (.ifCond .ne 6, 3) := by decide +kernel
theorem dX5_gang_32 : decode cX5_gang 32 = .ok (.bipush (-2), 2) := by decide +kernel
theorem dX5_gang_34 : decode cX5_gang 34 = .ok (.ireturn, 1) := by decide +kernel
theorem dX5_gang_35 : decode cX5_gang 35 = .ok (.aload_n 0, 1) := by decide +kernel
theorem dX5_gang_36 : decode cX5_gang 36 = .ok (.getfield 53, 3) := by decide +kernel
theorem dX5_gang_39 : decode cX5_gang 39 = .ok (.iload_n 1, 1) := by decide +kernel
theorem dX5_gang_40 : decode cX5_gang 40 = .ok (.baload, 1) := by decide +kernel
theorem dX5_gang_41 : decode cX5_gang 41 = .ok (.ifCond .eq 16, 3) := by decide +kernel
theorem dX5_gang_44 : decode cX5_gang 44 = .ok (.aload_n 0, 1) := by decide +kernel
theorem dX5_gang_45 : decode cX5_gang 45 = .ok (.getfield 57, 3) := by decide +kernel
theorem dX5_gang_48 : decode cX5_gang 48 = .ok (.iload_n 1, 1) := by decide +kernel
theorem dX5_gang_49 : decode cX5_gang 49 = .ok (.iaload, 1) := by decide +kernel
theorem dX5_gang_50 : decode cX5_gang 50 = .ok (.iload_n 2, 1) := by decide +kernel
theorem dX5_gang_51 : decode cX5_gang 51 = .ok (.if_icmp .eq 6, 3) := by decide +kernel
theorem dX5_gang_54 : decode cX5_gang 54 = .ok (.bipush (-13), 2) := by decide +kernel
theorem dX5_gang_56 : decode cX5_gang 56 = .ok (.ireturn, 1) := by decide +kernel
theorem dX5_gang_57 : decode cX5_gang 57 = .ok (.aload_n 0, 1) := by decide +kernel
theorem dX5_gang_58 : decode cX5_gang 58 = .ok (.getfield 53, 3) := by decide +kernel
theorem dX5_gang_61 : decode cX5_gang 61 = .ok (.iload_n 1, 1) := by decide +kernel
theorem dX5_gang_62 : decode cX5_gang 62 = .ok (.baload, 1) := by decide +kernel
theorem dX5_gang_63 : decode cX5_gang 63 = .ok (.ifCond .ne 6, 3) := by decide +kernel
theorem dX5_gang_66 : decode cX5_gang 66 = .ok (.bipush (-11), 2) := by decide +kernel
theorem dX5_gang_68 : decode cX5_gang 68 = .ok (.ireturn, 1) := by decide +kernel
theorem dX5_gang_69 : decode cX5_gang 69 = .ok (.iconst 0, 1) := by decide +kernel
theorem dX5_gang_70 : decode cX5_gang 70 = .ok (.istore 5, 2) := by decide +kernel
theorem dX5_gang_72 : decode cX5_gang 72 = .ok (.iconst 0, 1) := by decide +kernel
theorem dX5_gang_73 : decode cX5_gang 73 = .ok (.istore 6, 2) := by decide +kernel
theorem dX5_gang_75 : decode cX5_gang 75 = .ok (.iload 6, 2) := by decide +kernel
theorem dX5_gang_77 : decode cX5_gang 77 = .ok (.iload 4, 2) := by decide +kernel
theorem dX5_gang_79 : decode cX5_gang 79 = .ok (.if_icmp .ge 88, 3) := by decide +kernel
theorem dX5_gang_82 : decode cX5_gang 82 = .ok (.iload_n 3, 1) := by decide +kernel
theorem dX5_gang_83 : decode cX5_gang 83 = .ok (.ifCond .lt 20, 3) := by decide +kernel
theorem dX5_gang_86 : decode cX5_gang 86 = .ok (.iload_n 3, 1) := by decide +kernel
theorem dX5_gang_87 : decode cX5_gang 87 = .ok (.aload_n 0, 1) := by decide +kernel
theorem dX5_gang_88 : decode cX5_gang 88 = .ok (.getfield 60, 3) := by decide +kernel
theorem dX5_gang_91 : decode cX5_gang 91 = .ok (.iload_n 1, 1) := by decide +kernel
theorem dX5_gang_92 : decode cX5_gang 92 = .ok (.iaload, 1) := by decide +kernel
theorem dX5_gang_93 : decode cX5_gang 93 = .ok (.iconst 3, 1) := by decide +kernel
theorem dX5_gang_94 : decode cX5_gang 94 = .ok (.iload 6, 2) := by decide +kernel
theorem dX5_gang_96 : decode cX5_gang 96 = .ok (.imul, 1) := by decide +kernel
theorem dX5_gang_97 : decode cX5_gang 97 = .ok (.isub, 1) := by decide +kernel
theorem dX5_gang_98 : decode cX5_gang 98 = .ok (.iconst 3, 1) := by decide +kernel
theorem dX5_gang_99 : decode cX5_gang 99 = .ok (.isub, 1) := by decide +kernel
theorem dX5_gang_100 : decode cX5_gang 100 = .ok (.if_icmp .le 6, 3) := by decide +kernel
theorem dX5_gang_103 : decode cX5_gang 103 = .ok (.bipush (-12), 2) := by decide +kernel
theorem dX5_gang_105 : decode cX5_gang 105 = .ok (.ireturn, 1) := by decide +kernel
theorem dX5_gang_106 : decode cX5_gang 106 = .ok (.bipush 40, 2) := by decide +kernel
theorem dX5_gang_108 : decode cX5_gang 108 = .ok (.iload_n 1, 1) := by decide +kernel
theorem dX5_gang_109 : decode cX5_gang 109 = .ok (.imul, 1) := by decide +kernel
theorem dX5_gang_110 : decode cX5_gang 110 = .ok (.iload_n 3, 1) := by decide +kernel
theorem dX5_gang_111 : decode cX5_gang 111 = .ok (.iadd, 1) := by decide +kernel
theorem dX5_gang_112 : decode cX5_gang 112 = .ok (.iconst 3, 1) := by decide +kernel
theorem dX5_gang_113 : decode cX5_gang 113 = .ok (.iload 6, 2) := by decide +kernel
theorem dX5_gang_115 : decode cX5_gang 115 = .ok (.imul, 1) := by decide +kernel
theorem dX5_gang_116 : decode cX5_gang 116 = .ok (.iadd, 1) := by decide +kernel
theorem dX5_gang_117 : decode cX5_gang 117 = .ok (.istore 7, 2) := by decide +kernel
theorem dX5_gang_119 : decode cX5_gang 119 = .ok (.iload 5, 2) := by decide +kernel
theorem dX5_gang_121 : decode cX5_gang 121 = .ok (.aload_n 0, 1) := by decide +kernel
theorem dX5_gang_122 : decode cX5_gang 122 = .ok (.aload_n 0, 1) := by decide +kernel
theorem dX5_gang_123 : decode cX5_gang 123 = .ok (.getfield 63, 3) := by decide +kernel
theorem dX5_gang_126 : decode cX5_gang 126 = .ok (.iload 7, 2) := by decide +kernel
theorem dX5_gang_128 : decode cX5_gang 128 = .ok (.iaload, 1) := by decide +kernel
theorem dX5_gang_129 : decode cX5_gang 129 = .ok (.aload_n 0, 1) := by decide +kernel
theorem dX5_gang_130 : decode cX5_gang 130 = .ok (.getfield 63, 3) := by decide +kernel
theorem dX5_gang_133 : decode cX5_gang 133 = .ok (.iload 7, 2) := by decide +kernel
theorem dX5_gang_135 : decode cX5_gang 135 = .ok (.iconst 1, 1) := by decide +kernel
theorem dX5_gang_136 : decode cX5_gang 136 = .ok (.iadd, 1) := by decide +kernel
theorem dX5_gang_137 : decode cX5_gang 137 = .ok (.iaload, 1) := by decide +kernel
theorem dX5_gang_138 : decode cX5_gang 138 = .ok (.aload_n 0, 1) := by decide +kernel
theorem dX5_gang_139 : decode cX5_gang 139 = .ok (.getfield 63, 3) := by decide +kernel
theorem dX5_gang_142 : decode cX5_gang 142 = .ok (.iload 7, 2) := by decide +kernel
theorem dX5_gang_144 : decode cX5_gang 144 = .ok (.iconst 2, 1) := by decide +kernel
theorem dX5_gang_145 : decode cX5_gang 145 = .ok (.iadd, 1) := by decide +kernel
theorem dX5_gang_146 : decode cX5_gang 146 = .ok (.iaload, 1) := by decide +kernel
theorem dX5_gang_147 : decode cX5_gang 147 = .ok (.invokevirtual 370, 3) := by decide +kernel
theorem dX5_gang_150 : decode cX5_gang 150 = .ok (.ifCond .lt 7, 3) := by decide +kernel
theorem dX5_gang_153 : decode cX5_gang 153 = .ok (.iconst 1, 1) := by decide +kernel
theorem dX5_gang_154 : decode cX5_gang 154 = .ok (.goto 4, 3) := by decide +kernel
theorem dX5_gang_157 : decode cX5_gang 157 = .ok (.iconst 0, 1) := by decide +kernel
theorem dX5_gang_158 : decode cX5_gang 158 = .ok (.iadd, 1) := by decide +kernel
theorem dX5_gang_159 : decode cX5_gang 159 = .ok (.istore 5, 2) := by decide +kernel
theorem dX5_gang_161 : decode cX5_gang 161 = .ok (.iinc 6 1, 3) := by decide +kernel
theorem dX5_gang_164 : decode cX5_gang 164 = .ok (.goto (-89), 3) := by decide +kernel
theorem dX5_gang_167 : decode cX5_gang 167 = .ok (.iload 5, 2) := by decide +kernel
theorem dX5_gang_169 : decode cX5_gang 169 = .ok (.ireturn, 1) := by decide +kernel
theorem dX5_over_0 : decode cX5_over 0 = .ok (.iload_n 0, 1) := by decide +kernel
theorem dX5_over_1 : decode cX5_over 1 = .ok (.ifCond .ne 7, 3) := by decide +kernel
theorem dX5_over_4 : decode cX5_over 4 = .ok (.iconst (-1), 1) := by decide +kernel
theorem dX5_over_5 : decode cX5_over 5 = .ok (.goto 22, 3) := by decide +kernel
theorem dX5_over_8 : decode cX5_over 8 = .ok (.iload_n 0, 1) := by decide +kernel
theorem dX5_over_9 : decode cX5_over 9 = .ok (.iconst 3, 1) := by decide +kernel
theorem dX5_over_10 : decode cX5_over 10 = .ok (.if_icmp .ne 7, 3) := by decide +kernel
theorem dX5_over_13 : decode cX5_over 13 = .ok (.iconst 1, 1) := by decide +kernel
theorem dX5_over_14 : decode cX5_over 14 = .ok (.goto 13, 3) := by decide +kernel
theorem dX5_over_17 : decode cX5_over 17 = .ok (.iload_n 0, 1) := by decide +kernel
theorem dX5_over_18 : decode cX5_over 18 = .ok (.iconst 4, 1) := by decide +kernel
theorem dX5_over_19 : decode cX5_over 19 = .ok (.if_icmp .ne 7, 3) := by decide +kernel
theorem dX5_over_22 : decode cX5_over 22 = .ok (.iconst 2, 1) := by decide +kernel
theorem dX5_over_23 : decode cX5_over 23 = .ok (.goto 4, 3) := by decide +kernel
theorem dX5_over_26 : decode cX5_over 26 = .ok (.iconst 0, 1) := by decide +kernel
theorem dX5_over_27 : decode cX5_over 27 = .ok (.ireturn, 1) := by decide +kernel
theorem dX5_taken_0 : decode cX5_taken 0 = .ok (.iload_n 2, 1) := by decide +kernel
theorem dX5_taken_1 : decode cX5_taken 1 = .ok (.i2l, 1) := by decide +kernel
theorem dX5_taken_2 : decode cX5_taken 2 = .ok (.lconst 0, 1) := by decide +kernel
theorem dX5_taken_3 : decode cX5_taken 3 = .ok (.ldc2_w 89, 3) := by decide +kernel
theorem dX5_taken_6 : decode cX5_taken 6 = .ok (.invokestatic 76, 3) := by decide +kernel
theorem dX5_taken_9 : decode cX5_taken 9 = .ok (.ifCond .ne 6, 3) := by decide +kernel
theorem dX5_taken_12 : decode cX5_taken 12 = .ok (.bipush (-2), 2) := by decide +kernel
theorem dX5_taken_14 : decode cX5_taken 14 = .ok (.ireturn, 1) := by decide +kernel
theorem dX5_taken_15 : decode cX5_taken 15 = .ok (.aload_n 0, 1) := by decide +kernel
theorem dX5_taken_16 : decode cX5_taken 16 = .ok (.iload_n 1, 1) := by decide +kernel
theorem dX5_taken_17 : decode cX5_taken 17 = .ok (.invokevirtual 86, 3) := by decide +kernel
theorem dX5_taken_20 : decode cX5_taken 20 = .ok (.ifCond .ne 6, 3) := by decide +kernel
theorem dX5_taken_23 : decode cX5_taken 23 = .ok (.bipush (-11), 2) := by decide +kernel
theorem dX5_taken_25 : decode cX5_taken 25 = .ok (.ireturn, 1) := by decide +kernel
theorem dX5_taken_26 : decode cX5_taken 26 = .ok (.aload_n 0, 1) := by decide +kernel
theorem dX5_taken_27 : decode cX5_taken 27 = .ok (.getfield 32, 3) := by decide +kernel
theorem dX5_taken_30 : decode cX5_taken 30 = .ok (.iconst 4, 1) := by decide +kernel
theorem dX5_taken_31 : decode cX5_taken 31 = .ok (.iload_n 1, 1) := by decide +kernel
theorem dX5_taken_32 : decode cX5_taken 32 = .ok (.imul, 1) := by decide +kernel
theorem dX5_taken_33 : decode cX5_taken 33 = .ok (.iconst 2, 1) := by decide +kernel
theorem dX5_taken_34 : decode cX5_taken 34 = .ok (.iadd, 1) := by decide +kernel
theorem dX5_taken_35 : decode cX5_taken 35 = .ok (.iaload, 1) := by decide +kernel
theorem dX5_taken_36 : decode cX5_taken 36 = .ok (.istore_n 3, 1) := by decide +kernel
theorem dX5_taken_37 : decode cX5_taken 37 = .ok (.iload_n 3, 1) := by decide +kernel
theorem dX5_taken_38 : decode cX5_taken 38 = .ok (.iconst (-1), 1) := by decide +kernel
theorem dX5_taken_39 : decode cX5_taken 39 = .ok (.if_icmp .eq 16, 3) := by decide +kernel
theorem dX5_taken_42 : decode cX5_taken 42 = .ok (.iload_n 3, 1) := by decide +kernel
theorem dX5_taken_43 : decode cX5_taken 43 = .ok (.iload_n 2, 1) := by decide +kernel
theorem dX5_taken_44 : decode cX5_taken 44 = .ok (.if_icmp .eq 11, 3) := by decide +kernel
theorem dX5_taken_47 : decode cX5_taken 47 = .ok (.iload_n 3, 1) := by decide +kernel
theorem dX5_taken_48 : decode cX5_taken 48 = .ok (.invokestatic 373, 3) := by decide +kernel
theorem dX5_taken_51 : decode cX5_taken 51 = .ok (.istore_n 3, 1) := by decide +kernel
theorem dX5_taken_52 : decode cX5_taken 52 = .ok (.goto (-15), 3) := by decide +kernel
theorem dX5_taken_55 : decode cX5_taken 55 = .ok (.iload_n 3, 1) := by decide +kernel
theorem dX5_taken_56 : decode cX5_taken 56 = .ok (.iload_n 2, 1) := by decide +kernel
theorem dX5_taken_57 : decode cX5_taken 57 = .ok (.if_icmp .ne 14, 3) := by decide +kernel
theorem dX5_taken_60 : decode cX5_taken 60 = .ok (.aload_n 0, 1) := by decide +kernel
theorem dX5_taken_61 : decode cX5_taken 61 = .ok (.getfield 32, 3) := by decide +kernel
theorem dX5_taken_64 : decode cX5_taken 64 = .ok (.iconst 4, 1) := by decide +kernel
theorem dX5_taken_65 : decode cX5_taken 65 = .ok (.iload_n 1, 1) := by decide +kernel
theorem dX5_taken_66 : decode cX5_taken 66 = .ok (.imul, 1) := by decide +kernel
theorem dX5_taken_67 : decode cX5_taken 67 = .ok (.iaload, 1) := by decide +kernel
theorem dX5_taken_68 : decode cX5_taken 68 = .ok (.goto 5, 3) := by decide +kernel
theorem dX5_taken_71 : decode cX5_taken 71 = .ok (.bipush (-13), 2) := by decide +kernel
theorem dX5_taken_73 : decode cX5_taken 73 = .ok (.ireturn, 1) := by decide +kernel
theorem dL_law_0 : decode cL_law 0 = .ok (.new 7, 3) := by decide +kernel
theorem dL_law_3 : decode cL_law 3 = .ok (.dup, 1) := by decide +kernel
theorem dL_law_4 : decode cL_law 4 = .ok (.invokespecial 9, 3) := by decide +kernel
theorem dL_law_7 : decode cL_law 7 = .ok (.astore_n 1, 1) := by decide +kernel
theorem dL_law_8 : decode cL_law 8 = .ok (.new 10, 3) := by decide +kernel
theorem dL_law_11 : decode cL_law 11 = .ok (.dup, 1) := by decide +kernel
theorem dL_law_12 : decode cL_law 12 = .ok (.invokespecial 12, 3) := by decide +kernel
theorem dL_law_15 : decode cL_law 15 = .ok (.astore_n 2, 1) := by decide +kernel
theorem dL_law_16 : decode cL_law 16 = .ok (.iconst 0, 1) := by decide +kernel
theorem dL_law_17 : decode cL_law 17 = .ok (.istore_n 3, 1) := by decide +kernel
theorem dL_law_18 : decode cL_law 18 = .ok (.iload_n 3, 1) := by decide +kernel
theorem dL_law_19 : decode cL_law 19 = .ok (.aload_n 0, 1) := by decide +kernel
theorem dL_law_20 : decode cL_law 20 = .ok (.arraylength, 1) := by decide +kernel
theorem dL_law_21 : decode cL_law 21 = .ok (.bipush 6, 2) := by decide +kernel
theorem dL_law_23 : decode cL_law 23 = .ok (.isub, 1) := by decide +kernel
theorem dL_law_24 : decode cL_law 24 = .ok (.if_icmp .gt 1052, 3) := by decide +kernel
theorem dL_law_27 : decode cL_law 27 = .ok (.aload_n 0, 1) := by decide +kernel
theorem dL_law_28 : decode cL_law 28 = .ok (.iload_n 3, 1) := by decide +kernel
theorem dL_law_29 : decode cL_law 29 = .ok (.iaload, 1) := by decide +kernel
theorem dL_law_30 : decode cL_law 30 = .ok (.bipush 31, 2) := by decide +kernel
theorem dL_law_32 : decode cL_law 32 = .ok (.iand, 1) := by decide +kernel
theorem dL_law_33 : decode cL_law 33 = .ok (.tableswitch 1037 0 29 #[135, 178, 221, 254, 297, 320, 333, 356, 389, 402, 415, 428, 461, 474, 507, 530, 563, 576, 600, 643, 676, 709, 753, 766, 779, 802, 845, 888, 951, 1004], 135) := by decide +kernel
theorem dL_law_168 : decode cL_law 168 = .ok (.aload_n 1, 1) := by decide +kernel
theorem dL_law_169 : decode cL_law 169 = .ok (.aload_n 0, 1) := by decide +kernel
theorem dL_law_170 : decode cL_law 170 = .ok (.iload_n 3, 1) := by decide +kernel
theorem dL_law_171 : decode cL_law 171 = .ok (.iconst 1, 1) := by decide +kernel
theorem dL_law_172 : decode cL_law 172 = .ok (.iadd, 1) := by decide +kernel
theorem dL_law_173 : decode cL_law 173 = .ok (.iaload, 1) := by decide +kernel
theorem dL_law_174 : decode cL_law 174 = .ok (.aload_n 0, 1) := by decide +kernel
theorem dL_law_175 : decode cL_law 175 = .ok (.iload_n 3, 1) := by decide +kernel
theorem dL_law_176 : decode cL_law 176 = .ok (.iconst 2, 1) := by decide +kernel
theorem dL_law_177 : decode cL_law 177 = .ok (.iadd, 1) := by decide +kernel
theorem dL_law_178 : decode cL_law 178 = .ok (.iaload, 1) := by decide +kernel
theorem dL_law_179 : decode cL_law 179 = .ok (.aload_n 0, 1) := by decide +kernel
theorem dL_law_180 : decode cL_law 180 = .ok (.iload_n 3, 1) := by decide +kernel
theorem dL_law_181 : decode cL_law 181 = .ok (.iconst 3, 1) := by decide +kernel
theorem dL_law_182 : decode cL_law 182 = .ok (.iadd, 1) := by decide +kernel
theorem dL_law_183 : decode cL_law 183 = .ok (.iaload, 1) := by decide +kernel
theorem dL_law_184 : decode cL_law 184 = .ok (.invokevirtual 13, 3) := by decide +kernel
theorem dL_law_187 : decode cL_law 187 = .ok (.aload_n 2, 1) := by decide +kernel
theorem dL_law_188 : decode cL_law 188 = .ok (.aload_n 0, 1) := by decide +kernel
theorem dL_law_189 : decode cL_law 189 = .ok (.iload_n 3, 1) := by decide +kernel
theorem dL_law_190 : decode cL_law 190 = .ok (.iconst 1, 1) := by decide +kernel
theorem dL_law_191 : decode cL_law 191 = .ok (.iadd, 1) := by decide +kernel
theorem dL_law_192 : decode cL_law 192 = .ok (.iaload, 1) := by decide +kernel
theorem dL_law_193 : decode cL_law 193 = .ok (.aload_n 0, 1) := by decide +kernel
theorem dL_law_194 : decode cL_law 194 = .ok (.iload_n 3, 1) := by decide +kernel
theorem dL_law_195 : decode cL_law 195 = .ok (.iconst 2, 1) := by decide +kernel
theorem dL_law_196 : decode cL_law 196 = .ok (.iadd, 1) := by decide +kernel
theorem dL_law_197 : decode cL_law 197 = .ok (.iaload, 1) := by decide +kernel
theorem dL_law_198 : decode cL_law 198 = .ok (.aload_n 0, 1) := by decide +kernel
theorem dL_law_199 : decode cL_law 199 = .ok (.iload_n 3, 1) := by decide +kernel
theorem dL_law_200 : decode cL_law 200 = .ok (.iconst 3, 1) := by decide +kernel
theorem dL_law_201 : decode cL_law 201 = .ok (.iadd, 1) := by decide +kernel
theorem dL_law_202 : decode cL_law 202 = .ok (.iaload, 1) := by decide +kernel
theorem dL_law_203 : decode cL_law 203 = .ok (.invokevirtual 17, 3) := by decide +kernel
theorem dL_law_206 : decode cL_law 206 = .ok (.if_icmp .eq 864, 3) := by decide +kernel
theorem dL_law_209 : decode cL_law 209 = .ok (.iconst 0, 1) := by decide +kernel
theorem dL_law_210 : decode cL_law 210 = .ok (.ireturn, 1) := by decide +kernel
theorem dL_law_211 : decode cL_law 211 = .ok (.aload_n 1, 1) := by decide +kernel
theorem dL_law_212 : decode cL_law 212 = .ok (.aload_n 0, 1) := by decide +kernel
theorem dL_law_213 : decode cL_law 213 = .ok (.iload_n 3, 1) := by decide +kernel
theorem dL_law_214 : decode cL_law 214 = .ok (.iconst 1, 1) := by decide +kernel
theorem dL_law_215 : decode cL_law 215 = .ok (.iadd, 1) := by decide +kernel
theorem dL_law_216 : decode cL_law 216 = .ok (.iaload, 1) := by decide +kernel
theorem dL_law_217 : decode cL_law 217 = .ok (.aload_n 0, 1) := by decide +kernel
theorem dL_law_218 : decode cL_law 218 = .ok (.iload_n 3, 1) := by decide +kernel
theorem dL_law_219 : decode cL_law 219 = .ok (.iconst 2, 1) := by decide +kernel
theorem dL_law_220 : decode cL_law 220 = .ok (.iadd, 1) := by decide +kernel
theorem dL_law_221 : decode cL_law 221 = .ok (.iaload, 1) := by decide +kernel
theorem dL_law_222 : decode cL_law 222 = .ok (.aload_n 0, 1) := by decide +kernel
theorem dL_law_223 : decode cL_law 223 = .ok (.iload_n 3, 1) := by decide +kernel
theorem dL_law_224 : decode cL_law 224 = .ok (.iconst 3, 1) := by decide +kernel
theorem dL_law_225 : decode cL_law 225 = .ok (.iadd, 1) := by decide +kernel
theorem dL_law_226 : decode cL_law 226 = .ok (.iaload, 1) := by decide +kernel
theorem dL_law_227 : decode cL_law 227 = .ok (.invokevirtual 18, 3) := by decide +kernel
theorem dL_law_230 : decode cL_law 230 = .ok (.aload_n 2, 1) := by decide +kernel
theorem dL_law_231 : decode cL_law 231 = .ok (.aload_n 0, 1) := by decide +kernel
theorem dL_law_232 : decode cL_law 232 = .ok (.iload_n 3, 1) := by decide +kernel
theorem dL_law_233 : decode cL_law 233 = .ok (.iconst 1, 1) := by decide +kernel
theorem dL_law_234 : decode cL_law 234 = .ok (.iadd, 1) := by decide +kernel
theorem dL_law_235 : decode cL_law 235 = .ok (.iaload, 1) := by decide +kernel
theorem dL_law_236 : decode cL_law 236 = .ok (.aload_n 0, 1) := by decide +kernel
theorem dL_law_237 : decode cL_law 237 = .ok (.iload_n 3, 1) := by decide +kernel
theorem dL_law_238 : decode cL_law 238 = .ok (.iconst 2, 1) := by decide +kernel
theorem dL_law_239 : decode cL_law 239 = .ok (.iadd, 1) := by decide +kernel
theorem dL_law_240 : decode cL_law 240 = .ok (.iaload, 1) := by decide +kernel
theorem dL_law_241 : decode cL_law 241 = .ok (.aload_n 0, 1) := by decide +kernel
theorem dL_law_242 : decode cL_law 242 = .ok (.iload_n 3, 1) := by decide +kernel
theorem dL_law_243 : decode cL_law 243 = .ok (.iconst 3, 1) := by decide +kernel
theorem dL_law_244 : decode cL_law 244 = .ok (.iadd, 1) := by decide +kernel
theorem dL_law_245 : decode cL_law 245 = .ok (.iaload, 1) := by decide +kernel
theorem dL_law_246 : decode cL_law 246 = .ok (.invokevirtual 21, 3) := by decide +kernel
theorem dL_law_249 : decode cL_law 249 = .ok (.if_icmp .eq 821, 3) := by decide +kernel
theorem dL_law_252 : decode cL_law 252 = .ok (.iconst 0, 1) := by decide +kernel
theorem dL_law_253 : decode cL_law 253 = .ok (.ireturn, 1) := by decide +kernel
theorem dL_law_254 : decode cL_law 254 = .ok (.aload_n 1, 1) := by decide +kernel
theorem dL_law_255 : decode cL_law 255 = .ok (.aload_n 0, 1) := by decide +kernel
theorem dL_law_256 : decode cL_law 256 = .ok (.iload_n 3, 1) := by decide +kernel
theorem dL_law_257 : decode cL_law 257 = .ok (.iconst 1, 1) := by decide +kernel
theorem dL_law_258 : decode cL_law 258 = .ok (.iadd, 1) := by decide +kernel
theorem dL_law_259 : decode cL_law 259 = .ok (.iaload, 1) := by decide +kernel
theorem dL_law_260 : decode cL_law 260 = .ok (.aload_n 0, 1) := by decide +kernel
theorem dL_law_261 : decode cL_law 261 = .ok (.iload_n 3, 1) := by decide +kernel
theorem dL_law_262 : decode cL_law 262 = .ok (.iconst 2, 1) := by decide +kernel
theorem dL_law_263 : decode cL_law 263 = .ok (.iadd, 1) := by decide +kernel
theorem dL_law_264 : decode cL_law 264 = .ok (.iaload, 1) := by decide +kernel
theorem dL_law_265 : decode cL_law 265 = .ok (.invokevirtual 22, 3) := by decide +kernel
theorem dL_law_268 : decode cL_law 268 = .ok (.aload_n 2, 1) := by decide +kernel
theorem dL_law_269 : decode cL_law 269 = .ok (.aload_n 0, 1) := by decide +kernel
theorem dL_law_270 : decode cL_law 270 = .ok (.iload_n 3, 1) := by decide +kernel
theorem dL_law_271 : decode cL_law 271 = .ok (.iconst 1, 1) := by decide +kernel
theorem dL_law_272 : decode cL_law 272 = .ok (.iadd, 1) := by decide +kernel
theorem dL_law_273 : decode cL_law 273 = .ok (.iaload, 1) := by decide +kernel
theorem dL_law_274 : decode cL_law 274 = .ok (.aload_n 0, 1) := by decide +kernel
theorem dL_law_275 : decode cL_law 275 = .ok (.iload_n 3, 1) := by decide +kernel
theorem dL_law_276 : decode cL_law 276 = .ok (.iconst 2, 1) := by decide +kernel
theorem dL_law_277 : decode cL_law 277 = .ok (.iadd, 1) := by decide +kernel
theorem dL_law_278 : decode cL_law 278 = .ok (.iaload, 1) := by decide +kernel
theorem dL_law_279 : decode cL_law 279 = .ok (.invokevirtual 26, 3) := by decide +kernel
theorem dL_law_282 : decode cL_law 282 = .ok (.if_icmp .eq 788, 3) := by decide +kernel
theorem dL_law_285 : decode cL_law 285 = .ok (.iconst 0, 1) := by decide +kernel
theorem dL_law_286 : decode cL_law 286 = .ok (.ireturn, 1) := by decide +kernel
theorem dL_law_287 : decode cL_law 287 = .ok (.aload_n 1, 1) := by decide +kernel
theorem dL_law_288 : decode cL_law 288 = .ok (.aload_n 0, 1) := by decide +kernel
theorem dL_law_289 : decode cL_law 289 = .ok (.iload_n 3, 1) := by decide +kernel
theorem dL_law_290 : decode cL_law 290 = .ok (.iconst 1, 1) := by decide +kernel
theorem dL_law_291 : decode cL_law 291 = .ok (.iadd, 1) := by decide +kernel
theorem dL_law_292 : decode cL_law 292 = .ok (.iaload, 1) := by decide +kernel
theorem dL_law_293 : decode cL_law 293 = .ok (.aload_n 0, 1) := by decide +kernel
theorem dL_law_294 : decode cL_law 294 = .ok (.iload_n 3, 1) := by decide +kernel
theorem dL_law_295 : decode cL_law 295 = .ok (.iconst 2, 1) := by decide +kernel
theorem dL_law_296 : decode cL_law 296 = .ok (.iadd, 1) := by decide +kernel
theorem dL_law_297 : decode cL_law 297 = .ok (.iaload, 1) := by decide +kernel
theorem dL_law_298 : decode cL_law 298 = .ok (.aload_n 0, 1) := by decide +kernel
theorem dL_law_299 : decode cL_law 299 = .ok (.iload_n 3, 1) := by decide +kernel
theorem dL_law_300 : decode cL_law 300 = .ok (.iconst 3, 1) := by decide +kernel
theorem dL_law_301 : decode cL_law 301 = .ok (.iadd, 1) := by decide +kernel
theorem dL_law_302 : decode cL_law 302 = .ok (.iaload, 1) := by decide +kernel
theorem dL_law_303 : decode cL_law 303 = .ok (.invokevirtual 27, 3) := by decide +kernel
theorem dL_law_306 : decode cL_law 306 = .ok (.aload_n 2, 1) := by decide +kernel
theorem dL_law_307 : decode cL_law 307 = .ok (.aload_n 0, 1) := by decide +kernel
theorem dL_law_308 : decode cL_law 308 = .ok (.iload_n 3, 1) := by decide +kernel
theorem dL_law_309 : decode cL_law 309 = .ok (.iconst 1, 1) := by decide +kernel
theorem dL_law_310 : decode cL_law 310 = .ok (.iadd, 1) := by decide +kernel
theorem dL_law_311 : decode cL_law 311 = .ok (.iaload, 1) := by decide +kernel
theorem dL_law_312 : decode cL_law 312 = .ok (.aload_n 0, 1) := by decide +kernel
theorem dL_law_313 : decode cL_law 313 = .ok (.iload_n 3, 1) := by decide +kernel
theorem dL_law_314 : decode cL_law 314 = .ok (.iconst 2, 1) := by decide +kernel
theorem dL_law_315 : decode cL_law 315 = .ok (.iadd, 1) := by decide +kernel
theorem dL_law_316 : decode cL_law 316 = .ok (.iaload, 1) := by decide +kernel
theorem dL_law_317 : decode cL_law 317 = .ok (.aload_n 0, 1) := by decide +kernel
theorem dL_law_318 : decode cL_law 318 = .ok (.iload_n 3, 1) := by decide +kernel
theorem dL_law_319 : decode cL_law 319 = .ok (.iconst 3, 1) := by decide +kernel
theorem dL_law_320 : decode cL_law 320 = .ok (.iadd, 1) := by decide +kernel
theorem dL_law_321 : decode cL_law 321 = .ok (.iaload, 1) := by decide +kernel
theorem dL_law_322 : decode cL_law 322 = .ok (.invokevirtual 30, 3) := by decide +kernel
theorem dL_law_325 : decode cL_law 325 = .ok (.if_icmp .eq 745, 3) := by decide +kernel
theorem dL_law_328 : decode cL_law 328 = .ok (.iconst 0, 1) := by decide +kernel
theorem dL_law_329 : decode cL_law 329 = .ok (.ireturn, 1) := by decide +kernel
theorem dL_law_330 : decode cL_law 330 = .ok (.aload_n 1, 1) := by decide +kernel
theorem dL_law_331 : decode cL_law 331 = .ok (.aload_n 0, 1) := by decide +kernel
theorem dL_law_332 : decode cL_law 332 = .ok (.iload_n 3, 1) := by decide +kernel
theorem dL_law_333 : decode cL_law 333 = .ok (.iconst 1, 1) := by decide +kernel
theorem dL_law_334 : decode cL_law 334 = .ok (.iadd, 1) := by decide +kernel
theorem dL_law_335 : decode cL_law 335 = .ok (.iaload, 1) := by decide +kernel
theorem dL_law_336 : decode cL_law 336 = .ok (.invokevirtual 31, 3) := by decide +kernel
theorem dL_law_339 : decode cL_law 339 = .ok (.aload_n 2, 1) := by decide +kernel
theorem dL_law_340 : decode cL_law 340 = .ok (.aload_n 0, 1) := by decide +kernel
theorem dL_law_341 : decode cL_law 341 = .ok (.iload_n 3, 1) := by decide +kernel
theorem dL_law_342 : decode cL_law 342 = .ok (.iconst 1, 1) := by decide +kernel
theorem dL_law_343 : decode cL_law 343 = .ok (.iadd, 1) := by decide +kernel
theorem dL_law_344 : decode cL_law 344 = .ok (.iaload, 1) := by decide +kernel
theorem dL_law_345 : decode cL_law 345 = .ok (.invokevirtual 35, 3) := by decide +kernel
theorem dL_law_348 : decode cL_law 348 = .ok (.if_icmp .eq 722, 3) := by decide +kernel
theorem dL_law_351 : decode cL_law 351 = .ok (.iconst 0, 1) := by decide +kernel
theorem dL_law_352 : decode cL_law 352 = .ok (.ireturn, 1) := by decide +kernel
theorem dL_law_353 : decode cL_law 353 = .ok (.aload_n 1, 1) := by decide +kernel
theorem dL_law_354 : decode cL_law 354 = .ok (.invokevirtual 36, 3) := by decide +kernel
theorem dL_law_357 : decode cL_law 357 = .ok (.aload_n 2, 1) := by decide +kernel
theorem dL_law_358 : decode cL_law 358 = .ok (.invokevirtual 40, 3) := by decide +kernel
theorem dL_law_361 : decode cL_law 361 = .ok (.if_icmp .eq 709, 3) := by decide +kernel
theorem dL_law_364 : decode cL_law 364 = .ok (.iconst 0, 1) := by decide +kernel
theorem dL_law_365 : decode cL_law 365 = .ok (.ireturn, 1) := by decide +kernel
theorem dL_law_366 : decode cL_law 366 = .ok (.aload_n 1, 1) := by decide +kernel
theorem dL_law_367 : decode cL_law 367 = .ok (.aload_n 0, 1) := by decide +kernel
theorem dL_law_368 : decode cL_law 368 = .ok (.iload_n 3, 1) := by decide +kernel
theorem dL_law_369 : decode cL_law 369 = .ok (.iconst 1, 1) := by decide +kernel
theorem dL_law_370 : decode cL_law 370 = .ok (.iadd, 1) := by decide +kernel
theorem dL_law_371 : decode cL_law 371 = .ok (.iaload, 1) := by decide +kernel
theorem dL_law_372 : decode cL_law 372 = .ok (.invokevirtual 41, 3) := by decide +kernel
theorem dL_law_375 : decode cL_law 375 = .ok (.aload_n 2, 1) := by decide +kernel
theorem dL_law_376 : decode cL_law 376 = .ok (.aload_n 0, 1) := by decide +kernel
theorem dL_law_377 : decode cL_law 377 = .ok (.iload_n 3, 1) := by decide +kernel
theorem dL_law_378 : decode cL_law 378 = .ok (.iconst 1, 1) := by decide +kernel
theorem dL_law_379 : decode cL_law 379 = .ok (.iadd, 1) := by decide +kernel
theorem dL_law_380 : decode cL_law 380 = .ok (.iaload, 1) := by decide +kernel
theorem dL_law_381 : decode cL_law 381 = .ok (.invokevirtual 44, 3) := by decide +kernel
theorem dL_law_384 : decode cL_law 384 = .ok (.if_icmp .eq 686, 3) := by decide +kernel
theorem dL_law_387 : decode cL_law 387 = .ok (.iconst 0, 1) := by decide +kernel
theorem dL_law_388 : decode cL_law 388 = .ok (.ireturn, 1) := by decide +kernel
theorem dL_law_389 : decode cL_law 389 = .ok (.aload_n 1, 1) := by decide +kernel
theorem dL_law_390 : decode cL_law 390 = .ok (.aload_n 0, 1) := by decide +kernel
theorem dL_law_391 : decode cL_law 391 = .ok (.iload_n 3, 1) := by decide +kernel
theorem dL_law_392 : decode cL_law 392 = .ok (.iconst 1, 1) := by decide +kernel
theorem dL_law_393 : decode cL_law 393 = .ok (.iadd, 1) := by decide +kernel
theorem dL_law_394 : decode cL_law 394 = .ok (.iaload, 1) := by decide +kernel
theorem dL_law_395 : decode cL_law 395 = .ok (.aload_n 0, 1) := by decide +kernel
theorem dL_law_396 : decode cL_law 396 = .ok (.iload_n 3, 1) := by decide +kernel
theorem dL_law_397 : decode cL_law 397 = .ok (.iconst 2, 1) := by decide +kernel
theorem dL_law_398 : decode cL_law 398 = .ok (.iadd, 1) := by decide +kernel
theorem dL_law_399 : decode cL_law 399 = .ok (.iaload, 1) := by decide +kernel
theorem dL_law_400 : decode cL_law 400 = .ok (.invokevirtual 45, 3) := by decide +kernel
theorem dL_law_403 : decode cL_law 403 = .ok (.aload_n 2, 1) := by decide +kernel
theorem dL_law_404 : decode cL_law 404 = .ok (.aload_n 0, 1) := by decide +kernel
theorem dL_law_405 : decode cL_law 405 = .ok (.iload_n 3, 1) := by decide +kernel
theorem dL_law_406 : decode cL_law 406 = .ok (.iconst 1, 1) := by decide +kernel
theorem dL_law_407 : decode cL_law 407 = .ok (.iadd, 1) := by decide +kernel
theorem dL_law_408 : decode cL_law 408 = .ok (.iaload, 1) := by decide +kernel
theorem dL_law_409 : decode cL_law 409 = .ok (.aload_n 0, 1) := by decide +kernel
theorem dL_law_410 : decode cL_law 410 = .ok (.iload_n 3, 1) := by decide +kernel
theorem dL_law_411 : decode cL_law 411 = .ok (.iconst 2, 1) := by decide +kernel
theorem dL_law_412 : decode cL_law 412 = .ok (.iadd, 1) := by decide +kernel
theorem dL_law_413 : decode cL_law 413 = .ok (.iaload, 1) := by decide +kernel
theorem dL_law_414 : decode cL_law 414 = .ok (.invokevirtual 48, 3) := by decide +kernel
theorem dL_law_417 : decode cL_law 417 = .ok (.if_icmp .eq 653, 3) := by decide +kernel
theorem dL_law_420 : decode cL_law 420 = .ok (.iconst 0, 1) := by decide +kernel
theorem dL_law_421 : decode cL_law 421 = .ok (.ireturn, 1) := by decide +kernel
theorem dL_law_422 : decode cL_law 422 = .ok (.aload_n 1, 1) := by decide +kernel
theorem dL_law_423 : decode cL_law 423 = .ok (.invokevirtual 49, 3) := by decide +kernel
theorem dL_law_426 : decode cL_law 426 = .ok (.aload_n 2, 1) := by decide +kernel
theorem dL_law_427 : decode cL_law 427 = .ok (.invokevirtual 52, 3) := by decide +kernel
theorem dL_law_430 : decode cL_law 430 = .ok (.if_icmp .eq 640, 3) := by decide +kernel
theorem dL_law_433 : decode cL_law 433 = .ok (.iconst 0, 1) := by decide +kernel
theorem dL_law_434 : decode cL_law 434 = .ok (.ireturn, 1) := by decide +kernel
theorem dL_law_435 : decode cL_law 435 = .ok (.aload_n 1, 1) := by decide +kernel
theorem dL_law_436 : decode cL_law 436 = .ok (.invokevirtual 53, 3) := by decide +kernel
theorem dL_law_439 : decode cL_law 439 = .ok (.aload_n 2, 1) := by decide +kernel
theorem dL_law_440 : decode cL_law 440 = .ok (.invokevirtual 56, 3) := by decide +kernel
theorem dL_law_443 : decode cL_law 443 = .ok (.if_icmp .eq 627, 3) := by decide +kernel
theorem dL_law_446 : decode cL_law 446 = .ok (.iconst 0, 1) := by decide +kernel
theorem dL_law_447 : decode cL_law 447 = .ok (.ireturn, 1) := by decide +kernel
theorem dL_law_448 : decode cL_law 448 = .ok (.aload_n 1, 1) := by decide +kernel
theorem dL_law_449 : decode cL_law 449 = .ok (.invokevirtual 57, 3) := by decide +kernel
theorem dL_law_452 : decode cL_law 452 = .ok (.aload_n 2, 1) := by decide +kernel
theorem dL_law_453 : decode cL_law 453 = .ok (.invokevirtual 60, 3) := by decide +kernel
theorem dL_law_456 : decode cL_law 456 = .ok (.if_icmp .eq 614, 3) := by decide +kernel
theorem dL_law_459 : decode cL_law 459 = .ok (.iconst 0, 1) := by decide +kernel
theorem dL_law_460 : decode cL_law 460 = .ok (.ireturn, 1) := by decide +kernel
theorem dL_law_461 : decode cL_law 461 = .ok (.aload_n 1, 1) := by decide +kernel
theorem dL_law_462 : decode cL_law 462 = .ok (.aload_n 0, 1) := by decide +kernel
theorem dL_law_463 : decode cL_law 463 = .ok (.iload_n 3, 1) := by decide +kernel
theorem dL_law_464 : decode cL_law 464 = .ok (.iconst 1, 1) := by decide +kernel
theorem dL_law_465 : decode cL_law 465 = .ok (.iadd, 1) := by decide +kernel
theorem dL_law_466 : decode cL_law 466 = .ok (.iaload, 1) := by decide +kernel
theorem dL_law_467 : decode cL_law 467 = .ok (.aload_n 0, 1) := by decide +kernel
theorem dL_law_468 : decode cL_law 468 = .ok (.iload_n 3, 1) := by decide +kernel
theorem dL_law_469 : decode cL_law 469 = .ok (.iconst 2, 1) := by decide +kernel
theorem dL_law_470 : decode cL_law 470 = .ok (.iadd, 1) := by decide +kernel
theorem dL_law_471 : decode cL_law 471 = .ok (.iaload, 1) := by decide +kernel
theorem dL_law_472 : decode cL_law 472 = .ok (.invokevirtual 61, 3) := by decide +kernel
theorem dL_law_475 : decode cL_law 475 = .ok (.aload_n 2, 1) := by decide +kernel
theorem dL_law_476 : decode cL_law 476 = .ok (.aload_n 0, 1) := by decide +kernel
theorem dL_law_477 : decode cL_law 477 = .ok (.iload_n 3, 1) := by decide +kernel
theorem dL_law_478 : decode cL_law 478 = .ok (.iconst 1, 1) := by decide +kernel
theorem dL_law_479 : decode cL_law 479 = .ok (.iadd, 1) := by decide +kernel
theorem dL_law_480 : decode cL_law 480 = .ok (.iaload, 1) := by decide +kernel
theorem dL_law_481 : decode cL_law 481 = .ok (.aload_n 0, 1) := by decide +kernel
theorem dL_law_482 : decode cL_law 482 = .ok (.iload_n 3, 1) := by decide +kernel
theorem dL_law_483 : decode cL_law 483 = .ok (.iconst 2, 1) := by decide +kernel
theorem dL_law_484 : decode cL_law 484 = .ok (.iadd, 1) := by decide +kernel
theorem dL_law_485 : decode cL_law 485 = .ok (.iaload, 1) := by decide +kernel
theorem dL_law_486 : decode cL_law 486 = .ok (.invokevirtual 64, 3) := by decide +kernel
theorem dL_law_489 : decode cL_law 489 = .ok (.if_icmp .eq 581, 3) := by decide +kernel
theorem dL_law_492 : decode cL_law 492 = .ok (.iconst 0, 1) := by decide +kernel
theorem dL_law_493 : decode cL_law 493 = .ok (.ireturn, 1) := by decide +kernel
theorem dL_law_494 : decode cL_law 494 = .ok (.aload_n 1, 1) := by decide +kernel
theorem dL_law_495 : decode cL_law 495 = .ok (.invokevirtual 65, 3) := by decide +kernel
theorem dL_law_498 : decode cL_law 498 = .ok (.aload_n 2, 1) := by decide +kernel
theorem dL_law_499 : decode cL_law 499 = .ok (.invokevirtual 68, 3) := by decide +kernel
theorem dL_law_502 : decode cL_law 502 = .ok (.if_icmp .eq 568, 3) := by decide +kernel
theorem dL_law_505 : decode cL_law 505 = .ok (.iconst 0, 1) := by decide +kernel
theorem dL_law_506 : decode cL_law 506 = .ok (.ireturn, 1) := by decide +kernel
theorem dL_law_507 : decode cL_law 507 = .ok (.aload_n 1, 1) := by decide +kernel
theorem dL_law_508 : decode cL_law 508 = .ok (.aload_n 0, 1) := by decide +kernel
theorem dL_law_509 : decode cL_law 509 = .ok (.iload_n 3, 1) := by decide +kernel
theorem dL_law_510 : decode cL_law 510 = .ok (.iconst 1, 1) := by decide +kernel
theorem dL_law_511 : decode cL_law 511 = .ok (.iadd, 1) := by decide +kernel
theorem dL_law_512 : decode cL_law 512 = .ok (.iaload, 1) := by decide +kernel
theorem dL_law_513 : decode cL_law 513 = .ok (.aload_n 0, 1) := by decide +kernel
theorem dL_law_514 : decode cL_law 514 = .ok (.iload_n 3, 1) := by decide +kernel
theorem dL_law_515 : decode cL_law 515 = .ok (.iconst 2, 1) := by decide +kernel
theorem dL_law_516 : decode cL_law 516 = .ok (.iadd, 1) := by decide +kernel
theorem dL_law_517 : decode cL_law 517 = .ok (.iaload, 1) := by decide +kernel
theorem dL_law_518 : decode cL_law 518 = .ok (.invokevirtual 69, 3) := by decide +kernel
theorem dL_law_521 : decode cL_law 521 = .ok (.aload_n 2, 1) := by decide +kernel
theorem dL_law_522 : decode cL_law 522 = .ok (.aload_n 0, 1) := by decide +kernel
theorem dL_law_523 : decode cL_law 523 = .ok (.iload_n 3, 1) := by decide +kernel
theorem dL_law_524 : decode cL_law 524 = .ok (.iconst 1, 1) := by decide +kernel
theorem dL_law_525 : decode cL_law 525 = .ok (.iadd, 1) := by decide +kernel
theorem dL_law_526 : decode cL_law 526 = .ok (.iaload, 1) := by decide +kernel
theorem dL_law_527 : decode cL_law 527 = .ok (.aload_n 0, 1) := by decide +kernel
theorem dL_law_528 : decode cL_law 528 = .ok (.iload_n 3, 1) := by decide +kernel
theorem dL_law_529 : decode cL_law 529 = .ok (.iconst 2, 1) := by decide +kernel
theorem dL_law_530 : decode cL_law 530 = .ok (.iadd, 1) := by decide +kernel
theorem dL_law_531 : decode cL_law 531 = .ok (.iaload, 1) := by decide +kernel
theorem dL_law_532 : decode cL_law 532 = .ok (.invokevirtual 72, 3) := by decide +kernel
theorem dL_law_535 : decode cL_law 535 = .ok (.if_icmp .eq 535, 3) := by decide +kernel
theorem dL_law_538 : decode cL_law 538 = .ok (.iconst 0, 1) := by decide +kernel
theorem dL_law_539 : decode cL_law 539 = .ok (.ireturn, 1) := by decide +kernel
theorem dL_law_540 : decode cL_law 540 = .ok (.aload_n 1, 1) := by decide +kernel
theorem dL_law_541 : decode cL_law 541 = .ok (.aload_n 0, 1) := by decide +kernel
theorem dL_law_542 : decode cL_law 542 = .ok (.iload_n 3, 1) := by decide +kernel
theorem dL_law_543 : decode cL_law 543 = .ok (.iconst 1, 1) := by decide +kernel
theorem dL_law_544 : decode cL_law 544 = .ok (.iadd, 1) := by decide +kernel
theorem dL_law_545 : decode cL_law 545 = .ok (.iaload, 1) := by decide +kernel
theorem dL_law_546 : decode cL_law 546 = .ok (.invokevirtual 73, 3) := by decide +kernel
theorem dL_law_549 : decode cL_law 549 = .ok (.aload_n 2, 1) := by decide +kernel
theorem dL_law_550 : decode cL_law 550 = .ok (.aload_n 0, 1) := by decide +kernel
theorem dL_law_551 : decode cL_law 551 = .ok (.iload_n 3, 1) := by decide +kernel
theorem dL_law_552 : decode cL_law 552 = .ok (.iconst 1, 1) := by decide +kernel
theorem dL_law_553 : decode cL_law 553 = .ok (.iadd, 1) := by decide +kernel
theorem dL_law_554 : decode cL_law 554 = .ok (.iaload, 1) := by decide +kernel
theorem dL_law_555 : decode cL_law 555 = .ok (.invokevirtual 76, 3) := by decide +kernel
theorem dL_law_558 : decode cL_law 558 = .ok (.if_icmp .eq 512, 3) := by decide +kernel
theorem dL_law_561 : decode cL_law 561 = .ok (.iconst 0, 1) := by decide +kernel
theorem dL_law_562 : decode cL_law 562 = .ok (.ireturn, 1) := by decide +kernel
theorem dL_law_563 : decode cL_law 563 = .ok (.aload_n 1, 1) := by decide +kernel
theorem dL_law_564 : decode cL_law 564 = .ok (.aload_n 0, 1) := by decide +kernel
theorem dL_law_565 : decode cL_law 565 = .ok (.iload_n 3, 1) := by decide +kernel
theorem dL_law_566 : decode cL_law 566 = .ok (.iconst 1, 1) := by decide +kernel
theorem dL_law_567 : decode cL_law 567 = .ok (.iadd, 1) := by decide +kernel
theorem dL_law_568 : decode cL_law 568 = .ok (.iaload, 1) := by decide +kernel
theorem dL_law_569 : decode cL_law 569 = .ok (.aload_n 0, 1) := by decide +kernel
theorem dL_law_570 : decode cL_law 570 = .ok (.iload_n 3, 1) := by decide +kernel
theorem dL_law_571 : decode cL_law 571 = .ok (.iconst 2, 1) := by decide +kernel
theorem dL_law_572 : decode cL_law 572 = .ok (.iadd, 1) := by decide +kernel
theorem dL_law_573 : decode cL_law 573 = .ok (.iaload, 1) := by decide +kernel
theorem dL_law_574 : decode cL_law 574 = .ok (.invokevirtual 77, 3) := by decide +kernel
theorem dL_law_577 : decode cL_law 577 = .ok (.aload_n 2, 1) := by decide +kernel
theorem dL_law_578 : decode cL_law 578 = .ok (.aload_n 0, 1) := by decide +kernel
theorem dL_law_579 : decode cL_law 579 = .ok (.iload_n 3, 1) := by decide +kernel
theorem dL_law_580 : decode cL_law 580 = .ok (.iconst 1, 1) := by decide +kernel
theorem dL_law_581 : decode cL_law 581 = .ok (.iadd, 1) := by decide +kernel
theorem dL_law_582 : decode cL_law 582 = .ok (.iaload, 1) := by decide +kernel
theorem dL_law_583 : decode cL_law 583 = .ok (.aload_n 0, 1) := by decide +kernel
theorem dL_law_584 : decode cL_law 584 = .ok (.iload_n 3, 1) := by decide +kernel
theorem dL_law_585 : decode cL_law 585 = .ok (.iconst 2, 1) := by decide +kernel
theorem dL_law_586 : decode cL_law 586 = .ok (.iadd, 1) := by decide +kernel
theorem dL_law_587 : decode cL_law 587 = .ok (.iaload, 1) := by decide +kernel
theorem dL_law_588 : decode cL_law 588 = .ok (.invokevirtual 80, 3) := by decide +kernel
theorem dL_law_591 : decode cL_law 591 = .ok (.if_icmp .eq 479, 3) := by decide +kernel
theorem dL_law_594 : decode cL_law 594 = .ok (.iconst 0, 1) := by decide +kernel
theorem dL_law_595 : decode cL_law 595 = .ok (.ireturn, 1) := by decide +kernel
theorem dL_law_596 : decode cL_law 596 = .ok (.aload_n 1, 1) := by decide +kernel
theorem dL_law_597 : decode cL_law 597 = .ok (.invokevirtual 81, 3) := by decide +kernel
theorem dL_law_600 : decode cL_law 600 = .ok (.aload_n 2, 1) := by decide +kernel
theorem dL_law_601 : decode cL_law 601 = .ok (.invokevirtual 84, 3) := by decide +kernel
theorem dL_law_604 : decode cL_law 604 = .ok (.if_icmp .eq 466, 3) := by decide +kernel
theorem dL_law_607 : decode cL_law 607 = .ok (.iconst 0, 1) := by decide +kernel
theorem dL_law_608 : decode cL_law 608 = .ok (.ireturn, 1) := by decide +kernel
theorem dL_law_609 : decode cL_law 609 = .ok (.aload_n 1, 1) := by decide +kernel
theorem dL_law_610 : decode cL_law 610 = .ok (.aload_n 0, 1) := by decide +kernel
theorem dL_law_611 : decode cL_law 611 = .ok (.iload_n 3, 1) := by decide +kernel
theorem dL_law_612 : decode cL_law 612 = .ok (.iconst 1, 1) := by decide +kernel
theorem dL_law_613 : decode cL_law 613 = .ok (.iadd, 1) := by decide +kernel
theorem dL_law_614 : decode cL_law 614 = .ok (.iaload, 1) := by decide +kernel
theorem dL_law_615 : decode cL_law 615 = .ok (.invokevirtual 85, 3) := by decide +kernel
theorem dL_law_618 : decode cL_law 618 = .ok (.aload_n 2, 1) := by decide +kernel
theorem dL_law_619 : decode cL_law 619 = .ok (.aload_n 0, 1) := by decide +kernel
theorem dL_law_620 : decode cL_law 620 = .ok (.iload_n 3, 1) := by decide +kernel
theorem dL_law_621 : decode cL_law 621 = .ok (.iconst 1, 1) := by decide +kernel
theorem dL_law_622 : decode cL_law 622 = .ok (.iadd, 1) := by decide +kernel
theorem dL_law_623 : decode cL_law 623 = .ok (.iaload, 1) := by decide +kernel
theorem dL_law_624 : decode cL_law 624 = .ok (.invokevirtual 89, 3) := by decide +kernel
theorem dL_law_627 : decode cL_law 627 = .ok (.lcmp, 1) := by decide +kernel
theorem dL_law_628 : decode cL_law 628 = .ok (.ifCond .eq 442, 3) := by decide +kernel
theorem dL_law_631 : decode cL_law 631 = .ok (.iconst 0, 1) := by decide +kernel
theorem dL_law_632 : decode cL_law 632 = .ok (.ireturn, 1) := by decide +kernel
theorem dL_law_633 : decode cL_law 633 = .ok (.aload_n 1, 1) := by decide +kernel
theorem dL_law_634 : decode cL_law 634 = .ok (.aload_n 0, 1) := by decide +kernel
theorem dL_law_635 : decode cL_law 635 = .ok (.iload_n 3, 1) := by decide +kernel
theorem dL_law_636 : decode cL_law 636 = .ok (.iconst 1, 1) := by decide +kernel
theorem dL_law_637 : decode cL_law 637 = .ok (.iadd, 1) := by decide +kernel
theorem dL_law_638 : decode cL_law 638 = .ok (.iaload, 1) := by decide +kernel
theorem dL_law_639 : decode cL_law 639 = .ok (.aload_n 0, 1) := by decide +kernel
theorem dL_law_640 : decode cL_law 640 = .ok (.iload_n 3, 1) := by decide +kernel
theorem dL_law_641 : decode cL_law 641 = .ok (.iconst 2, 1) := by decide +kernel
theorem dL_law_642 : decode cL_law 642 = .ok (.iadd, 1) := by decide +kernel
theorem dL_law_643 : decode cL_law 643 = .ok (.iaload, 1) := by decide +kernel
theorem dL_law_644 : decode cL_law 644 = .ok (.aload_n 0, 1) := by decide +kernel
theorem dL_law_645 : decode cL_law 645 = .ok (.iload_n 3, 1) := by decide +kernel
theorem dL_law_646 : decode cL_law 646 = .ok (.iconst 3, 1) := by decide +kernel
theorem dL_law_647 : decode cL_law 647 = .ok (.iadd, 1) := by decide +kernel
theorem dL_law_648 : decode cL_law 648 = .ok (.iaload, 1) := by decide +kernel
theorem dL_law_649 : decode cL_law 649 = .ok (.invokevirtual 90, 3) := by decide +kernel
theorem dL_law_652 : decode cL_law 652 = .ok (.aload_n 2, 1) := by decide +kernel
theorem dL_law_653 : decode cL_law 653 = .ok (.aload_n 0, 1) := by decide +kernel
theorem dL_law_654 : decode cL_law 654 = .ok (.iload_n 3, 1) := by decide +kernel
theorem dL_law_655 : decode cL_law 655 = .ok (.iconst 1, 1) := by decide +kernel
theorem dL_law_656 : decode cL_law 656 = .ok (.iadd, 1) := by decide +kernel
theorem dL_law_657 : decode cL_law 657 = .ok (.iaload, 1) := by decide +kernel
theorem dL_law_658 : decode cL_law 658 = .ok (.aload_n 0, 1) := by decide +kernel
theorem dL_law_659 : decode cL_law 659 = .ok (.iload_n 3, 1) := by decide +kernel
theorem dL_law_660 : decode cL_law 660 = .ok (.iconst 2, 1) := by decide +kernel
theorem dL_law_661 : decode cL_law 661 = .ok (.iadd, 1) := by decide +kernel
theorem dL_law_662 : decode cL_law 662 = .ok (.iaload, 1) := by decide +kernel
theorem dL_law_663 : decode cL_law 663 = .ok (.aload_n 0, 1) := by decide +kernel
theorem dL_law_664 : decode cL_law 664 = .ok (.iload_n 3, 1) := by decide +kernel
theorem dL_law_665 : decode cL_law 665 = .ok (.iconst 3, 1) := by decide +kernel
theorem dL_law_666 : decode cL_law 666 = .ok (.iadd, 1) := by decide +kernel
theorem dL_law_667 : decode cL_law 667 = .ok (.iaload, 1) := by decide +kernel
theorem dL_law_668 : decode cL_law 668 = .ok (.invokevirtual 93, 3) := by decide +kernel
theorem dL_law_671 : decode cL_law 671 = .ok (.if_icmp .eq 399, 3) := by decide +kernel
theorem dL_law_674 : decode cL_law 674 = .ok (.iconst 0, 1) := by decide +kernel
theorem dL_law_675 : decode cL_law 675 = .ok (.ireturn, 1) := by decide +kernel
theorem dL_law_676 : decode cL_law 676 = .ok (.aload_n 1, 1) := by decide +kernel
theorem dL_law_677 : decode cL_law 677 = .ok (.aload_n 0, 1) := by decide +kernel
theorem dL_law_678 : decode cL_law 678 = .ok (.iload_n 3, 1) := by decide +kernel
theorem dL_law_679 : decode cL_law 679 = .ok (.iconst 1, 1) := by decide +kernel
theorem dL_law_680 : decode cL_law 680 = .ok (.iadd, 1) := by decide +kernel
theorem dL_law_681 : decode cL_law 681 = .ok (.iaload, 1) := by decide +kernel
theorem dL_law_682 : decode cL_law 682 = .ok (.aload_n 0, 1) := by decide +kernel
theorem dL_law_683 : decode cL_law 683 = .ok (.iload_n 3, 1) := by decide +kernel
theorem dL_law_684 : decode cL_law 684 = .ok (.iconst 2, 1) := by decide +kernel
theorem dL_law_685 : decode cL_law 685 = .ok (.iadd, 1) := by decide +kernel
theorem dL_law_686 : decode cL_law 686 = .ok (.iaload, 1) := by decide +kernel
theorem dL_law_687 : decode cL_law 687 = .ok (.invokevirtual 94, 3) := by decide +kernel
theorem dL_law_690 : decode cL_law 690 = .ok (.aload_n 2, 1) := by decide +kernel
theorem dL_law_691 : decode cL_law 691 = .ok (.aload_n 0, 1) := by decide +kernel
theorem dL_law_692 : decode cL_law 692 = .ok (.iload_n 3, 1) := by decide +kernel
theorem dL_law_693 : decode cL_law 693 = .ok (.iconst 1, 1) := by decide +kernel
theorem dL_law_694 : decode cL_law 694 = .ok (.iadd, 1) := by decide +kernel
theorem dL_law_695 : decode cL_law 695 = .ok (.iaload, 1) := by decide +kernel
theorem dL_law_696 : decode cL_law 696 = .ok (.aload_n 0, 1) := by decide +kernel
theorem dL_law_697 : decode cL_law 697 = .ok (.iload_n 3, 1) := by decide +kernel
theorem dL_law_698 : decode cL_law 698 = .ok (.iconst 2, 1) := by decide +kernel
theorem dL_law_699 : decode cL_law 699 = .ok (.iadd, 1) := by decide +kernel
theorem dL_law_700 : decode cL_law 700 = .ok (.iaload, 1) := by decide +kernel
theorem dL_law_701 : decode cL_law 701 = .ok (.invokevirtual 97, 3) := by decide +kernel
theorem dL_law_704 : decode cL_law 704 = .ok (.if_icmp .eq 366, 3) := by decide +kernel
theorem dL_law_707 : decode cL_law 707 = .ok (.iconst 0, 1) := by decide +kernel
theorem dL_law_708 : decode cL_law 708 = .ok (.ireturn, 1) := by decide +kernel
theorem dL_law_709 : decode cL_law 709 = .ok (.aload_n 1, 1) := by decide +kernel
theorem dL_law_710 : decode cL_law 710 = .ok (.aload_n 0, 1) := by decide +kernel
theorem dL_law_711 : decode cL_law 711 = .ok (.iload_n 3, 1) := by decide +kernel
theorem dL_law_712 : decode cL_law 712 = .ok (.iconst 1, 1) := by decide +kernel
theorem dL_law_713 : decode cL_law 713 = .ok (.iadd, 1) := by decide +kernel
theorem dL_law_714 : decode cL_law 714 = .ok (.iaload, 1) := by decide +kernel
theorem dL_law_715 : decode cL_law 715 = .ok (.aload_n 0, 1) := by decide +kernel
theorem dL_law_716 : decode cL_law 716 = .ok (.iload_n 3, 1) := by decide +kernel
theorem dL_law_717 : decode cL_law 717 = .ok (.iconst 2, 1) := by decide +kernel
theorem dL_law_718 : decode cL_law 718 = .ok (.iadd, 1) := by decide +kernel
theorem dL_law_719 : decode cL_law 719 = .ok (.iaload, 1) := by decide +kernel
theorem dL_law_720 : decode cL_law 720 = .ok (.invokevirtual 98, 3) := by decide +kernel
theorem dL_law_723 : decode cL_law 723 = .ok (.aload_n 2, 1) := by decide +kernel
theorem dL_law_724 : decode cL_law 724 = .ok (.aload_n 0, 1) := by decide +kernel
theorem dL_law_725 : decode cL_law 725 = .ok (.iload_n 3, 1) := by decide +kernel
theorem dL_law_726 : decode cL_law 726 = .ok (.iconst 1, 1) := by decide +kernel
theorem dL_law_727 : decode cL_law 727 = .ok (.iadd, 1) := by decide +kernel
theorem dL_law_728 : decode cL_law 728 = .ok (.iaload, 1) := by decide +kernel
theorem dL_law_729 : decode cL_law 729 = .ok (.aload_n 0, 1) := by decide +kernel
theorem dL_law_730 : decode cL_law 730 = .ok (.iload_n 3, 1) := by decide +kernel
theorem dL_law_731 : decode cL_law 731 = .ok (.iconst 2, 1) := by decide +kernel
theorem dL_law_732 : decode cL_law 732 = .ok (.iadd, 1) := by decide +kernel
theorem dL_law_733 : decode cL_law 733 = .ok (.iaload, 1) := by decide +kernel
theorem dL_law_734 : decode cL_law 734 = .ok (.invokevirtual 101, 3) := by decide +kernel
theorem dL_law_737 : decode cL_law 737 = .ok (.if_icmp .eq 333, 3) := by decide +kernel
theorem dL_law_740 : decode cL_law 740 = .ok (.iconst 0, 1) := by decide +kernel
theorem dL_law_741 : decode cL_law 741 = .ok (.ireturn, 1) := by decide +kernel
theorem dL_law_742 : decode cL_law 742 = .ok (.aload_n 1, 1) := by decide +kernel
theorem dL_law_743 : decode cL_law 743 = .ok (.aload_n 0, 1) := by decide +kernel
theorem dL_law_744 : decode cL_law 744 = .ok (.iload_n 3, 1) := by decide +kernel
theorem dL_law_745 : decode cL_law 745 = .ok (.iconst 1, 1) := by decide +kernel
theorem dL_law_746 : decode cL_law 746 = .ok (.iadd, 1) := by decide +kernel
theorem dL_law_747 : decode cL_law 747 = .ok (.iaload, 1) := by decide +kernel
theorem dL_law_748 : decode cL_law 748 = .ok (.aload_n 0, 1) := by decide +kernel
theorem dL_law_749 : decode cL_law 749 = .ok (.iload_n 3, 1) := by decide +kernel
theorem dL_law_750 : decode cL_law 750 = .ok (.iconst 2, 1) := by decide +kernel
theorem dL_law_751 : decode cL_law 751 = .ok (.iadd, 1) := by decide +kernel
theorem dL_law_752 : decode cL_law 752 = .ok (.iaload, 1) := by decide +kernel
theorem dL_law_753 : decode cL_law 753 = .ok (.aload_n 0, 1) := by decide +kernel
theorem dL_law_754 : decode cL_law 754 = .ok (.iload_n 3, 1) := by decide +kernel
theorem dL_law_755 : decode cL_law 755 = .ok (.iconst 3, 1) := by decide +kernel
theorem dL_law_756 : decode cL_law 756 = .ok (.iadd, 1) := by decide +kernel
theorem dL_law_757 : decode cL_law 757 = .ok (.iaload, 1) := by decide +kernel
theorem dL_law_758 : decode cL_law 758 = .ok (.invokevirtual 102, 3) := by decide +kernel
theorem dL_law_761 : decode cL_law 761 = .ok (.aload_n 2, 1) := by decide +kernel
theorem dL_law_762 : decode cL_law 762 = .ok (.aload_n 0, 1) := by decide +kernel
theorem dL_law_763 : decode cL_law 763 = .ok (.iload_n 3, 1) := by decide +kernel
theorem dL_law_764 : decode cL_law 764 = .ok (.iconst 1, 1) := by decide +kernel
theorem dL_law_765 : decode cL_law 765 = .ok (.iadd, 1) := by decide +kernel
theorem dL_law_766 : decode cL_law 766 = .ok (.iaload, 1) := by decide +kernel
theorem dL_law_767 : decode cL_law 767 = .ok (.aload_n 0, 1) := by decide +kernel
theorem dL_law_768 : decode cL_law 768 = .ok (.iload_n 3, 1) := by decide +kernel
theorem dL_law_769 : decode cL_law 769 = .ok (.iconst 2, 1) := by decide +kernel
theorem dL_law_770 : decode cL_law 770 = .ok (.iadd, 1) := by decide +kernel
theorem dL_law_771 : decode cL_law 771 = .ok (.iaload, 1) := by decide +kernel
theorem dL_law_772 : decode cL_law 772 = .ok (.aload_n 0, 1) := by decide +kernel
theorem dL_law_773 : decode cL_law 773 = .ok (.iload_n 3, 1) := by decide +kernel
theorem dL_law_774 : decode cL_law 774 = .ok (.iconst 3, 1) := by decide +kernel
theorem dL_law_775 : decode cL_law 775 = .ok (.iadd, 1) := by decide +kernel
theorem dL_law_776 : decode cL_law 776 = .ok (.iaload, 1) := by decide +kernel
theorem dL_law_777 : decode cL_law 777 = .ok (.invokevirtual 106, 3) := by decide +kernel
theorem dL_law_780 : decode cL_law 780 = .ok (.lcmp, 1) := by decide +kernel
theorem dL_law_781 : decode cL_law 781 = .ok (.ifCond .eq 289, 3) := by decide +kernel
theorem dL_law_784 : decode cL_law 784 = .ok (.iconst 0, 1) := by decide +kernel
theorem dL_law_785 : decode cL_law 785 = .ok (.ireturn, 1) := by decide +kernel
theorem dL_law_786 : decode cL_law 786 = .ok (.aload_n 1, 1) := by decide +kernel
theorem dL_law_787 : decode cL_law 787 = .ok (.invokevirtual 107, 3) := by decide +kernel
theorem dL_law_790 : decode cL_law 790 = .ok (.aload_n 2, 1) := by decide +kernel
theorem dL_law_791 : decode cL_law 791 = .ok (.invokevirtual 110, 3) := by decide +kernel
theorem dL_law_794 : decode cL_law 794 = .ok (.if_icmp .eq 276, 3) := by decide +kernel
theorem dL_law_797 : decode cL_law 797 = .ok (.iconst 0, 1) := by decide +kernel
theorem dL_law_798 : decode cL_law 798 = .ok (.ireturn, 1) := by decide +kernel
theorem dL_law_799 : decode cL_law 799 = .ok (.aload_n 1, 1) := by decide +kernel
theorem dL_law_800 : decode cL_law 800 = .ok (.invokevirtual 111, 3) := by decide +kernel
theorem dL_law_803 : decode cL_law 803 = .ok (.aload_n 2, 1) := by decide +kernel
theorem dL_law_804 : decode cL_law 804 = .ok (.invokevirtual 114, 3) := by decide +kernel
theorem dL_law_807 : decode cL_law 807 = .ok (.if_icmp .eq 263, 3) := by decide +kernel
theorem dL_law_810 : decode cL_law 810 = .ok (.iconst 0, 1) := by decide +kernel
theorem dL_law_811 : decode cL_law 811 = .ok (.ireturn, 1) := by decide +kernel
theorem dL_law_812 : decode cL_law 812 = .ok (.aload_n 1, 1) := by decide +kernel
theorem dL_law_813 : decode cL_law 813 = .ok (.aload_n 0, 1) := by decide +kernel
theorem dL_law_814 : decode cL_law 814 = .ok (.iload_n 3, 1) := by decide +kernel
theorem dL_law_815 : decode cL_law 815 = .ok (.iconst 1, 1) := by decide +kernel
theorem dL_law_816 : decode cL_law 816 = .ok (.iadd, 1) := by decide +kernel
theorem dL_law_817 : decode cL_law 817 = .ok (.iaload, 1) := by decide +kernel
theorem dL_law_818 : decode cL_law 818 = .ok (.invokevirtual 115, 3) := by decide +kernel
theorem dL_law_821 : decode cL_law 821 = .ok (.aload_n 2, 1) := by decide +kernel
theorem dL_law_822 : decode cL_law 822 = .ok (.aload_n 0, 1) := by decide +kernel
theorem dL_law_823 : decode cL_law 823 = .ok (.iload_n 3, 1) := by decide +kernel
theorem dL_law_824 : decode cL_law 824 = .ok (.iconst 1, 1) := by decide +kernel
theorem dL_law_825 : decode cL_law 825 = .ok (.iadd, 1) := by decide +kernel
theorem dL_law_826 : decode cL_law 826 = .ok (.iaload, 1) := by decide +kernel
theorem dL_law_827 : decode cL_law 827 = .ok (.invokevirtual 118, 3) := by decide +kernel
theorem dL_law_830 : decode cL_law 830 = .ok (.if_icmp .eq 240, 3) := by decide +kernel
theorem dL_law_833 : decode cL_law 833 = .ok (.iconst 0, 1) := by decide +kernel
theorem dL_law_834 : decode cL_law 834 = .ok (.ireturn, 1) := by decide +kernel
theorem dL_law_835 : decode cL_law 835 = .ok (.aload_n 1, 1) := by decide +kernel
theorem dL_law_836 : decode cL_law 836 = .ok (.aload_n 0, 1) := by decide +kernel
theorem dL_law_837 : decode cL_law 837 = .ok (.iload_n 3, 1) := by decide +kernel
theorem dL_law_838 : decode cL_law 838 = .ok (.iconst 1, 1) := by decide +kernel
theorem dL_law_839 : decode cL_law 839 = .ok (.iadd, 1) := by decide +kernel
theorem dL_law_840 : decode cL_law 840 = .ok (.iaload, 1) := by decide +kernel
theorem dL_law_841 : decode cL_law 841 = .ok (.aload_n 0, 1) := by decide +kernel
theorem dL_law_842 : decode cL_law 842 = .ok (.iload_n 3, 1) := by decide +kernel
theorem dL_law_843 : decode cL_law 843 = .ok (.iconst 2, 1) := by decide +kernel
theorem dL_law_844 : decode cL_law 844 = .ok (.iadd, 1) := by decide +kernel
theorem dL_law_845 : decode cL_law 845 = .ok (.iaload, 1) := by decide +kernel
theorem dL_law_846 : decode cL_law 846 = .ok (.aload_n 0, 1) := by decide +kernel
theorem dL_law_847 : decode cL_law 847 = .ok (.iload_n 3, 1) := by decide +kernel
theorem dL_law_848 : decode cL_law 848 = .ok (.iconst 3, 1) := by decide +kernel
theorem dL_law_849 : decode cL_law 849 = .ok (.iadd, 1) := by decide +kernel
theorem dL_law_850 : decode cL_law 850 = .ok (.iaload, 1) := by decide +kernel
theorem dL_law_851 : decode cL_law 851 = .ok (.invokevirtual 119, 3) := by decide +kernel
theorem dL_law_854 : decode cL_law 854 = .ok (.aload_n 2, 1) := by decide +kernel
theorem dL_law_855 : decode cL_law 855 = .ok (.aload_n 0, 1) := by decide +kernel
theorem dL_law_856 : decode cL_law 856 = .ok (.iload_n 3, 1) := by decide +kernel
theorem dL_law_857 : decode cL_law 857 = .ok (.iconst 1, 1) := by decide +kernel
theorem dL_law_858 : decode cL_law 858 = .ok (.iadd, 1) := by decide +kernel
theorem dL_law_859 : decode cL_law 859 = .ok (.iaload, 1) := by decide +kernel
theorem dL_law_860 : decode cL_law 860 = .ok (.aload_n 0, 1) := by decide +kernel
theorem dL_law_861 : decode cL_law 861 = .ok (.iload_n 3, 1) := by decide +kernel
theorem dL_law_862 : decode cL_law 862 = .ok (.iconst 2, 1) := by decide +kernel
theorem dL_law_863 : decode cL_law 863 = .ok (.iadd, 1) := by decide +kernel
theorem dL_law_864 : decode cL_law 864 = .ok (.iaload, 1) := by decide +kernel
theorem dL_law_865 : decode cL_law 865 = .ok (.aload_n 0, 1) := by decide +kernel
theorem dL_law_866 : decode cL_law 866 = .ok (.iload_n 3, 1) := by decide +kernel
theorem dL_law_867 : decode cL_law 867 = .ok (.iconst 3, 1) := by decide +kernel
theorem dL_law_868 : decode cL_law 868 = .ok (.iadd, 1) := by decide +kernel
theorem dL_law_869 : decode cL_law 869 = .ok (.iaload, 1) := by decide +kernel
theorem dL_law_870 : decode cL_law 870 = .ok (.invokevirtual 122, 3) := by decide +kernel
theorem dL_law_873 : decode cL_law 873 = .ok (.if_icmp .eq 197, 3) := by decide +kernel
theorem dL_law_876 : decode cL_law 876 = .ok (.iconst 0, 1) := by decide +kernel
theorem dL_law_877 : decode cL_law 877 = .ok (.ireturn, 1) := by decide +kernel
theorem dL_law_878 : decode cL_law 878 = .ok (.aload_n 1, 1) := by decide +kernel
theorem dL_law_879 : decode cL_law 879 = .ok (.aload_n 0, 1) := by decide +kernel
theorem dL_law_880 : decode cL_law 880 = .ok (.iload_n 3, 1) := by decide +kernel
theorem dL_law_881 : decode cL_law 881 = .ok (.iconst 1, 1) := by decide +kernel
theorem dL_law_882 : decode cL_law 882 = .ok (.iadd, 1) := by decide +kernel
theorem dL_law_883 : decode cL_law 883 = .ok (.iaload, 1) := by decide +kernel
theorem dL_law_884 : decode cL_law 884 = .ok (.aload_n 0, 1) := by decide +kernel
theorem dL_law_885 : decode cL_law 885 = .ok (.iload_n 3, 1) := by decide +kernel
theorem dL_law_886 : decode cL_law 886 = .ok (.iconst 2, 1) := by decide +kernel
theorem dL_law_887 : decode cL_law 887 = .ok (.iadd, 1) := by decide +kernel
theorem dL_law_888 : decode cL_law 888 = .ok (.iaload, 1) := by decide +kernel
theorem dL_law_889 : decode cL_law 889 = .ok (.aload_n 0, 1) := by decide +kernel
theorem dL_law_890 : decode cL_law 890 = .ok (.iload_n 3, 1) := by decide +kernel
theorem dL_law_891 : decode cL_law 891 = .ok (.iconst 3, 1) := by decide +kernel
theorem dL_law_892 : decode cL_law 892 = .ok (.iadd, 1) := by decide +kernel
theorem dL_law_893 : decode cL_law 893 = .ok (.iaload, 1) := by decide +kernel
theorem dL_law_894 : decode cL_law 894 = .ok (.invokevirtual 123, 3) := by decide +kernel
theorem dL_law_897 : decode cL_law 897 = .ok (.aload_n 2, 1) := by decide +kernel
theorem dL_law_898 : decode cL_law 898 = .ok (.aload_n 0, 1) := by decide +kernel
theorem dL_law_899 : decode cL_law 899 = .ok (.iload_n 3, 1) := by decide +kernel
theorem dL_law_900 : decode cL_law 900 = .ok (.iconst 1, 1) := by decide +kernel
theorem dL_law_901 : decode cL_law 901 = .ok (.iadd, 1) := by decide +kernel
theorem dL_law_902 : decode cL_law 902 = .ok (.iaload, 1) := by decide +kernel
theorem dL_law_903 : decode cL_law 903 = .ok (.aload_n 0, 1) := by decide +kernel
theorem dL_law_904 : decode cL_law 904 = .ok (.iload_n 3, 1) := by decide +kernel
theorem dL_law_905 : decode cL_law 905 = .ok (.iconst 2, 1) := by decide +kernel
theorem dL_law_906 : decode cL_law 906 = .ok (.iadd, 1) := by decide +kernel
theorem dL_law_907 : decode cL_law 907 = .ok (.iaload, 1) := by decide +kernel
theorem dL_law_908 : decode cL_law 908 = .ok (.aload_n 0, 1) := by decide +kernel
theorem dL_law_909 : decode cL_law 909 = .ok (.iload_n 3, 1) := by decide +kernel
theorem dL_law_910 : decode cL_law 910 = .ok (.iconst 3, 1) := by decide +kernel
theorem dL_law_911 : decode cL_law 911 = .ok (.iadd, 1) := by decide +kernel
theorem dL_law_912 : decode cL_law 912 = .ok (.iaload, 1) := by decide +kernel
theorem dL_law_913 : decode cL_law 913 = .ok (.invokevirtual 126, 3) := by decide +kernel
theorem dL_law_916 : decode cL_law 916 = .ok (.if_icmp .eq 154, 3) := by decide +kernel
theorem dL_law_919 : decode cL_law 919 = .ok (.iconst 0, 1) := by decide +kernel
theorem dL_law_920 : decode cL_law 920 = .ok (.ireturn, 1) := by decide +kernel
theorem dL_law_921 : decode cL_law 921 = .ok (.aload_n 1, 1) := by decide +kernel
theorem dL_law_922 : decode cL_law 922 = .ok (.aload_n 0, 1) := by decide +kernel
theorem dL_law_923 : decode cL_law 923 = .ok (.iload_n 3, 1) := by decide +kernel
theorem dL_law_924 : decode cL_law 924 = .ok (.iconst 1, 1) := by decide +kernel
theorem dL_law_925 : decode cL_law 925 = .ok (.iadd, 1) := by decide +kernel
theorem dL_law_926 : decode cL_law 926 = .ok (.iaload, 1) := by decide +kernel
theorem dL_law_927 : decode cL_law 927 = .ok (.aload_n 0, 1) := by decide +kernel
theorem dL_law_928 : decode cL_law 928 = .ok (.iload_n 3, 1) := by decide +kernel
theorem dL_law_929 : decode cL_law 929 = .ok (.iconst 2, 1) := by decide +kernel
theorem dL_law_930 : decode cL_law 930 = .ok (.iadd, 1) := by decide +kernel
theorem dL_law_931 : decode cL_law 931 = .ok (.iaload, 1) := by decide +kernel
theorem dL_law_932 : decode cL_law 932 = .ok (.aload_n 0, 1) := by decide +kernel
theorem dL_law_933 : decode cL_law 933 = .ok (.iload_n 3, 1) := by decide +kernel
theorem dL_law_934 : decode cL_law 934 = .ok (.iconst 3, 1) := by decide +kernel
theorem dL_law_935 : decode cL_law 935 = .ok (.iadd, 1) := by decide +kernel
theorem dL_law_936 : decode cL_law 936 = .ok (.iaload, 1) := by decide +kernel
theorem dL_law_937 : decode cL_law 937 = .ok (.aload_n 0, 1) := by decide +kernel
theorem dL_law_938 : decode cL_law 938 = .ok (.iload_n 3, 1) := by decide +kernel
theorem dL_law_939 : decode cL_law 939 = .ok (.iconst 4, 1) := by decide +kernel
theorem dL_law_940 : decode cL_law 940 = .ok (.iadd, 1) := by decide +kernel
theorem dL_law_941 : decode cL_law 941 = .ok (.iaload, 1) := by decide +kernel
theorem dL_law_942 : decode cL_law 942 = .ok (.aload_n 0, 1) := by decide +kernel
theorem dL_law_943 : decode cL_law 943 = .ok (.iload_n 3, 1) := by decide +kernel
theorem dL_law_944 : decode cL_law 944 = .ok (.iconst 5, 1) := by decide +kernel
theorem dL_law_945 : decode cL_law 945 = .ok (.iadd, 1) := by decide +kernel
theorem dL_law_946 : decode cL_law 946 = .ok (.iaload, 1) := by decide +kernel
theorem dL_law_947 : decode cL_law 947 = .ok (.invokevirtual 127, 3) := by decide +kernel
theorem dL_law_950 : decode cL_law 950 = .ok (.aload_n 2, 1) := by decide +kernel
theorem dL_law_951 : decode cL_law 951 = .ok (.aload_n 0, 1) := by decide +kernel
theorem dL_law_952 : decode cL_law 952 = .ok (.iload_n 3, 1) := by decide +kernel
theorem dL_law_953 : decode cL_law 953 = .ok (.iconst 1, 1) := by decide +kernel
theorem dL_law_954 : decode cL_law 954 = .ok (.iadd, 1) := by decide +kernel
theorem dL_law_955 : decode cL_law 955 = .ok (.iaload, 1) := by decide +kernel
theorem dL_law_956 : decode cL_law 956 = .ok (.aload_n 0, 1) := by decide +kernel
theorem dL_law_957 : decode cL_law 957 = .ok (.iload_n 3, 1) := by decide +kernel
theorem dL_law_958 : decode cL_law 958 = .ok (.iconst 2, 1) := by decide +kernel
theorem dL_law_959 : decode cL_law 959 = .ok (.iadd, 1) := by decide +kernel
theorem dL_law_960 : decode cL_law 960 = .ok (.iaload, 1) := by decide +kernel
theorem dL_law_961 : decode cL_law 961 = .ok (.aload_n 0, 1) := by decide +kernel
theorem dL_law_962 : decode cL_law 962 = .ok (.iload_n 3, 1) := by decide +kernel
theorem dL_law_963 : decode cL_law 963 = .ok (.iconst 3, 1) := by decide +kernel
theorem dL_law_964 : decode cL_law 964 = .ok (.iadd, 1) := by decide +kernel
theorem dL_law_965 : decode cL_law 965 = .ok (.iaload, 1) := by decide +kernel
theorem dL_law_966 : decode cL_law 966 = .ok (.aload_n 0, 1) := by decide +kernel
theorem dL_law_967 : decode cL_law 967 = .ok (.iload_n 3, 1) := by decide +kernel
theorem dL_law_968 : decode cL_law 968 = .ok (.iconst 4, 1) := by decide +kernel
theorem dL_law_969 : decode cL_law 969 = .ok (.iadd, 1) := by decide +kernel
theorem dL_law_970 : decode cL_law 970 = .ok (.iaload, 1) := by decide +kernel
theorem dL_law_971 : decode cL_law 971 = .ok (.aload_n 0, 1) := by decide +kernel
theorem dL_law_972 : decode cL_law 972 = .ok (.iload_n 3, 1) := by decide +kernel
theorem dL_law_973 : decode cL_law 973 = .ok (.iconst 5, 1) := by decide +kernel
theorem dL_law_974 : decode cL_law 974 = .ok (.iadd, 1) := by decide +kernel
theorem dL_law_975 : decode cL_law 975 = .ok (.iaload, 1) := by decide +kernel
theorem dL_law_976 : decode cL_law 976 = .ok (.invokevirtual 131, 3) := by decide +kernel
theorem dL_law_979 : decode cL_law 979 = .ok (.if_icmp .eq 91, 3) := by decide +kernel
theorem dL_law_982 : decode cL_law 982 = .ok (.iconst 0, 1) := by decide +kernel
theorem dL_law_983 : decode cL_law 983 = .ok (.ireturn, 1) := by decide +kernel
theorem dL_law_984 : decode cL_law 984 = .ok (.aload_n 1, 1) := by decide +kernel
theorem dL_law_985 : decode cL_law 985 = .ok (.aload_n 0, 1) := by decide +kernel
theorem dL_law_986 : decode cL_law 986 = .ok (.iload_n 3, 1) := by decide +kernel
theorem dL_law_987 : decode cL_law 987 = .ok (.iconst 1, 1) := by decide +kernel
theorem dL_law_988 : decode cL_law 988 = .ok (.iadd, 1) := by decide +kernel
theorem dL_law_989 : decode cL_law 989 = .ok (.iaload, 1) := by decide +kernel
theorem dL_law_990 : decode cL_law 990 = .ok (.aload_n 0, 1) := by decide +kernel
theorem dL_law_991 : decode cL_law 991 = .ok (.iload_n 3, 1) := by decide +kernel
theorem dL_law_992 : decode cL_law 992 = .ok (.iconst 2, 1) := by decide +kernel
theorem dL_law_993 : decode cL_law 993 = .ok (.iadd, 1) := by decide +kernel
theorem dL_law_994 : decode cL_law 994 = .ok (.iaload, 1) := by decide +kernel
theorem dL_law_995 : decode cL_law 995 = .ok (.aload_n 0, 1) := by decide +kernel
theorem dL_law_996 : decode cL_law 996 = .ok (.iload_n 3, 1) := by decide +kernel
theorem dL_law_997 : decode cL_law 997 = .ok (.iconst 3, 1) := by decide +kernel
theorem dL_law_998 : decode cL_law 998 = .ok (.iadd, 1) := by decide +kernel
theorem dL_law_999 : decode cL_law 999 = .ok (.iaload, 1) := by decide +kernel
theorem dL_law_1000 : decode cL_law 1000 = .ok (.aload_n 0, 1) := by decide +kernel
theorem dL_law_1001 : decode cL_law 1001 = .ok (.iload_n 3, 1) := by decide +kernel
theorem dL_law_1002 : decode cL_law 1002 = .ok (.iconst 4, 1) := by decide +kernel
theorem dL_law_1003 : decode cL_law 1003 = .ok (.iadd, 1) := by decide +kernel
theorem dL_law_1004 : decode cL_law 1004 = .ok (.iaload, 1) := by decide +kernel
theorem dL_law_1005 : decode cL_law 1005 = .ok (.invokevirtual 132, 3) := by decide +kernel
theorem dL_law_1008 : decode cL_law 1008 = .ok (.aload_n 2, 1) := by decide +kernel
theorem dL_law_1009 : decode cL_law 1009 = .ok (.aload_n 0, 1) := by decide +kernel
theorem dL_law_1010 : decode cL_law 1010 = .ok (.iload_n 3, 1) := by decide +kernel
theorem dL_law_1011 : decode cL_law 1011 = .ok (.iconst 1, 1) := by decide +kernel
theorem dL_law_1012 : decode cL_law 1012 = .ok (.iadd, 1) := by decide +kernel
theorem dL_law_1013 : decode cL_law 1013 = .ok (.iaload, 1) := by decide +kernel
theorem dL_law_1014 : decode cL_law 1014 = .ok (.aload_n 0, 1) := by decide +kernel
theorem dL_law_1015 : decode cL_law 1015 = .ok (.iload_n 3, 1) := by decide +kernel
theorem dL_law_1016 : decode cL_law 1016 = .ok (.iconst 2, 1) := by decide +kernel
theorem dL_law_1017 : decode cL_law 1017 = .ok (.iadd, 1) := by decide +kernel
theorem dL_law_1018 : decode cL_law 1018 = .ok (.iaload, 1) := by decide +kernel
theorem dL_law_1019 : decode cL_law 1019 = .ok (.aload_n 0, 1) := by decide +kernel
theorem dL_law_1020 : decode cL_law 1020 = .ok (.iload_n 3, 1) := by decide +kernel
theorem dL_law_1021 : decode cL_law 1021 = .ok (.iconst 3, 1) := by decide +kernel
theorem dL_law_1022 : decode cL_law 1022 = .ok (.iadd, 1) := by decide +kernel
theorem dL_law_1023 : decode cL_law 1023 = .ok (.iaload, 1) := by decide +kernel
theorem dL_law_1024 : decode cL_law 1024 = .ok (.aload_n 0, 1) := by decide +kernel
theorem dL_law_1025 : decode cL_law 1025 = .ok (.iload_n 3, 1) := by decide +kernel
theorem dL_law_1026 : decode cL_law 1026 = .ok (.iconst 4, 1) := by decide +kernel
theorem dL_law_1027 : decode cL_law 1027 = .ok (.iadd, 1) := by decide +kernel
theorem dL_law_1028 : decode cL_law 1028 = .ok (.iaload, 1) := by decide +kernel
theorem dL_law_1029 : decode cL_law 1029 = .ok (.invokevirtual 136, 3) := by decide +kernel
theorem dL_law_1032 : decode cL_law 1032 = .ok (.if_icmp .eq 38, 3) := by decide +kernel
theorem dL_law_1035 : decode cL_law 1035 = .ok (.iconst 0, 1) := by decide +kernel
theorem dL_law_1036 : decode cL_law 1036 = .ok (.ireturn, 1) := by decide +kernel
theorem dL_law_1037 : decode cL_law 1037 = .ok (.aload_n 1, 1) := by decide +kernel
theorem dL_law_1038 : decode cL_law 1038 = .ok (.aload_n 0, 1) := by decide +kernel
theorem dL_law_1039 : decode cL_law 1039 = .ok (.iload_n 3, 1) := by decide +kernel
theorem dL_law_1040 : decode cL_law 1040 = .ok (.iconst 1, 1) := by decide +kernel
theorem dL_law_1041 : decode cL_law 1041 = .ok (.iadd, 1) := by decide +kernel
theorem dL_law_1042 : decode cL_law 1042 = .ok (.iaload, 1) := by decide +kernel
theorem dL_law_1043 : decode cL_law 1043 = .ok (.aload_n 0, 1) := by decide +kernel
theorem dL_law_1044 : decode cL_law 1044 = .ok (.iload_n 3, 1) := by decide +kernel
theorem dL_law_1045 : decode cL_law 1045 = .ok (.iconst 2, 1) := by decide +kernel
theorem dL_law_1046 : decode cL_law 1046 = .ok (.iadd, 1) := by decide +kernel
theorem dL_law_1047 : decode cL_law 1047 = .ok (.iaload, 1) := by decide +kernel
theorem dL_law_1048 : decode cL_law 1048 = .ok (.invokevirtual 137, 3) := by decide +kernel
theorem dL_law_1051 : decode cL_law 1051 = .ok (.aload_n 2, 1) := by decide +kernel
theorem dL_law_1052 : decode cL_law 1052 = .ok (.aload_n 0, 1) := by decide +kernel
theorem dL_law_1053 : decode cL_law 1053 = .ok (.iload_n 3, 1) := by decide +kernel
theorem dL_law_1054 : decode cL_law 1054 = .ok (.iconst 1, 1) := by decide +kernel
theorem dL_law_1055 : decode cL_law 1055 = .ok (.iadd, 1) := by decide +kernel
theorem dL_law_1056 : decode cL_law 1056 = .ok (.iaload, 1) := by decide +kernel
theorem dL_law_1057 : decode cL_law 1057 = .ok (.aload_n 0, 1) := by decide +kernel
theorem dL_law_1058 : decode cL_law 1058 = .ok (.iload_n 3, 1) := by decide +kernel
theorem dL_law_1059 : decode cL_law 1059 = .ok (.iconst 2, 1) := by decide +kernel
theorem dL_law_1060 : decode cL_law 1060 = .ok (.iadd, 1) := by decide +kernel
theorem dL_law_1061 : decode cL_law 1061 = .ok (.iaload, 1) := by decide +kernel
theorem dL_law_1062 : decode cL_law 1062 = .ok (.invokevirtual 140, 3) := by decide +kernel
theorem dL_law_1065 : decode cL_law 1065 = .ok (.if_icmp .eq 5, 3) := by decide +kernel
theorem dL_law_1068 : decode cL_law 1068 = .ok (.iconst 0, 1) := by decide +kernel
theorem dL_law_1069 : decode cL_law 1069 = .ok (.ireturn, 1) := by decide +kernel
theorem dL_law_1070 : decode cL_law 1070 = .ok (.iinc 3 6, 3) := by decide +kernel
theorem dL_law_1073 : decode cL_law 1073 = .ok (.goto (-1055), 3) := by decide +kernel
theorem dL_law_1076 : decode cL_law 1076 = .ok (.iconst 1, 1) := by decide +kernel
theorem dL_law_1077 : decode cL_law 1077 = .ok (.ireturn, 1) := by decide +kernel
end
section
/-! THE METHODS OVER WORLDS OF PLACES: a world is a list of cells, a reference its place in it (1000000 and on: what is static); XCall: a method's contract; XAt: the method at a pc; a program of predicate transformers (XOp) that the machine keeps (XSnd) -/
abbrev XE : Type := (Nat × vp_A) ⊕ (Nat × List Value)
abbrev XW : Type := List XE
abbrev XL : Type := List (Nat × Value)
abbrev XQ : Type := Option Value → XW → Prop
abbrev XK : Type := Nat → XL → List Value → XW → Prop
/-- the launch; the one more table that is only read (its length, what it holds): place 1000005 -/
abbrev XEnv : Type := Launch × Nat × (Nat → Int32)
abbrev XOp : Type := XEnv → Nat → XQ → XK → XL → List Value → XW → Prop
def gTs : List Cond := lw_tbl.filter goodWord
theorem gTs_of {w : Cond} (i : Nat) (h : lw_tbl[i]? = some w) (hg : goodWord w = true) : w ∈ gTs := List.mem_filter.mpr ⟨List.mem_of_getElem? h, hg⟩
theorem gTs_good : ∀ w ∈ gTs, goodWord w = true := fun w h => (List.mem_filter.mp h).2
theorem gTs_in : ∀ w ∈ gTs, w ∈ lw_tbl := fun w h => (List.mem_filter.mp h).1
theorem gTs_GoodIn {ws : List Cond} (h : ∀ w ∈ ws, w ∈ gTs) : GoodIn gTs ws := fun w hw => ⟨h w hw, good_of_word (gTs_good w (h w hw))⟩
-- ===== values, cells, worlds =====
def xv (ad : Nat → Nat) (v : Value) : Value := match v with
  | .ref k => .ref (ad k)
  | w => w
theorem xv_cat (ad : Nat → Nat) (v : Value) : (xv ad v).category = v.category := by cases v <;> rfl
def xl (ad : Nat → Nat) (lv : XL) : XL := lv.map fun q => (q.1, xv ad q.2)
def xa (ad : Nat → Nat) (x : vp_A) : vp_A := match x with
  | (n, .inr (.inr (.inr (.inr g)))) => (n, .inr (.inr (.inr (.inr fun i => (g i).map ad))))
  | y => y
def xe (cA : Nat → ClassId) (ad : Nat → Nat) (e : XE) : va_E := match e with
  | .inl (t, x) => .inl (cA t, xa ad x)
  | .inr (c, fs) => .inr (c, fs.map (xv ad))
def xw (cA : Nat → ClassId) (ad : Nat → Nat) (σ : XW) : va_W := σ.mapIdx fun i e => (ad i, xe cA ad e)
theorem xw_get {cA : Nat → ClassId} {ad : Nat → Nat} {σ : XW} {k : Nat} {e : XE} (h : σ[k]? = some e) : (xw cA ad σ)[k]? = some (ad k, xe cA ad e) := by simp [xw, h]
theorem xw_get' {cA : Nat → ClassId} {ad : Nat → Nat} {σ : XW} {k : Nat} {q : Nat × va_E} (h : (xw cA ad σ)[k]? = some q) : ∃ e, σ[k]? = some e ∧ q = (ad k, xe cA ad e) := by
  simp only [xw, List.getElem?_mapIdx, Option.map_eq_some_iff] at h
  obtain ⟨e, h1, h2⟩ := h
  exact ⟨e, h1, h2.symm⟩
theorem xw_set (cA : Nat → ClassId) (ad : Nat → Nat) (σ : XW) (k : Nat) (e : XE) : (xw cA ad σ).set k (ad k, xe cA ad e) = xw cA ad (σ.set k e) := by
  apply List.ext_getElem?
  intro i
  by_cases hik : k = i
  · subst hik
    by_cases hk : k < σ.length
    · simp [xw, List.getElem?_set, hk]
    · simp [xw, List.getElem?_set, hk]
  · simp [xw, List.getElem?_set, hik]
def xD (A : Nat → Prop) (ad : Nat → Nat) (n : Nat) : Prop := (∀ i j, i < n → j < n → ad i = ad j → i = j) ∧ ∀ i, i < n → A (ad i)
theorem xD_to {A : Nat → Prop} {ad : Nat → Nat} {cA : Nat → ClassId} {σ : XW} (h : xD A ad σ.length) : va_D A (xw cA ad σ) := by
  refine ⟨fun i j p q hi hj e => ?_, fun k q hk => ?_⟩
  · obtain ⟨e1, a1, rfl⟩ := xw_get' hi
    obtain ⟨e2, a2, rfl⟩ := xw_get' hj
    exact h.1 i j (List.getElem?_eq_some_iff.mp a1).1 (List.getElem?_eq_some_iff.mp a2).1 e
  · obtain ⟨e1, a1, rfl⟩ := xw_get' hk
    exact h.2 k (List.getElem?_eq_some_iff.mp a1).1
def xA (ad : Nat → Nat) (n : Nat) : Nat → Prop := fun q => ∃ k, k < n ∧ q = ad k
def xT (cA : Nat → ClassId) : List (ClassId × FieldType) := [(cA 0, .int), (cA 1, .boolean), (cA 2, .object "WhoBuiltSails$Text"), (cA 3, .object "WhoBuiltSails$Sheet")]
-- ===== what is static =====
def xNest : List (String × Nat × MethodName × String) := [(RX4, 24, yX0_init, RX4), (RX4, 50, yX1_init, RX4), (RX2, 75, yX4_isUnder, RX4), (RX2, 56, yX4_within, RX4), (RX2, 82, yX4_isPart, RX4), (RX3, 28, yX4_within, RX4), (RX0, 87, yX4_within, RX4), (RX1, 31, yX4_within, RX4)]
def xstL (j : Nat) : List Int32 := match j with
  | 0 => [999, 99, 100, 99, 9, 99]
  | 1 => [-1, 0, 0, 1, 2, 0]
  | _ => [1, 6, 36, 216]
def xst (j i : Nat) : Int32 := (xstL j).getD i 0
def xTxt : String := "skill sound number day water part makes mends pumps or and not "
def xByt : List Int32 := [115, 107, 105, 108, 108, 32, 115, 111, 117, 110, 100, 32, 110, 117, 109, 98, 101, 114, 32, 100, 97, 121, 32, 119, 97, 116, 101, 114, 32, 112, 97, 114, 116, 32, 109, 97, 107, 101, 115, 32, 109, 101, 110, 100, 115, 32, 112, 117, 109, 112, 115, 32, 111, 114, 32, 97, 110, 100, 32, 110, 111, 116, 32]
def xG (E : XEnv) (ad : Nat → Nat) (A : Nat → Prop) (U : State) : Prop :=
  (∀ q ∈ xNest, va_Nw (.methodLinkNest q.1 q.2.1 q.2.2.1 q.2.2.2) U) ∧
  (va_Z RX4 "MOST_OF" "[I" (.ref (ad 1000000)) A U U.heap ∧ va_T .int (ad 1000000) 6 (fun j => .int (xst 0 j)) A U U.heap) ∧
  (va_Z RX4 "ABOVE" "[I" (.ref (ad 1000001)) A U U.heap ∧ va_T .int (ad 1000001) 6 (fun j => .int (xst 1 j)) A U U.heap) ∧
  (va_Z RX4 "WAYS" "[I" (.ref (ad 1000002)) A U U.heap ∧ va_T .int (ad 1000002) 4 (fun j => .int (xst 2 j)) A U U.heap) ∧
  vk_R RX0 107 xTxt (ad 1000003) U ∧ vk_S 1 [63] [xByt] (fun _ => ad 1000003) (fun _ => ad 1000004) A U U.heap ∧
  va_Z RJ0 "COMPACT_STRINGS" "Z" (.int 1) A U U.heap ∧ va_Zq RJ3 "SIOOBE_FORMATTER" "Ljava/util/function/BiFunction;" A U U.heap ∧
  va_T .int (ad 1000005) E.2.1 (fun j => .int (E.2.2 j)) A U U.heap
theorem xG.next {E : XEnv} {ad ad' : Nat → Nat} {A B : Nat → Prop} {s U : State} (h : xG E ad A s) (hW : s.WarmedH U.vm) (hq : ∀ a : Nat, a < s.heap.size → ¬ A a → U.heap[a]? = s.heap[a]?) (hAB : ∀ q, B q → A q) (had : ∀ k, 1000000 ≤ k → ad' k = ad k) : xG E ad' B U := by
  obtain ⟨h1, ⟨h2, h3⟩, ⟨h4, h5⟩, ⟨h6, h7⟩, h8, h9, h10, h11, h12⟩ := h
  have hv := hW.alike
  refine ⟨fun q hq1 => va_Nw.warmM hW (h1 q hq1), ?_⟩
  rw [had 1000000 (Nat.le_of_ble_eq_true rfl), had 1000001 (Nat.le_of_ble_eq_true rfl), had 1000002 (Nat.le_of_ble_eq_true rfl), had 1000003 (Nat.le_of_ble_eq_true rfl), had 1000004 (Nat.le_of_ble_eq_true rfl), had 1000005 (Nat.le_of_ble_eq_true rfl)]
  refine ⟨⟨((h2.kept hq).moved hv).narrow hAB, ((h3.kept hq).moved hv).narrow hAB⟩, ⟨((h4.kept hq).moved hv).narrow hAB, ((h5.kept hq).moved hv).narrow hAB⟩, ⟨((h6.kept hq).moved hv).narrow hAB, ((h7.kept hq).moved hv).narrow hAB⟩, vk_R.warm hW h8, ((h9.kept hq).moved hv).narrow hAB, ((h10.kept hq).moved hv).narrow hAB, ?_⟩
  exact ⟨((h11.kept hq).moved hv).narrow hAB, ((h12.kept hq).moved hv).narrow hAB⟩
-- ===== a contract =====
def rmL (d : Nat) : Room := { frames := d + 1, cells := 0, slots := 0, locals := 40 * (d + 1) }
def xok (r : Option Value) : Prop := match r with
  | some (.ref _) => False
  | _ => True
def xPre (E : XEnv) (D : va_G) (cA : Nat → ClassId) (ad : Nat → Nat) (A : Nat → Prop) (σ : XW) (U : State) : Prop := va_K D vwCl (xT cA) U ∧ va_P D vwCl (xw cA ad σ) U.heap ∧ xD A ad σ.length ∧ xG E ad A U
def xPost (D : va_G) (cA : Nat → ClassId) (ad : Nat → Nat) (A : Nat → Prop) (n : Nat) (Q : XQ) : Array Value → State → Outcome → State → Prop := fun _ st oc t => (∃ (r : Option Value) (σ' : XW), oc = .returned r ∧ xok r ∧ Q r σ' ∧ σ'.length = n ∧ va_P D vwCl (xw cA ad σ') t.heap) ∧ va_F A st t
def XCall (E : XEnv) (d : Nat) (y : MethodName) (cc : ByteArray) (nL : Nat) (rt : Option FieldType) (args : List Value) (σ : XW) (Q : XQ) : Prop :=
  ∀ (D : va_G) (cA : Nat → ClassId) (ad : Nat → Nat) (A : Nat → Prop), Met E.1 y (Cond.code y cc nL rt :: gTs) (rmL d) (va_Pc (args.map (xv ad)) (xPre E D cA ad A σ)) (xPost D cA ad A σ.length Q) 0 0 A
-- ===== a method at a pc =====
def xWd (E : XEnv) (D : va_G) (cA : Nat → ClassId) (ad : Nat → Nat) (A : Nat → Prop) (s : State) (n0 : Nat) (σ : XW) (H : Heap) (locs : List Loc) : Prop := σ.length = n0 ∧ va_K D vwCl (xT cA) s ∧ va_P D vwCl (xw cA ad σ) H ∧ xD A ad n0 ∧ va_S A s.heap H locs ∧ xG E ad A s
def xRoom (Lv : Nat) (R : Room) (cells slots : Nat) : Prop := Lv + 1 ≤ R.frames ∧ 40 * (Lv + 1) ≤ R.locals ∧ cells ≤ R.cells ∧ slots ≤ R.slots
def xnar (rt : Option FieldType) (v : Int32) : Prop := match rt with
  | some ty => narrow ty (.int v) = .int v
  | none => False
def xRet (p : Program) (l : Launch) (e : Env) (R : Room) (s : State) (m : MethodId) (args : Array Value) (below : List Frame) (meth : Method) (c : Code) (H : Heap) (locs : List Loc) (cells slots : Nat) (Z : State → Prop) (cc : ByteArray) (rt : Option FieldType) (r : Option Value) : Prop := match r with
  | some (.int v) => ∀ (pc : Nat) (ls : Array Slot), decode cc pc = .ok (.ireturn, 1) → xnar rt v → W p l e R s m args below meth c H locs cells slots Z (F0 m pc ls [.int v])
  | some (.long v) => ∀ (pc : Nat) (ls : Array Slot), decode cc pc = .ok (.lreturn, 1) → rt = some .long → W p l e R s m args below meth c H locs cells slots Z (F0 m pc ls [.long v])
  | none => ∀ (pc : Nat) (ls : Array Slot), decode cc pc = .ok (.return_, 1) → rt = none → W p l e R s m args below meth c H locs cells slots Z (F0 m pc ls [])
  | _ => True
def XAt (E : XEnv) (own : String) (cc : ByteArray) (nL : Nat) (rt : Option FieldType) (Lv n0 : Nat) (Q : XQ) (pc : Nat) (lv : XL) (st : List Value) (σ : XW) : Prop :=
  ∀ (p : Program) (e : Env) (R : Room) (s : State) (m : MethodId) (args : Array Value) (below : List Frame) (meth : Method) (c : Code) (H : Heap) (locs : List Loc) (cells slots : Nat) (Z : State → Prop) (D : va_G) (cA : Nat → ClassId) (ad : Nat → Nat) (A : Nat → Prop) (ls : Array Slot),
    CallFix p m c cc nL s args gTs own → xRoom Lv R cells slots → lv_has ls nL (xl ad lv) → xWd E D cA ad A s n0 σ H locs →
    (∀ (r : Option Value) (σ' : XW) (H' : Heap) (locs' : List Loc), Q r σ' → xWd E D cA ad A s n0 σ' H' locs' → xRet p E.1 e R s m args below meth c H' locs' cells slots Z cc rt r) →
    W p E.1 e R s m args below meth c H locs cells slots Z (F0 m pc ls (st.map (xv ad)))
theorem XAt.sub {E : XEnv} {own : String} {cc : ByteArray} {nL : Nat} {rt : Option FieldType} {Lv n0 : Nat} {Q : XQ} {pc : Nat} {lv lv' : XL} {st : List Value} {σ : XW} (k : XAt E own cc nL rt Lv n0 Q pc lv' st σ) (h : ∀ q ∈ lv', q ∈ lv) : XAt E own cc nL rt Lv n0 Q pc lv st σ := by
  intro p e R s m args below meth c H locs cells slots Z D cA ad A ls hC hR hl hw hE
  refine k p e R s m args below meth c H locs cells slots Z D cA ad A ls hC hR ⟨hl.1, hl.2.1, fun q hq => ?_⟩ hw hE
  obtain ⟨q0, h1, rfl⟩ := List.mem_map.mp hq
  exact hl.2.2 _ (List.mem_map.mpr ⟨q0, h q0 h1, rfl⟩)
theorem XAt.mono {E : XEnv} {own : String} {cc : ByteArray} {nL : Nat} {rt : Option FieldType} {Lv n0 : Nat} {Q Q' : XQ} {pc : Nat} {lv : XL} {st : List Value} {σ : XW} (k : XAt E own cc nL rt Lv n0 Q pc lv st σ) (h : ∀ r σ', σ'.length = n0 → Q r σ' → Q' r σ') : XAt E own cc nL rt Lv n0 Q' pc lv st σ := by
  intro p e R s m args below meth c H locs cells slots Z D cA ad A ls hC hR hl hw hE
  exact k p e R s m args below meth c H locs cells slots Z D cA ad A ls hC hR hl hw (fun r σ' H' locs' hq hw' => hE r σ' H' locs' (h r σ' hw'.1 hq) hw')
theorem XCall.mono {E : XEnv} {d : Nat} {y : MethodName} {cc : ByteArray} {nL : Nat} {rt : Option FieldType} {args : List Value} {σ : XW} {Q Q' : XQ} (k : XCall E d y cc nL rt args σ Q) (h : ∀ r σ', σ'.length = σ.length → Q r σ' → Q' r σ') : XCall E d y cc nL rt args σ Q' := by
  intro D cA ad A p e ha hc hk s m a below hf happ hP hT
  obtain ⟨t, o, h1, h2, h3, h4⟩ := k D cA ad A p e ha hc hk s m a below hf happ hP hT
  obtain ⟨⟨⟨r, σ', q1, q2, q3, q4, q5⟩, q6⟩, h5⟩ := h4
  exact ⟨t, o, h1, h2, h3, ⟨⟨r, σ', q1, q2, h r σ' q4 q3, q4, q5⟩, q6⟩, h5⟩
theorem lg_sl_map (ad : Nat → Nat) : ∀ vs : List Value, (lg_sl (vs.map (xv ad))).length = (lg_sl vs).length
  | [] => rfl
  | v :: vs => by
    have ih := lg_sl_map ad vs
    have e1 : ∀ (w : Value) (ws : List Value), lg_sl (w :: ws) = (if w.category = 2 then [.val w, .second] else [.val w]) ++ lg_sl ws := fun w ws => by simp [lg_sl]
    rw [List.map_cons, e1, e1, List.length_append, List.length_append, ih, xv_cat]
    split <;> rfl
theorem xl_args (ad : Nat → Nat) : ∀ (vs : List Value) (i : Nat), lv_args i (vs.map (xv ad)) = xl ad (lv_args i vs)
  | [], i => rfl
  | v :: vs, i => by
    show (i, xv ad v) :: lv_args (if (xv ad v).category = 2 then i + 2 else i + 1) (vs.map (xv ad)) = _
    rw [xl_args ad vs, xv_cat]
    rfl
theorem XCall.of {E : XEnv} {d : Nat} {y : MethodName} {cc : ByteArray} {nL : Nat} {rt : Option FieldType} {args : List Value} {σ : XW} {Q : XQ} (hy : plainName y.cls = true) (hn : (lg_sl args).length ≤ nL) (h : XAt E y.cls cc nL rt d σ.length Q 0 (lv_args 0 args) [] σ) : XCall E d y cc nL rt args σ Q := by
  intro D cA ad A
  refine Met.ofW (cc := cc) (maxL := nL) (ret := rt) hy rfl ?_
  intro p e s m args' below meth c s₁ B hml hv
  obtain ⟨rfl, hK, hP, hD, hG⟩ := hv
  have hx := B.exec
  have hb := B.bytes
  have hr := B.returns
  have hts := atoms_spec (ws := Cond.code y cc nL rt :: gTs) B.pre
  have hown : s.vm.findClass y.cls = some m.cls := findClass_of_methodNamed B.named
  have hlocks := B.notSynchronized
  have hl := lv_entry (args.map (xv ad)) (n := nL) (by rw [lg_sl_map]; exact hn)
  rw [lg_entry_eq]
  rw [xl_args] at hl
  generalize (lg_sl (args.map (xv ad)) ++ List.replicate (nL - (lg_sl (args.map (xv ad))).length) Slot.unset).toArray = ls at hl ⊢
  refine h p e _ s m _ below meth c s.heap [] 0 0 _ D cA ad A ls ⟨hx, hb, hml, hown, fun w hw => hts w (List.mem_cons_of_mem _ hw)⟩ ⟨Nat.le_refl _, Nat.le_refl _, Nat.zero_le _, Nat.zero_le _⟩ hl ⟨rfl, hK, hP, hD, va_S.rf, hG⟩ ?_
  intro r σ' H' locs' hq hw
  obtain ⟨w1, w2, w3, w4, w5, w6⟩ := hw
  have fin : ∀ t : State, t.heap = H' → xok r → xPost D cA ad A σ.length Q (args.map (xv ad)).toArray s (.returned r) t := fun t ht ho => ⟨⟨r, σ', rfl, ho, hq, w1, by rw [ht]; exact w3⟩, w5.F ht⟩
  match r, fin with
  | some (.int v), fin =>
    intro pc ls' hd hv
    cases hrt : rt with
    | none => rw [hrt] at hv; exact hv.elim
    | some ty =>
      rw [hrt] at hv hr
      exact W.zret hx hb hr hv (fun t ht _ => fin t ht trivial) w5.2.2 hd
  | some (.long v), fin =>
    intro pc ls' hd hv
    rw [hv] at hr
    exact W.lret hx hb hr (fun t ht _ => fin t ht trivial) w5.2.2 hd
  | none, fin =>
    intro pc ls' hd hv
    rw [hv] at hr
    exact W.vret hx hb hr (fun t ht _ => fin t ht trivial) w5.2.2 hd
  | some (.float v), _ => exact trivial
  | some (.double v), _ => exact trivial
  | some .null, _ => exact trivial
  | some (.ref v), _ => exact trivial
  | some (.retAddr v), _ => exact trivial
end
section
-- ===== a call out of a larger world: the callee's place k is the caller's place P[k] =====
def xp (P : List Nat) (k : Nat) : Nat := match Nat.ble 1000000 k with
  | true => k
  | false => P.getD k 0
def xpE (P : List Nat) (e : XE) : XE := match e with
  | .inl (t, x) => .inl (t, xa (xp P) x)
  | .inr (c, fs) => .inr (c, fs.map (xv (xp P)))
/-- the callee's cells back to their places -/
def xmg (R : List Nat) : List Nat → XW → XW → XW
  | i :: is, e :: es, σ => xmg R is es (σ.set i (xpE R e))
  | _, _, σ => σ
theorem xv_comp (ad : Nat → Nat) (f : Nat → Nat) (v : Value) : xv ad (xv f v) = xv (fun k => ad (f k)) v := by cases v <;> rfl
theorem xa_comp (ad : Nat → Nat) (f : Nat → Nat) (x : vp_A) : xa ad (xa f x) = xa (fun k => ad (f k)) x := by
  obtain ⟨n, x⟩ := x
  match x with
  | .inl _ => rfl
  | .inr (.inl _) => rfl
  | .inr (.inr (.inl _)) => rfl
  | .inr (.inr (.inr (.inl _))) => rfl
  | .inr (.inr (.inr (.inr g))) => simp [xa, Function.comp_def]
theorem xe_comp (cA : Nat → ClassId) (ad : Nat → Nat) (P : List Nat) (e : XE) : xe cA ad (xpE P e) = xe cA (fun k => ad (xp P k)) e := by
  match e with
  | .inl (t, x) =>
    show (Sum.inl (cA t, xa ad (xa (xp P) x)) : va_E) = _
    rw [xa_comp]
    rfl
  | .inr (c, fs) =>
    show (Sum.inr (c, (fs.map (xv (xp P))).map (xv ad)) : va_E) = _
    rw [List.map_map, show (xv ad ∘ xv (xp P)) = xv (fun k => ad (xp P k)) from funext fun v => xv_comp _ _ _]
    rfl
theorem xmg_len (R : List Nat) : ∀ (is : List Nat) (es σ : XW), (xmg R is es σ).length = σ.length
  | [], _, _ => by simp [xmg]
  | _ :: _, [], _ => by simp [xmg]
  | i :: is, e :: es, σ => by
    rw [xmg, xmg_len R is es, List.length_set]
theorem xmg_out (R : List Nat) : ∀ (is : List Nat) (es σ : XW) (k : Nat), k ∉ is → (xmg R is es σ)[k]? = σ[k]?
  | [], _, _, _, _ => by simp [xmg]
  | _ :: _, [], _, _, _ => by simp [xmg]
  | i :: is, e :: es, σ, k, h => by
    rw [xmg, xmg_out R is es _ k (fun z => h (List.mem_cons_of_mem _ z)), List.getElem?_set_ne (fun z => h (by rw [z]; exact List.mem_cons_self))]
theorem xmg_at (R : List Nat) : ∀ (is : List Nat) (es σ : XW) (j i : Nat), is.Nodup → (∀ i ∈ is, i < σ.length) → is[j]? = some i → ∀ e, es[j]? = some e → (xmg R is es σ)[i]? = some (xpE R e)
  | [], _, _, _, _, _, _, h, _, _ => by simp at h
  | _ :: _, [], _, _, _, _, _, _, _, h => by simp at h
  | i0 :: is, e0 :: es, σ, 0, i, hn, hl, h, e, he => by
    simp only [List.getElem?_cons_zero, Option.some.injEq] at h he
    subst h; subst he
    rw [xmg, xmg_out R is es _ _ (List.nodup_cons.mp hn).1, List.getElem?_set_self (hl _ List.mem_cons_self)]
  | i0 :: is, e0 :: es, σ, j + 1, i, hn, hl, h, e, he => by
    simp only [List.getElem?_cons_succ] at h he
    rw [xmg]
    exact xmg_at R is es _ j i (List.nodup_cons.mp hn).2 (fun i hi => by rw [List.length_set]; exact hl i (List.mem_cons_of_mem _ hi)) h e he
/-- the callee's world lies at the places P of the caller's -/
def xSub (P : List Nat) (σ σc : XW) : Prop := P.map (fun i => σ[i]?) = σc.map (fun e => some (xpE P e))
theorem xSub_len {P : List Nat} {σ σc : XW} (h : xSub P σ σc) : P.length = σc.length := by simpa using congrArg List.length h
theorem xSub_at {P : List Nat} {σ σc : XW} (h : xSub P σ σc) {k : Nat} {e : XE} (he : σc[k]? = some e) : ∃ i, P[k]? = some i ∧ σ[i]? = some (xpE P e) := by
  have h1 : (P.map (fun i => σ[i]?))[k]? = some (some (xpE P e)) := by rw [h, List.getElem?_map, he]; rfl
  rw [List.getElem?_map] at h1
  cases hi : P[k]? with
  | none => rw [hi] at h1; cases h1
  | some i => rw [hi] at h1; exact ⟨i, rfl, Option.some.inj h1⟩
theorem xSub_lt {P : List Nat} {σ σc : XW} (h : xSub P σ σc) {k i : Nat} (hi : P[k]? = some i) : i < σ.length ∧ k < σc.length := by
  have hk : k < σc.length := by rw [← xSub_len h]; exact (List.getElem?_eq_some_iff.mp hi).1
  obtain ⟨i', h1, h2⟩ := xSub_at h (List.getElem?_eq_getElem hk)
  cases hi.symm.trans h1
  exact ⟨(List.getElem?_eq_some_iff.mp h2).1, hk⟩
def XIn (E : XEnv) (Lv : Nat) (y : MethodName) (cc : ByteArray) (nL : Nat) (rt : Option FieldType) (args : List Value) (σ : XW) (Q : XQ) : Prop :=
  ∃ (d : Nat) (P : List Nat) (argsc : List Value) (σc : XW) (Qc : XQ), d < Lv ∧ XCall E d y cc nL rt argsc σc Qc ∧ P.Nodup ∧ P.length < 1000000 ∧ xSub P σ σc ∧ args = argsc.map (xv (xp P)) ∧ ∀ (r : Option Value) (σ' : XW), σ'.length = σc.length → Qc r σ' → Q r (xmg P P σ' σ)
theorem XIn.mono {E : XEnv} {Lv : Nat} {y : MethodName} {cc : ByteArray} {nL : Nat} {rt : Option FieldType} {args : List Value} {σ : XW} {Q Q' : XQ} (h : XIn E Lv y cc nL rt args σ Q) (hq : ∀ r σ', σ'.length = σ.length → Q r σ' → Q' r σ') : XIn E Lv y cc nL rt args σ Q' := by
  obtain ⟨d, P, argsc, σc, Qc, h1, h2, h3, h4, h5, h6, h7⟩ := h
  exact ⟨d, P, argsc, σc, Qc, h1, h2, h3, h4, h5, h6, fun r σ' hl hc => hq r _ (xmg_len _ _ _ _) (h7 r σ' hl hc)⟩
/-- the addresses of the callee's places -/
def xad (ad : Nat → Nat) (P : List Nat) : Nat → Nat := fun k => ad (xp P k)
theorem xp_in {P : List Nat} (hP : P.length < 1000000) {k i : Nat} (h : P[k]? = some i) : xp P k = i := by
  have hk : k < P.length := (List.getElem?_eq_some_iff.mp h).1
  have hb : Nat.ble 1000000 k = false := by
    cases hb : Nat.ble 1000000 k with
    | false => rfl
    | true => exact absurd (Nat.le_of_ble_eq_true hb) (by omega)
  unfold xp
  rw [hb]
  show P.getD k 0 = i
  rw [List.getD_eq_getElem?_getD, h]
  rfl
section XAFT
variable {p : Program} {E : XEnv} {e : Env} {R : Room} {s : State} {m : MethodId} {args : Array Value} {below : List Frame} {meth : Method} {c : Code} {H : Heap} {locs : List Loc} {cells slots : Nat} {Z : State → Prop}
variable {D : va_G} {cA : Nat → ClassId} {ad : Nat → Nat} {A : Nat → Prop} {n0 : Nat} {σ σc : XW} {P : List Nat}
theorem xcall_pre (hw : xWd E D cA ad A s n0 σ H locs) (hn : P.Nodup) (hP : P.length < 1000000) (hs : xSub P σ σc) : ∀ U : State, U.heap = H → s.WarmedH U.vm → xPre E D cA (xad ad P) (xA (xad ad P) σc.length) σc U := by
  intro U hU hW
  obtain ⟨w1, w2, w3, w4, w5, w6⟩ := hw
  have hin : ∀ k, k < σc.length → ∃ i, P[k]? = some i ∧ i < σ.length ∧ xad ad P k = ad i := by
    intro k hk
    obtain ⟨i, h1, h2⟩ := xSub_at hs (List.getElem?_eq_getElem hk)
    exact ⟨i, h1, (List.getElem?_eq_some_iff.mp h2).1, by unfold xad; rw [xp_in hP h1]⟩
  refine ⟨va_K.moved hW.alike w2, fun k q hk => ?_, ⟨fun i j hi hj e => ?_, fun i hi => ⟨i, hi, rfl⟩⟩, ?_⟩
  · obtain ⟨e, h1, rfl⟩ := xw_get' hk
    obtain ⟨i, h2, h3⟩ := xSub_at hs h1
    have h4 := w3 i _ (xw_get (cA := cA) (ad := ad) h3)
    rw [hU]
    rw [xe_comp] at h4
    have e1 : xad ad P k = ad i := by unfold xad; rw [xp_in hP h2]
    rw [e1]
    exact h4
  · obtain ⟨a, a1, a2, a3⟩ := hin i hi
    obtain ⟨b, b1, b2, b3⟩ := hin j hj
    have hab : a = b := w4.1 a b (by omega) (by omega) (a3.symm.trans (e.trans b3))
    subst hab
    exact (List.getElem?_inj (List.getElem?_eq_some_iff.mp a1).1 hn).mp (a1.trans b1.symm)
  · refine xG.next w6 hW (fun a ha hna => by rw [hU]; exact w5.2.1 a ha hna) (fun q hq => ?_) (fun k hk => ?_)
    · obtain ⟨k, hk, rfl⟩ := hq
      obtain ⟨i, h1, h2, h3⟩ := hin k hk
      rw [h3]
      exact w4.2 i (by omega)
    · show ad (xp P k) = ad k
      have : Nat.ble 1000000 k = true := Nat.ble_eq_true_of_le hk
      unfold xp
      rw [this]
theorem xcall_after {pc : Nat} {ls : Array Slot} {rest st0 : List Value} {a : Array Value} {Qc : XQ} (hrun : va_Run p E.1 e R s m args below meth c H locs cells slots 0 0 (F0 m pc ls st0) rest (xPost D cA (xad ad P) (xA (xad ad P) σc.length) σc.length Qc a) (xA (xad ad P) σc.length))
    (hw : xWd E D cA ad A s n0 σ H locs) (hn : P.Nodup) (hP : P.length < 1000000) (hs : xSub P σ σc)
    (kk : ∀ (r : Option Value) (σ' : XW), σ'.length = σc.length → Qc r σ' → xok r → ∀ (H1 : Heap) (locs1 : List Loc), xWd E D cA ad A s n0 (xmg P P σ' σ) H1 locs1 → W p E.1 e R s m args below meth c H1 locs1 cells slots Z (F0 m (pc + 3) ls (r.toList ++ rest))) :
    W p E.1 e R s m args below meth c H locs cells slots Z (F0 m pc ls st0) := by
  intro T hT X
  obtain ⟨v, st₀, t, T', L, h0, X', hL, e1, e2, ⟨⟨r, σ', hv, ho, hq, hlen, hP1⟩, hz, hk⟩, st⟩ := hrun T hT X
  cases hv
  rw [h0] at hz hk
  obtain ⟨w1, w2, w3, w4, w5, w6⟩ := hw
  have hin : ∀ k, k < σc.length → ∃ i, P[k]? = some i ∧ i < σ.length ∧ xad ad P k = ad i := by
    intro k hk
    obtain ⟨i, h1, h2⟩ := xSub_at hs (List.getElem?_eq_getElem hk)
    exact ⟨i, h1, (List.getElem?_eq_some_iff.mp h2).1, by unfold xad; rw [xp_in hP h1]⟩
  have hAA : ∀ q, xA (xad ad P) σc.length q → A q := by
    rintro q ⟨k, hk, rfl⟩
    obtain ⟨i, h1, h2, h3⟩ := hin k hk
    rw [h3]
    exact w4.2 i (by omega)
  have hS1 : va_S A s.heap t.heap (locs ++ L) := ⟨Nat.le_trans w5.1 hz, fun q h1 h2 => by rw [hk q (Nat.lt_of_lt_of_le h1 w5.1) (fun z => h2 (hAA q z))]; exact w5.2.1 q h1 h2, fun q hq => by
    rcases List.mem_append.mp hq with h | h
    · exact w5.2.2 q h
    · exact hAA _ (hL q h)⟩
  have hW1 : va_P D vwCl (xw cA ad (xmg P P σ' σ)) t.heap := by
    intro k q hkq
    obtain ⟨e, h1, rfl⟩ := xw_get' hkq
    by_cases hmem : k ∈ P
    · obtain ⟨j, hj⟩ := List.getElem?_of_mem hmem
      have hjl := (xSub_lt hs hj).2
      obtain ⟨e', he'⟩ : ∃ e', σ'[j]? = some e' := ⟨_, List.getElem?_eq_getElem (by omega)⟩
      have h2 := xmg_at P P σ' σ j k hn (fun i hi => by
        obtain ⟨j', hj'⟩ := List.getElem?_of_mem hi
        exact (xSub_lt hs hj').1) hj e' he'
      cases h1.symm.trans h2
      have h3 := hP1 j _ (xw_get (cA := cA) (ad := xad ad P) he')
      rw [xe_comp]
      have e1 : xad ad P j = ad k := by unfold xad; rw [xp_in hP hj]
      rw [e1] at h3
      exact h3
    · rw [xmg_out P P σ' σ k hmem] at h1
      have h3 := w3 k _ (xw_get (cA := cA) (ad := ad) h1)
      refine h3.kept (hk _ h3.lt ?_)
      rintro ⟨k', hk', e'⟩
      obtain ⟨i, g1, g2, g3⟩ := hin k' hk'
      have : k = i := w4.1 k i (by have := (List.getElem?_eq_some_iff.mp h1).1; omega) (by omega) (e'.trans g3)
      subst this
      exact hmem (List.mem_of_getElem? g1)
  obtain ⟨t2, a1, b1⟩ := kk v σ' hlen hq ho T'.heap (locs ++ L) ⟨by rw [xmg_len]; exact w1, w2, by rw [e1]; exact hW1, w4, by rw [e1]; exact hS1, w6⟩ T' rfl X'
  exact ⟨t2, st t2 a1, b1⟩
end XAFT
theorem xpre_blind (E : XEnv) (D : va_G) (cA : Nat → ClassId) (ad : Nat → Nat) (A : Nat → Prop) (σ : XW) (av : List Value) : FrameBlind (va_Pc av (xPre E D cA ad A σ)) := by
  intro a U g mk h
  obtain ⟨h0, h1, h2, h3, h4⟩ := h
  refine ⟨h0, va_K.moved (u := U) (U := U.calling g mk a) (Vm.Alike.refl U.vm) h1, h2, h3, ?_⟩
  obtain ⟨g1, ⟨g2, g3⟩, ⟨g4, g5⟩, ⟨g6, g7⟩, g8, g9, g10, g11, g12⟩ := h4
  have hv : U.vm.Alike (U.calling g mk a).vm := Vm.Alike.refl U.vm
  exact ⟨fun q hq => va_Nw.same rfl (rfl : U.vm = (U.calling g mk a).vm) (g1 q hq), ⟨g2.moved hv, g3.moved hv⟩, ⟨g4.moved hv, g5.moved hv⟩, ⟨g6.moved hv, g7.moved hv⟩, vk_R.same rfl g8, g9.moved hv, g10.moved hv, g11.moved hv, g12.moved hv⟩
end
section
-- ===== small readers: what isn't there makes False; lists come out with their places laid =====
def pI (st : List Value) (k : Int32 → List Value → Prop) : Prop := match st with
  | .int x :: r => k x r
  | _ => False
theorem pI_e {st : List Value} {k : Int32 → List Value → Prop} (h : pI st k) : ∃ x r, st = .int x :: r ∧ k x r := by
  unfold pI at h
  split at h
  · exact ⟨_, _, rfl, h⟩
  · exact h.elim
def pJ (st : List Value) (k : Int64 → List Value → Prop) : Prop := match st with
  | .long x :: r => k x r
  | _ => False
theorem pJ_e {st : List Value} {k : Int64 → List Value → Prop} (h : pJ st k) : ∃ x r, st = .long x :: r ∧ k x r := by
  unfold pJ at h
  split at h
  · exact ⟨_, _, rfl, h⟩
  · exact h.elim
def pR (st : List Value) (k : Nat → List Value → Prop) : Prop := match st with
  | .ref x :: r => k x r
  | _ => False
theorem pR_e {st : List Value} {k : Nat → List Value → Prop} (h : pR st k) : ∃ x r, st = .ref x :: r ∧ k x r := by
  unfold pR at h
  split at h
  · exact ⟨_, _, rfl, h⟩
  · exact h.elim
def gL : XL → Nat → (Value → Prop) → Prop
  | [], _, _ => False
  | (j, v) :: r, i, k => match Nat.beq j i with
    | true => k v
    | false => gL r i k
theorem gL_e : ∀ {lv : XL} {i : Nat} {k : Value → Prop}, gL lv i k → ∃ v, (i, v) ∈ lv ∧ k v
  | [], _, _, h => h.elim
  | (j, v) :: r, i, k, h => by
    unfold gL at h
    cases hb : Nat.beq j i with
    | true =>
      rw [hb] at h
      have : j = i := Nat.eq_of_beq_eq_true hb
      subst this
      exact ⟨v, List.mem_cons_self, h⟩
    | false =>
      rw [hb] at h
      obtain ⟨w, h1, h2⟩ := gL_e h
      exact ⟨w, List.mem_cons_of_mem _ h1, h2⟩
def gI (lv : XL) (i : Nat) (k : Int32 → Prop) : Prop := gL lv i fun v => match v with
  | .int x => k x
  | _ => False
theorem gI_e {lv : XL} {i : Nat} {k : Int32 → Prop} (h : gI lv i k) : ∃ x, (i, Value.int x) ∈ lv ∧ k x := by
  obtain ⟨v, h1, h2⟩ := gL_e h
  cases v <;> first | exact ⟨_, h1, h2⟩ | exact h2.elim
def gJ (lv : XL) (i : Nat) (k : Int64 → Prop) : Prop := gL lv i fun v => match v with
  | .long x => k x
  | _ => False
theorem gJ_e {lv : XL} {i : Nat} {k : Int64 → Prop} (h : gJ lv i k) : ∃ x, (i, Value.long x) ∈ lv ∧ k x := by
  obtain ⟨v, h1, h2⟩ := gL_e h
  cases v <;> first | exact ⟨_, h1, h2⟩ | exact h2.elim
def gR (lv : XL) (i : Nat) (k : Nat → Prop) : Prop := gL lv i fun v => match v with
  | .ref x => k x
  | _ => False
theorem gR_e {lv : XL} {i : Nat} {k : Nat → Prop} (h : gR lv i k) : ∃ x, (i, Value.ref x) ∈ lv ∧ k x := by
  obtain ⟨v, h1, h2⟩ := gL_e h
  cases v <;> first | exact ⟨_, h1, h2⟩ | exact h2.elim
/-- a local that stays when i (wide: and i + 1) is written -/
def sK (i : Nat) (wide : Bool) (q : Nat × Value) : Bool := match Nat.beq q.1 i with
  | true => false
  | false => match and wide (Nat.beq q.1 (i + 1)) with
    | true => false
    | false => match Nat.beq (q.1 + 1) i with
      | false => true
      | true => match q.2 with
        | .long _ => false
        | .double _ => false
        | _ => true
def fL (i : Nat) (wide : Bool) : XL → (XL → Prop) → Prop
  | [], k => k []
  | q :: r, k => match sK i wide q with
    | true => fL i wide r fun r' => k (q :: r')
    | false => fL i wide r k
def iL (i : Nat) (v : Value) : XL → (XL → Prop) → Prop
  | [], k => k [(i, v)]
  | q :: r, k => match Nat.blt q.1 i with
    | true => iL i v r fun r' => k (q :: r')
    | false => k ((i, v) :: q :: r)
def sL (lv : XL) (i : Nat) (v : Value) (wide : Bool) (k : XL → Prop) : Prop := fL i wide lv fun l => iL i v l k
theorem fL_e (i : Nat) (wide : Bool) : ∀ (lv : XL) (k : XL → Prop), fL i wide lv k → k (lv.filter (sK i wide))
  | [], k, h => h
  | q :: r, k, h => by
    unfold fL at h
    cases hb : sK i wide q with
    | true =>
      rw [hb] at h
      rw [List.filter_cons_of_pos hb]
      exact fL_e i wide r _ h
    | false =>
      rw [hb] at h
      rw [List.filter_cons_of_neg (by rw [hb]; exact Bool.false_ne_true)]
      exact fL_e i wide r k h
theorem iL_e (i : Nat) (v : Value) : ∀ (lv : XL) (k : XL → Prop), iL i v lv k → ∃ l', k l' ∧ ∀ q ∈ l', q = (i, v) ∨ q ∈ lv
  | [], k, h => ⟨_, h, fun q hq => Or.inl (List.mem_singleton.mp hq)⟩
  | q :: r, k, h => by
    unfold iL at h
    cases hb : Nat.blt q.1 i with
    | true =>
      rw [hb] at h
      obtain ⟨l', h1, h2⟩ := iL_e i v r _ h
      refine ⟨_, h1, fun z hz => ?_⟩
      rcases List.mem_cons.mp hz with rfl | hz
      · exact Or.inr List.mem_cons_self
      · exact (h2 z hz).imp id (List.mem_cons_of_mem _)
    | false =>
      rw [hb] at h
      exact ⟨_, h, fun z hz => (List.mem_cons.mp hz).imp id id⟩
theorem sL_e {lv : XL} {i : Nat} {v : Value} {wide : Bool} {k : XL → Prop} (h : sL lv i v wide k) : ∃ l', k l' ∧ ∀ q ∈ l', q = (i, v) ∨ q ∈ lv.filter (sK i wide) := iL_e i v _ _ (fL_e i wide lv _ h)
theorem sK_n {i : Nat} {q : Nat × Value} (h : sK i false q = true) : (!(q.1 == i) && !(q.1 + 1 == i && q.2.category == 2)) = true := by
  obtain ⟨j, v⟩ := q
  unfold sK at h
  simp only [Bool.false_and] at h
  cases h1 : Nat.beq j i with
  | true => rw [h1] at h; cases h
  | false =>
    rw [h1] at h
    have n1 : ¬ j = i := fun z => by rw [z, Nat.beq_refl] at h1; cases h1
    cases h2 : Nat.beq (j + 1) i with
    | false =>
      have n2 : ¬ j + 1 = i := fun z => by rw [z, Nat.beq_refl] at h2; cases h2
      simp [n1, n2]
    | true =>
      rw [h2] at h
      cases v <;> first | exact absurd h Bool.false_ne_true | simp [n1, Value.category]
theorem sK_w {i : Nat} {q : Nat × Value} (h : sK i true q = true) : (!(q.1 == i) && (!(q.1 == i + 1) && !(q.1 + 1 == i && q.2.category == 2))) = true := by
  obtain ⟨j, v⟩ := q
  unfold sK at h
  simp only [Bool.true_and] at h
  cases h1 : Nat.beq j i with
  | true => rw [h1] at h; cases h
  | false =>
    rw [h1] at h
    have n1 : ¬ j = i := fun z => by rw [z, Nat.beq_refl] at h1; cases h1
    cases h3 : Nat.beq j (i + 1) with
    | true => rw [h3] at h; cases h
    | false =>
      rw [h3] at h
      have n3 : ¬ j = i + 1 := fun z => by rw [z, Nat.beq_refl] at h3; cases h3
      cases h2 : Nat.beq (j + 1) i with
      | false =>
        have n2 : ¬ j + 1 = i := fun z => by rw [z, Nat.beq_refl] at h2; cases h2
        simp [n1, n2, n3]
      | true =>
        rw [h2] at h
        cases v <;> first | exact absurd h Bool.false_ne_true | simp [n1, n3, Value.category]
theorem xl_sub {ls : Array Slot} {nL : Nat} {ad : Nat → Nat} {lv lv' : XL} {i : Nat} {v : Value} {f : Nat × Value → Bool} {wide : Bool} (hf : ∀ q : Nat × Value, sK i wide q = true → f (q.1, xv ad q.2) = true) (h : lv_has ls nL ((i, xv ad v) :: (xl ad lv).filter f)) (hq : ∀ q ∈ lv', q = (i, v) ∨ q ∈ lv.filter (sK i wide)) : lv_has ls nL (xl ad lv') := by
  refine ⟨h.1, h.2.1, fun q hq0 => ?_⟩
  obtain ⟨z, h1, rfl⟩ := List.mem_map.mp hq0
  rcases hq z h1 with rfl | h2
  · exact h.2.2 _ List.mem_cons_self
  · obtain ⟨h3, h4⟩ := List.mem_filter.mp h2
    exact h.2.2 (z.1, xv ad z.2) (List.mem_cons_of_mem _ (List.mem_filter.mpr ⟨List.mem_map.mpr ⟨z, h3, rfl⟩, hf z h4⟩))
theorem xl_mem {ls : Array Slot} {nL : Nat} {ad : Nat → Nat} {lv : XL} {i : Nat} {v : Value} (h : lv_has ls nL (xl ad lv)) (hm : (i, v) ∈ lv) : ls[i]? = some (.val (xv ad v)) := h.2.2 (i, xv ad v) (List.mem_map.mpr ⟨(i, v), hm, rfl⟩)
def nth {α : Type} : List α → Nat → (α → Prop) → Prop
  | [], _, _ => False
  | a :: _, 0, k => k a
  | _ :: r, n + 1, k => nth r n k
theorem nth_e {α : Type} : ∀ {l : List α} {n : Nat} {k : α → Prop}, nth l n k → ∃ a, l[n]? = some a ∧ k a
  | [], _, _, h => h.elim
  | a :: _, 0, _, h => ⟨a, rfl, h⟩
  | _ :: r, n + 1, _, h => nth_e (l := r) (n := n) h
def stW {α : Type} : List α → Nat → α → (List α → Prop) → Prop
  | [], _, _, k => k []
  | _ :: r, 0, b, k => k (b :: r)
  | a :: r, n + 1, b, k => stW r n b fun r' => k (a :: r')
theorem stW_e {α : Type} : ∀ {l : List α} {n : Nat} {b : α} {k : List α → Prop}, stW l n b k → k (l.set n b)
  | [], _, _, _, h => h
  | _ :: _, 0, _, _, h => h
  | _ :: r, n + 1, _, _, h => stW_e (l := r) (n := n) h
def hO (σ : XW) (q ci : Nat) (k : List Value → Prop) : Prop := nth σ q fun e => match e with
  | .inr (c, fs) => match Nat.beq c ci with
    | true => k fs
    | false => False
  | .inl _ => False
theorem hO_e {σ : XW} {q ci : Nat} {k : List Value → Prop} (h : hO σ q ci k) : ∃ fs, σ[q]? = some (.inr (ci, fs)) ∧ k fs := by
  obtain ⟨e, h1, h2⟩ := nth_e h
  match e, h1, h2 with
  | .inr (c, fs), h1, h2 =>
    dsimp only at h2
    cases hb : Nat.beq c ci with
    | true =>
      rw [hb] at h2
      rw [Nat.eq_of_beq_eq_true hb] at h1
      exact ⟨fs, h1, h2⟩
    | false => rw [hb] at h2; exact h2.elim
  | .inl _, _, h2 => exact h2.elim
def hA (σ : XW) (q t : Nat) (k : Nat → (Nat → Int32) → Prop) : Prop := nth σ q fun e => match e with
  | .inl (t', n, .inl f) => match Nat.beq t' t with
    | true => k n f
    | false => False
  | _ => False
theorem hA_e {σ : XW} {q t : Nat} {k : Nat → (Nat → Int32) → Prop} (h : hA σ q t k) : ∃ n f, σ[q]? = some (.inl (t, n, .inl f)) ∧ k n f := by
  obtain ⟨e, h1, h2⟩ := nth_e h
  split at h2
  next t' n f =>
    cases hb : Nat.beq t' t with
    | true =>
      rw [hb] at h2
      rw [Nat.eq_of_beq_eq_true hb] at h1
      exact ⟨n, f, h1, h2⟩
    | false => rw [hb] at h2; exact h2.elim
  next => exact h2.elim
def hQ (σ : XW) (q t : Nat) (k : Nat → (Nat → Option Nat) → Prop) : Prop := nth σ q fun e => match e with
  | .inl (t', n, .inr (.inr (.inr (.inr f)))) => match Nat.beq t' t with
    | true => k n f
    | false => False
  | _ => False
theorem hQ_e {σ : XW} {q t : Nat} {k : Nat → (Nat → Option Nat) → Prop} (h : hQ σ q t k) : ∃ n f, σ[q]? = some (.inl (t, n, .inr (.inr (.inr (.inr f))))) ∧ k n f := by
  obtain ⟨e, h1, h2⟩ := nth_e h
  split at h2
  next t' n f =>
    cases hb : Nat.beq t' t with
    | true =>
      rw [hb] at h2
      rw [Nat.eq_of_beq_eq_true hb] at h1
      exact ⟨n, f, h1, h2⟩
    | false => rw [hb] at h2; exact h2.elim
  next => exact h2.elim
def pN : Nat → List Value → List Value → (List Value → List Value → Prop) → Prop
  | 0, acc, st, k => k acc st
  | n + 1, acc, v :: st, k => pN n (v :: acc) st k
  | _ + 1, _, [], _ => False
theorem pN_e : ∀ {n : Nat} {acc st : List Value} {k : List Value → List Value → Prop}, pN n acc st k → ∃ as r, st = as.reverse ++ r ∧ as.length = n ∧ k (as ++ acc) r
  | 0, acc, st, k, h => ⟨[], st, rfl, rfl, h⟩
  | n + 1, acc, v :: st, k, h => by
    obtain ⟨as, r, h1, h2, h3⟩ := pN_e (n := n) h
    exact ⟨as ++ [v], r, by simp [h1], by simp [h2], by simpa using h3⟩
  | _ + 1, _, [], _, h => h.elim
def wsum : List Value → Nat
  | [] => 0
  | .long _ :: r => wsum r + 2
  | .double _ :: r => wsum r + 2
  | _ :: r => wsum r + 1
theorem wsum_e (ad : Nat → Nat) : ∀ st : List Value, ((st.map (xv ad)).map fun v => v.category).sum = wsum st
  | [] => rfl
  | v :: r => by
    have ih := wsum_e ad r
    cases v <;> simp_all [wsum, xv, Value.category, Nat.add_comm]
def smal (st : List Value) : Bool := Nat.ble (wsum st) 8
theorem smal_e {ad : Nat → Nat} {st : List Value} (h : smal st = true) : ((st.map (xv ad)).map fun v => v.category).sum ≤ 8 := by
  rw [wsum_e]
  exact Nat.le_of_ble_eq_true h
def xpush (r : Option Value) (st : List Value) : List Value := match r with
  | some v => v :: st
  | none => st
theorem xpush_e (ad : Nat → Nat) {r : Option Value} (h : xok r) (st : List Value) : (xpush r st).map (xv ad) = r.toList ++ st.map (xv ad) := by
  match r, h with
  | none, _ => rfl
  | some (.int _), _ => rfl
  | some (.long _), _ => rfl
  | some (.float _), _ => rfl
  | some (.double _), _ => rfl
  | some .null, _ => rfl
  | some (.retAddr _), _ => rfl
-- ===== the machine keeps an operation =====
def XSnd (own : String) (cc : ByteArray) (nL : Nat) (rt : Option FieldType) (mL : Nat) (pc : Nat) (op : XOp) : Prop :=
  ∀ (E : XEnv) (Lv n0 : Nat) (Q : XQ) (X : XK), mL ≤ Lv → (∀ pc' lv st σ, X pc' lv st σ → XAt E own cc nL rt Lv n0 Q pc' lv st σ) → ∀ (lv : XL) (st : List Value) (σ : XW), op E Lv Q X lv st σ → XAt E own cc nL rt Lv n0 Q pc lv st σ
section XSOUND
variable {own : String} {cc : ByteArray} {nL : Nat} {rt : Option FieldType} {mL pc : Nat}
def xo_ic (v : Int32) (nx : Nat) : XOp := fun E Lv Q X lv st σ => X nx lv (.int v :: st) σ
theorem xs_iconst {n : Int} {v : Int32} (hdg : decode cc pc = .ok (.iconst n, 1)) (hv : Int32.ofInt n = v) : XSnd own cc nL rt mL pc (xo_ic v (pc + 1)) := by
  intro E Lv n0 Q X hLv hX lv st σ h
  intro p e R s m args below meth c H locs cells slots Z D cA ad A ls hC hR hl hw hE
  exact lv_iconst hC.1 hC.2.1 hdg hv (hX _ _ _ _ h p e R s m args below meth c H locs cells slots Z D cA ad A ls hC hR hl hw hE)
theorem xs_bipush {n : Int} {v : Int32} (hdg : decode cc pc = .ok (.bipush n, 2)) (hv : (Int8.ofInt n).toInt32 = v) : XSnd own cc nL rt mL pc (xo_ic v (pc + 2)) := by
  intro E Lv n0 Q X hLv hX lv st σ h
  intro p e R s m args below meth c H locs cells slots Z D cA ad A ls hC hR hl hw hE
  exact lv_bipush hC.1 hC.2.1 hdg hv (hX _ _ _ _ h p e R s m args below meth c H locs cells slots Z D cA ad A ls hC hR hl hw hE)
theorem xs_sipush {n : Int} {v : Int32} (hdg : decode cc pc = .ok (.sipush n, 3)) (hv : (Int16.ofInt n).toInt32 = v) : XSnd own cc nL rt mL pc (xo_ic v (pc + 3)) := by
  intro E Lv n0 Q X hLv hX lv st σ h
  intro p e R s m args below meth c H locs cells slots Z D cA ad A ls hC hR hl hw hE
  exact lv_sipush hC.1 hC.2.1 hdg hv (hX _ _ _ _ h p e R s m args below meth c H locs cells slots Z D cA ad A ls hC hR hl hw hE)
theorem xs_ldc_w {index : Nat} {v : Int32} (hc : Cond.constant own index v ∈ gTs) (hdg : decode cc pc = .ok (.ldc_w index, 3)) : XSnd own cc nL rt mL pc (xo_ic v (pc + 3)) := by
  intro E Lv n0 Q X hLv hX lv st σ h
  intro p e R s m args below meth c H locs cells slots Z D cA ad A ls hC hR hl hw hE
  exact lv_ldcw hC.1 hC.2.1 hC.2.2.2.1 (hC.2.2.2.2 _ hc) hdg (hX _ _ _ _ h p e R s m args below meth c H locs cells slots Z D cA ad A ls hC hR hl hw hE)
theorem xs_ldc {index : Nat} {v : Int32} (hc : Cond.constant own index v ∈ gTs) (hdg : decode cc pc = .ok (.ldc index, 2)) : XSnd own cc nL rt mL pc (xo_ic v (pc + 2)) := by
  intro E Lv n0 Q X hLv hX lv st σ h
  intro p e R s m args below meth c H locs cells slots Z D cA ad A ls hC hR hl hw hE
  exact lv_ldc hC.1 hC.2.1 hC.2.2.2.1 (hC.2.2.2.2 _ hc) hdg (hX _ _ _ _ h p e R s m args below meth c H locs cells slots Z D cA ad A ls hC hR hl hw hE)
def xo_lc (v : Int64) (nx : Nat) : XOp := fun E Lv Q X lv st σ => X nx lv (.long v :: st) σ
theorem xs_lconst {n : Fin 2} {v : Int64} (hdg : decode cc pc = .ok (.lconst n, 1)) (hv : Int64.ofNat (n : Nat) = v) : XSnd own cc nL rt mL pc (xo_lc v (pc + 1)) := by
  intro E Lv n0 Q X hLv hX lv st σ h
  intro p e R s m args below meth c H locs cells slots Z D cA ad A ls hC hR hl hw hE
  exact lv_lconst hC.1 hC.2.1 hdg hv (hX _ _ _ _ h p e R s m args below meth c H locs cells slots Z D cA ad A ls hC hR hl hw hE)
theorem xs_ldc2 {index : Nat} {v : Int64} (hc : Cond.constantLong own index v ∈ gTs) (hdg : decode cc pc = .ok (.ldc2_w index, 3)) : XSnd own cc nL rt mL pc (xo_lc v (pc + 3)) := by
  intro E Lv n0 Q X hLv hX lv st σ h
  intro p e R s m args below meth c H locs cells slots Z D cA ad A ls hC hR hl hw hE
  exact lv_ldc2 hC.1 hC.2.1 hC.2.2.2.1 (hC.2.2.2.2 _ hc) hdg (hX _ _ _ _ h p e R s m args below meth c H locs cells slots Z D cA ad A ls hC hR hl hw hE)
def xo_il (i : Nat) (nx : Nat) : XOp := fun E Lv Q X lv st σ => gI lv i fun x => X nx lv (.int x :: st) σ
theorem xs_iload_n {k : Fin 4} {i : Nat} (hdg : decode cc pc = .ok (.iload_n k, 1)) (hi : (k : Nat) = i) : XSnd own cc nL rt mL pc (xo_il i (pc + 1)) := by
  intro E Lv n0 Q X hLv hX lv st σ h
  obtain ⟨x, hm, h1⟩ := gI_e h
  intro p e R s m args below meth c H locs cells slots Z D cA ad A ls hC hR hl hw hE
  exact lv_iload_n hC.1 hC.2.1 hdg hi (xl_mem hl hm) (hX _ _ _ _ h1 p e R s m args below meth c H locs cells slots Z D cA ad A ls hC hR hl hw hE)
theorem xs_iload {i : Nat} (hdg : decode cc pc = .ok (.iload i, 2)) : XSnd own cc nL rt mL pc (xo_il i (pc + 2)) := by
  intro E Lv n0 Q X hLv hX lv st σ h
  obtain ⟨x, hm, h1⟩ := gI_e h
  intro p e R s m args below meth c H locs cells slots Z D cA ad A ls hC hR hl hw hE
  exact lv_iload hC.1 hC.2.1 hdg (xl_mem hl hm) (hX _ _ _ _ h1 p e R s m args below meth c H locs cells slots Z D cA ad A ls hC hR hl hw hE)
def xo_ll (i : Nat) (nx : Nat) : XOp := fun E Lv Q X lv st σ => gJ lv i fun x => X nx lv (.long x :: st) σ
theorem xs_lload_n {k : Fin 4} {i : Nat} (hdg : decode cc pc = .ok (.lload_n k, 1)) (hi : (k : Nat) = i) : XSnd own cc nL rt mL pc (xo_ll i (pc + 1)) := by
  intro E Lv n0 Q X hLv hX lv st σ h
  obtain ⟨x, hm, h1⟩ := gJ_e h
  intro p e R s m args below meth c H locs cells slots Z D cA ad A ls hC hR hl hw hE
  exact lv_lload_n hC.1 hC.2.1 hdg hi (xl_mem hl hm) (hX _ _ _ _ h1 p e R s m args below meth c H locs cells slots Z D cA ad A ls hC hR hl hw hE)
theorem xs_lload {i : Nat} (hdg : decode cc pc = .ok (.lload i, 2)) : XSnd own cc nL rt mL pc (xo_ll i (pc + 2)) := by
  intro E Lv n0 Q X hLv hX lv st σ h
  obtain ⟨x, hm, h1⟩ := gJ_e h
  intro p e R s m args below meth c H locs cells slots Z D cA ad A ls hC hR hl hw hE
  exact lv_lload hC.1 hC.2.1 hdg (xl_mem hl hm) (hX _ _ _ _ h1 p e R s m args below meth c H locs cells slots Z D cA ad A ls hC hR hl hw hE)
def xo_al (i : Nat) (nx : Nat) : XOp := fun E Lv Q X lv st σ => gR lv i fun x => X nx lv (.ref x :: st) σ
theorem xs_aload_n {k : Fin 4} {i : Nat} (hdg : decode cc pc = .ok (.aload_n k, 1)) (hi : (k : Nat) = i) : XSnd own cc nL rt mL pc (xo_al i (pc + 1)) := by
  intro E Lv n0 Q X hLv hX lv st σ h
  obtain ⟨x, hm, h1⟩ := gR_e h
  intro p e R s m args below meth c H locs cells slots Z D cA ad A ls hC hR hl hw hE
  exact lv_aload_n hC.1 hC.2.1 hdg hi (xl_mem hl hm) (hX _ _ _ _ h1 p e R s m args below meth c H locs cells slots Z D cA ad A ls hC hR hl hw hE)
theorem xs_aload {i : Nat} (hdg : decode cc pc = .ok (.aload i, 2)) : XSnd own cc nL rt mL pc (xo_al i (pc + 2)) := by
  intro E Lv n0 Q X hLv hX lv st σ h
  obtain ⟨x, hm, h1⟩ := gR_e h
  intro p e R s m args below meth c H locs cells slots Z D cA ad A ls hC hR hl hw hE
  exact lv_aload hC.1 hC.2.1 hdg (xl_mem hl hm) (hX _ _ _ _ h1 p e R s m args below meth c H locs cells slots Z D cA ad A ls hC hR hl hw hE)
def xo_is (i : Nat) (nx : Nat) : XOp := fun E Lv Q X lv st σ => pI st fun x st => sL lv i (.int x) false fun lv => X nx lv st σ
theorem xs_istore_n {k : Fin 4} {i : Nat} (hdg : decode cc pc = .ok (.istore_n k, 1)) (hi : (k : Nat) = i) (hn : i < nL) : XSnd own cc nL rt mL pc (xo_is i (pc + 1)) := by
  intro E Lv n0 Q X hLv hX lv st σ h
  obtain ⟨x, st, rfl, h1⟩ := pI_e h
  obtain ⟨lv', h2, hq⟩ := sL_e h1
  intro p e R s m args below meth c H locs cells slots Z D cA ad A ls hC hR hl hw hE
  exact lv_istore_n hC.1 hC.2.1 hdg hi hl hn rfl (fun ls' hl' => (hX _ _ _ _ h2 p e R s m args below meth c H locs cells slots Z D cA ad A ls' hC hR (xl_sub (fun q hq => by have := sK_n hq; rw [xv_cat]; exact this) hl' hq) hw hE))
theorem xs_istore {i : Nat} (hdg : decode cc pc = .ok (.istore i, 2)) (hn : i < nL) : XSnd own cc nL rt mL pc (xo_is i (pc + 2)) := by
  intro E Lv n0 Q X hLv hX lv st σ h
  obtain ⟨x, st, rfl, h1⟩ := pI_e h
  obtain ⟨lv', h2, hq⟩ := sL_e h1
  intro p e R s m args below meth c H locs cells slots Z D cA ad A ls hC hR hl hw hE
  exact lv_istore hC.1 hC.2.1 hdg hl hn rfl (fun ls' hl' => (hX _ _ _ _ h2 p e R s m args below meth c H locs cells slots Z D cA ad A ls' hC hR (xl_sub (fun q hq => by have := sK_n hq; rw [xv_cat]; exact this) hl' hq) hw hE))
def xo_ls (i : Nat) (nx : Nat) : XOp := fun E Lv Q X lv st σ => pJ st fun x st => sL lv i (.long x) true fun lv => X nx lv st σ
theorem xs_lstore {i : Nat} (hdg : decode cc pc = .ok (.lstore i, 2)) (hn : i + 1 < nL) : XSnd own cc nL rt mL pc (xo_ls i (pc + 2)) := by
  intro E Lv n0 Q X hLv hX lv st σ h
  obtain ⟨x, st, rfl, h1⟩ := pJ_e h
  obtain ⟨lv', h2, hq⟩ := sL_e h1
  intro p e R s m args below meth c H locs cells slots Z D cA ad A ls hC hR hl hw hE
  exact lv_lstore hC.1 hC.2.1 hdg hl hn rfl (fun ls' hl' => (hX _ _ _ _ h2 p e R s m args below meth c H locs cells slots Z D cA ad A ls' hC hR (xl_sub (fun q hq => by have := sK_w hq; rw [xv_cat]; exact this) hl' hq) hw hE))
def xo_as (i : Nat) (nx : Nat) : XOp := fun E Lv Q X lv st σ => pR st fun x st => sL lv i (.ref x) false fun lv => X nx lv st σ
theorem xs_astore_n {k : Fin 4} {i : Nat} (hdg : decode cc pc = .ok (.astore_n k, 1)) (hi : (k : Nat) = i) (hn : i < nL) : XSnd own cc nL rt mL pc (xo_as i (pc + 1)) := by
  intro E Lv n0 Q X hLv hX lv st σ h
  obtain ⟨x, st, rfl, h1⟩ := pR_e h
  obtain ⟨lv', h2, hq⟩ := sL_e h1
  intro p e R s m args below meth c H locs cells slots Z D cA ad A ls hC hR hl hw hE
  exact lv_astore_n hC.1 hC.2.1 hdg hi hl hn rfl (fun ls' hl' => (hX _ _ _ _ h2 p e R s m args below meth c H locs cells slots Z D cA ad A ls' hC hR (xl_sub (fun q hq => by have := sK_n hq; rw [xv_cat]; exact this) hl' hq) hw hE))
theorem xs_astore {i : Nat} (hdg : decode cc pc = .ok (.astore i, 2)) (hn : i < nL) : XSnd own cc nL rt mL pc (xo_as i (pc + 2)) := by
  intro E Lv n0 Q X hLv hX lv st σ h
  obtain ⟨x, st, rfl, h1⟩ := pR_e h
  obtain ⟨lv', h2, hq⟩ := sL_e h1
  intro p e R s m args below meth c H locs cells slots Z D cA ad A ls hC hR hl hw hE
  exact lv_astore hC.1 hC.2.1 hdg hl hn rfl (fun ls' hl' => (hX _ _ _ _ h2 p e R s m args below meth c H locs cells slots Z D cA ad A ls' hC hR (xl_sub (fun q hq => by have := sK_n hq; rw [xv_cat]; exact this) hl' hq) hw hE))
def xo_inc (i : Nat) (v : Int32) (nx : Nat) : XOp := fun E Lv Q X lv st σ => gI lv i fun x => sL lv i (.int (x + v)) false fun lv => X nx lv st σ
theorem xs_iinc {i : Nat} {n : Int} {v : Int32} (hdg : decode cc pc = .ok (.iinc i n, 3)) (hv : Int32.ofInt n = v) (hn : i < nL) : XSnd own cc nL rt mL pc (xo_inc i v (pc + 3)) := by
  intro E Lv n0 Q X hLv hX lv st σ h
  obtain ⟨x, hm, h1⟩ := gI_e h
  obtain ⟨lv', h2, hq⟩ := sL_e h1
  intro p e R s m args below meth c H locs cells slots Z D cA ad A ls hC hR hl hw hE
  obtain ⟨k, hk⟩ := List.getElem?_of_mem (show (i, Value.int x) ∈ xl ad lv from List.mem_map.mpr ⟨_, hm, rfl⟩)
  exact lv_iinc hC.1 hC.2.1 hdg hl hk (by rw [hv]) hn rfl (fun ls' hl' => (hX _ _ _ _ h2 p e R s m args below meth c H locs cells slots Z D cA ad A ls' hC hR (xl_sub (fun q hq => by have := sK_n hq; rw [xv_cat]; exact this) hl' hq) hw hE))
def xo_iadd (nx : Nat) : XOp := fun E Lv Q X lv st σ => pI st fun y st => pI st fun x st => X nx lv (.int (x + y) :: st) σ
theorem xs_iadd (hdg : decode cc pc = .ok (.iadd, 1)) : XSnd own cc nL rt mL pc (xo_iadd (pc + 1)) := by
  intro E Lv n0 Q X hLv hX lv st σ h
  obtain ⟨y, st, rfl, h1⟩ := pI_e h
  obtain ⟨x, st, rfl, h2⟩ := pI_e h1
  intro p e R s m args below meth c H locs cells slots Z D cA ad A ls hC hR hl hw hE
  exact lv_iadd hC.1 hC.2.1 hdg (hX _ _ _ _ h2 p e R s m args below meth c H locs cells slots Z D cA ad A ls hC hR hl hw hE)
def xo_isub (nx : Nat) : XOp := fun E Lv Q X lv st σ => pI st fun y st => pI st fun x st => X nx lv (.int (x - y) :: st) σ
theorem xs_isub (hdg : decode cc pc = .ok (.isub, 1)) : XSnd own cc nL rt mL pc (xo_isub (pc + 1)) := by
  intro E Lv n0 Q X hLv hX lv st σ h
  obtain ⟨y, st, rfl, h1⟩ := pI_e h
  obtain ⟨x, st, rfl, h2⟩ := pI_e h1
  intro p e R s m args below meth c H locs cells slots Z D cA ad A ls hC hR hl hw hE
  exact lv_isub hC.1 hC.2.1 hdg (hX _ _ _ _ h2 p e R s m args below meth c H locs cells slots Z D cA ad A ls hC hR hl hw hE)
def xo_imul (nx : Nat) : XOp := fun E Lv Q X lv st σ => pI st fun y st => pI st fun x st => X nx lv (.int (x * y) :: st) σ
theorem xs_imul (hdg : decode cc pc = .ok (.imul, 1)) : XSnd own cc nL rt mL pc (xo_imul (pc + 1)) := by
  intro E Lv n0 Q X hLv hX lv st σ h
  obtain ⟨y, st, rfl, h1⟩ := pI_e h
  obtain ⟨x, st, rfl, h2⟩ := pI_e h1
  intro p e R s m args below meth c H locs cells slots Z D cA ad A ls hC hR hl hw hE
  exact lv_imul hC.1 hC.2.1 hdg (hX _ _ _ _ h2 p e R s m args below meth c H locs cells slots Z D cA ad A ls hC hR hl hw hE)
def xo_iand (nx : Nat) : XOp := fun E Lv Q X lv st σ => pI st fun y st => pI st fun x st => X nx lv (.int (x &&& y) :: st) σ
theorem xs_iand (hdg : decode cc pc = .ok (.iand, 1)) : XSnd own cc nL rt mL pc (xo_iand (pc + 1)) := by
  intro E Lv n0 Q X hLv hX lv st σ h
  obtain ⟨y, st, rfl, h1⟩ := pI_e h
  obtain ⟨x, st, rfl, h2⟩ := pI_e h1
  intro p e R s m args below meth c H locs cells slots Z D cA ad A ls hC hR hl hw hE
  exact lv_iand hC.1 hC.2.1 hdg (hX _ _ _ _ h2 p e R s m args below meth c H locs cells slots Z D cA ad A ls hC hR hl hw hE)
def xo_ior (nx : Nat) : XOp := fun E Lv Q X lv st σ => pI st fun y st => pI st fun x st => X nx lv (.int (x ||| y) :: st) σ
theorem xs_ior (hdg : decode cc pc = .ok (.ior, 1)) : XSnd own cc nL rt mL pc (xo_ior (pc + 1)) := by
  intro E Lv n0 Q X hLv hX lv st σ h
  obtain ⟨y, st, rfl, h1⟩ := pI_e h
  obtain ⟨x, st, rfl, h2⟩ := pI_e h1
  intro p e R s m args below meth c H locs cells slots Z D cA ad A ls hC hR hl hw hE
  exact lv_ior hC.1 hC.2.1 hdg (hX _ _ _ _ h2 p e R s m args below meth c H locs cells slots Z D cA ad A ls hC hR hl hw hE)
def xo_ixor (nx : Nat) : XOp := fun E Lv Q X lv st σ => pI st fun y st => pI st fun x st => X nx lv (.int (x ^^^ y) :: st) σ
theorem xs_ixor (hdg : decode cc pc = .ok (.ixor, 1)) : XSnd own cc nL rt mL pc (xo_ixor (pc + 1)) := by
  intro E Lv n0 Q X hLv hX lv st σ h
  obtain ⟨y, st, rfl, h1⟩ := pI_e h
  obtain ⟨x, st, rfl, h2⟩ := pI_e h1
  intro p e R s m args below meth c H locs cells slots Z D cA ad A ls hC hR hl hw hE
  exact lv_ixor hC.1 hC.2.1 hdg (hX _ _ _ _ h2 p e R s m args below meth c H locs cells slots Z D cA ad A ls hC hR hl hw hE)
def xo_ishl (nx : Nat) : XOp := fun E Lv Q X lv st σ => pI st fun y st => pI st fun x st => X nx lv (.int (x <<< (y &&& 31)) :: st) σ
theorem xs_ishl (hdg : decode cc pc = .ok (.ishl, 1)) : XSnd own cc nL rt mL pc (xo_ishl (pc + 1)) := by
  intro E Lv n0 Q X hLv hX lv st σ h
  obtain ⟨y, st, rfl, h1⟩ := pI_e h
  obtain ⟨x, st, rfl, h2⟩ := pI_e h1
  intro p e R s m args below meth c H locs cells slots Z D cA ad A ls hC hR hl hw hE
  exact lv_ishl hC.1 hC.2.1 hdg (hX _ _ _ _ h2 p e R s m args below meth c H locs cells slots Z D cA ad A ls hC hR hl hw hE)
def xo_ishr (nx : Nat) : XOp := fun E Lv Q X lv st σ => pI st fun y st => pI st fun x st => X nx lv (.int (x >>> (y &&& 31)) :: st) σ
theorem xs_ishr (hdg : decode cc pc = .ok (.ishr, 1)) : XSnd own cc nL rt mL pc (xo_ishr (pc + 1)) := by
  intro E Lv n0 Q X hLv hX lv st σ h
  obtain ⟨y, st, rfl, h1⟩ := pI_e h
  obtain ⟨x, st, rfl, h2⟩ := pI_e h1
  intro p e R s m args below meth c H locs cells slots Z D cA ad A ls hC hR hl hw hE
  exact lv_ishr hC.1 hC.2.1 hdg (hX _ _ _ _ h2 p e R s m args below meth c H locs cells slots Z D cA ad A ls hC hR hl hw hE)
def xo_idiv (nx : Nat) : XOp := fun E Lv Q X lv st σ => pI st fun y st => pI st fun x st => ¬ y = 0 ∧ X nx lv (.int (x / y) :: st) σ
theorem xs_idiv (hdg : decode cc pc = .ok (.idiv, 1)) : XSnd own cc nL rt mL pc (xo_idiv (pc + 1)) := by
  intro E Lv n0 Q X hLv hX lv st σ h
  obtain ⟨y, st, rfl, h1⟩ := pI_e h
  obtain ⟨x, st, rfl, h2⟩ := pI_e h1
  obtain ⟨hne, h3⟩ := h2
  intro p e R s m args below meth c H locs cells slots Z D cA ad A ls hC hR hl hw hE
  exact lv_idiv hC.1 hC.2.1 hdg hne (hX _ _ _ _ h3 p e R s m args below meth c H locs cells slots Z D cA ad A ls hC hR hl hw hE)
def xo_irem (nx : Nat) : XOp := fun E Lv Q X lv st σ => pI st fun y st => pI st fun x st => ¬ y = 0 ∧ X nx lv (.int (x - x / y * y) :: st) σ
theorem xs_irem (hdg : decode cc pc = .ok (.irem, 1)) : XSnd own cc nL rt mL pc (xo_irem (pc + 1)) := by
  intro E Lv n0 Q X hLv hX lv st σ h
  obtain ⟨y, st, rfl, h1⟩ := pI_e h
  obtain ⟨x, st, rfl, h2⟩ := pI_e h1
  obtain ⟨hne, h3⟩ := h2
  intro p e R s m args below meth c H locs cells slots Z D cA ad A ls hC hR hl hw hE
  exact lv_irem hC.1 hC.2.1 hdg hne (hX _ _ _ _ h3 p e R s m args below meth c H locs cells slots Z D cA ad A ls hC hR hl hw hE)
def xo_ladd (nx : Nat) : XOp := fun E Lv Q X lv st σ => pJ st fun y st => pJ st fun x st => X nx lv (.long (x + y) :: st) σ
theorem xs_ladd (hdg : decode cc pc = .ok (.ladd, 1)) : XSnd own cc nL rt mL pc (xo_ladd (pc + 1)) := by
  intro E Lv n0 Q X hLv hX lv st σ h
  obtain ⟨y, st, rfl, h1⟩ := pJ_e h
  obtain ⟨x, st, rfl, h2⟩ := pJ_e h1
  intro p e R s m args below meth c H locs cells slots Z D cA ad A ls hC hR hl hw hE
  exact lv_ladd hC.1 hC.2.1 hdg (hX _ _ _ _ h2 p e R s m args below meth c H locs cells slots Z D cA ad A ls hC hR hl hw hE)
def xo_lsub (nx : Nat) : XOp := fun E Lv Q X lv st σ => pJ st fun y st => pJ st fun x st => X nx lv (.long (x - y) :: st) σ
theorem xs_lsub (hdg : decode cc pc = .ok (.lsub, 1)) : XSnd own cc nL rt mL pc (xo_lsub (pc + 1)) := by
  intro E Lv n0 Q X hLv hX lv st σ h
  obtain ⟨y, st, rfl, h1⟩ := pJ_e h
  obtain ⟨x, st, rfl, h2⟩ := pJ_e h1
  intro p e R s m args below meth c H locs cells slots Z D cA ad A ls hC hR hl hw hE
  exact lv_lsub hC.1 hC.2.1 hdg (hX _ _ _ _ h2 p e R s m args below meth c H locs cells slots Z D cA ad A ls hC hR hl hw hE)
def xo_lmul (nx : Nat) : XOp := fun E Lv Q X lv st σ => pJ st fun y st => pJ st fun x st => X nx lv (.long (x * y) :: st) σ
theorem xs_lmul (hdg : decode cc pc = .ok (.lmul, 1)) : XSnd own cc nL rt mL pc (xo_lmul (pc + 1)) := by
  intro E Lv n0 Q X hLv hX lv st σ h
  obtain ⟨y, st, rfl, h1⟩ := pJ_e h
  obtain ⟨x, st, rfl, h2⟩ := pJ_e h1
  intro p e R s m args below meth c H locs cells slots Z D cA ad A ls hC hR hl hw hE
  exact lv_lmul hC.1 hC.2.1 hdg (hX _ _ _ _ h2 p e R s m args below meth c H locs cells slots Z D cA ad A ls hC hR hl hw hE)
def xo_ldiv (nx : Nat) : XOp := fun E Lv Q X lv st σ => pJ st fun y st => pJ st fun x st => ¬ y = 0 ∧ X nx lv (.long (x / y) :: st) σ
theorem xs_ldiv (hdg : decode cc pc = .ok (.ldiv, 1)) : XSnd own cc nL rt mL pc (xo_ldiv (pc + 1)) := by
  intro E Lv n0 Q X hLv hX lv st σ h
  obtain ⟨y, st, rfl, h1⟩ := pJ_e h
  obtain ⟨x, st, rfl, h2⟩ := pJ_e h1
  obtain ⟨hne, h3⟩ := h2
  intro p e R s m args below meth c H locs cells slots Z D cA ad A ls hC hR hl hw hE
  exact lv_ldiv hC.1 hC.2.1 hdg hne (hX _ _ _ _ h3 p e R s m args below meth c H locs cells slots Z D cA ad A ls hC hR hl hw hE)
def xo_lcmp (nx : Nat) : XOp := fun E Lv Q X lv st σ => pJ st fun y st => pJ st fun x st => X nx lv (.int (lg_cmp x y) :: st) σ
theorem xs_lcmp (hdg : decode cc pc = .ok (.lcmp, 1)) : XSnd own cc nL rt mL pc (xo_lcmp (pc + 1)) := by
  intro E Lv n0 Q X hLv hX lv st σ h
  obtain ⟨y, st, rfl, h1⟩ := pJ_e h
  obtain ⟨x, st, rfl, h2⟩ := pJ_e h1
  intro p e R s m args below meth c H locs cells slots Z D cA ad A ls hC hR hl hw hE
  exact W.lcmp hC.1 hC.2.1 hdg (hX _ _ _ _ h2 p e R s m args below meth c H locs cells slots Z D cA ad A ls hC hR hl hw hE)
def xo_ineg (nx : Nat) : XOp := fun E Lv Q X lv st σ => pI st fun x st => X nx lv (.int (-x) :: st) σ
theorem xs_ineg (hdg : decode cc pc = .ok (.ineg, 1)) : XSnd own cc nL rt mL pc (xo_ineg (pc + 1)) := by
  intro E Lv n0 Q X hLv hX lv st σ h
  obtain ⟨x, st, rfl, h1⟩ := pI_e h
  intro p e R s m args below meth c H locs cells slots Z D cA ad A ls hC hR hl hw hE
  exact lv_ineg hC.1 hC.2.1 hdg (hX _ _ _ _ h1 p e R s m args below meth c H locs cells slots Z D cA ad A ls hC hR hl hw hE)
def xo_i2l (nx : Nat) : XOp := fun E Lv Q X lv st σ => pI st fun x st => X nx lv (.long x.toInt64 :: st) σ
theorem xs_i2l (hdg : decode cc pc = .ok (.i2l, 1)) : XSnd own cc nL rt mL pc (xo_i2l (pc + 1)) := by
  intro E Lv n0 Q X hLv hX lv st σ h
  obtain ⟨x, st, rfl, h1⟩ := pI_e h
  intro p e R s m args below meth c H locs cells slots Z D cA ad A ls hC hR hl hw hE
  exact lv_i2l hC.1 hC.2.1 hdg rfl (hX _ _ _ _ h1 p e R s m args below meth c H locs cells slots Z D cA ad A ls hC hR hl hw hE)
def xo_l2i (nx : Nat) : XOp := fun E Lv Q X lv st σ => pJ st fun x st => X nx lv (.int x.toInt32 :: st) σ
theorem xs_l2i (hdg : decode cc pc = .ok (.l2i, 1)) : XSnd own cc nL rt mL pc (xo_l2i (pc + 1)) := by
  intro E Lv n0 Q X hLv hX lv st σ h
  obtain ⟨x, st, rfl, h1⟩ := pJ_e h
  intro p e R s m args below meth c H locs cells slots Z D cA ad A ls hC hR hl hw hE
  exact lv_l2i hC.1 hC.2.1 hdg rfl (hX _ _ _ _ h1 p e R s m args below meth c H locs cells slots Z D cA ad A ls hC hR hl hw hE)
def xo_i2b (nx : Nat) : XOp := fun E Lv Q X lv st σ => pI st fun x st => X nx lv (.int x.toInt8.toInt32 :: st) σ
theorem xs_i2b (hdg : decode cc pc = .ok (.i2b, 1)) : XSnd own cc nL rt mL pc (xo_i2b (pc + 1)) := by
  intro E Lv n0 Q X hLv hX lv st σ h
  obtain ⟨x, st, rfl, h1⟩ := pI_e h
  intro p e R s m args below meth c H locs cells slots Z D cA ad A ls hC hR hl hw hE
  exact lv_i2b hC.1 hC.2.1 hdg rfl (hX _ _ _ _ h1 p e R s m args below meth c H locs cells slots Z D cA ad A ls hC hR hl hw hE)
def xo_i2s (nx : Nat) : XOp := fun E Lv Q X lv st σ => pI st fun x st => X nx lv (.int x.toInt16.toInt32 :: st) σ
theorem xs_i2s (hdg : decode cc pc = .ok (.i2s, 1)) : XSnd own cc nL rt mL pc (xo_i2s (pc + 1)) := by
  intro E Lv n0 Q X hLv hX lv st σ h
  obtain ⟨x, st, rfl, h1⟩ := pI_e h
  intro p e R s m args below meth c H locs cells slots Z D cA ad A ls hC hR hl hw hE
  exact lv_i2s hC.1 hC.2.1 hdg rfl (hX _ _ _ _ h1 p e R s m args below meth c H locs cells slots Z D cA ad A ls hC hR hl hw hE)
def xo_iushr (nx : Nat) : XOp := fun E Lv Q X lv st σ => pI st fun y st => pI st fun x st => X nx lv (.int (x.toUInt32 >>> (y.toUInt32 &&& Int32.toUInt32 31)).toInt32 :: st) σ
theorem xs_iushr (hdg : decode cc pc = .ok (.iushr, 1)) : XSnd own cc nL rt mL pc (xo_iushr (pc + 1)) := by
  intro E Lv n0 Q X hLv hX lv st σ h
  obtain ⟨y, st, rfl, h1⟩ := pI_e h
  obtain ⟨x, st, rfl, h2⟩ := pI_e h1
  intro p e R s m args below meth c H locs cells slots Z D cA ad A ls hC hR hl hw hE
  exact lv_iushr hC.1 hC.2.1 hdg rfl (hX _ _ _ _ h2 p e R s m args below meth c H locs cells slots Z D cA ad A ls hC hR hl hw hE)
def xo_lrem (nx : Nat) : XOp := fun E Lv Q X lv st σ => pJ st fun y st => pJ st fun x st => ¬ y = 0 ∧ X nx lv (.long (x - x / y * y) :: st) σ
theorem xs_lrem (hdg : decode cc pc = .ok (.lrem, 1)) : XSnd own cc nL rt mL pc (xo_lrem (pc + 1)) := by
  intro E Lv n0 Q X hLv hX lv st σ h
  obtain ⟨y, st, rfl, h1⟩ := pJ_e h
  obtain ⟨x, st, rfl, h2⟩ := pJ_e h1
  obtain ⟨hne, h3⟩ := h2
  intro p e R s m args below meth c H locs cells slots Z D cA ad A ls hC hR hl hw hE
  exact lv_lrem hC.1 hC.2.1 hdg hne (hX _ _ _ _ h3 p e R s m args below meth c H locs cells slots Z D cA ad A ls hC hR hl hw hE)
def xo_dupR (nx : Nat) : XOp := fun E Lv Q X lv st σ => pR st fun x st => X nx lv (.ref x :: .ref x :: st) σ
theorem xs_dupR (hdg : decode cc pc = .ok (.dup, 1)) : XSnd own cc nL rt mL pc (xo_dupR (pc + 1)) := by
  intro E Lv n0 Q X hLv hX lv st σ h
  obtain ⟨x, st, rfl, h1⟩ := pR_e h
  intro p e R s m args below meth c H locs cells slots Z D cA ad A ls hC hR hl hw hE
  exact lv_dup hC.1 hC.2.1 hdg rfl (hX _ _ _ _ h1 p e R s m args below meth c H locs cells slots Z D cA ad A ls hC hR hl hw hE)
def xo_dupI (nx : Nat) : XOp := fun E Lv Q X lv st σ => pI st fun x st => X nx lv (.int x :: .int x :: st) σ
theorem xs_dupI (hdg : decode cc pc = .ok (.dup, 1)) : XSnd own cc nL rt mL pc (xo_dupI (pc + 1)) := by
  intro E Lv n0 Q X hLv hX lv st σ h
  obtain ⟨x, st, rfl, h1⟩ := pI_e h
  intro p e R s m args below meth c H locs cells slots Z D cA ad A ls hC hR hl hw hE
  exact lv_dup hC.1 hC.2.1 hdg rfl (hX _ _ _ _ h1 p e R s m args below meth c H locs cells slots Z D cA ad A ls hC hR hl hw hE)
def xo_popI (nx : Nat) : XOp := fun E Lv Q X lv st σ => pI st fun x st => X nx lv st σ
theorem xs_popI (hdg : decode cc pc = .ok (.pop, 1)) : XSnd own cc nL rt mL pc (xo_popI (pc + 1)) := by
  intro E Lv n0 Q X hLv hX lv st σ h
  obtain ⟨x, st, rfl, h1⟩ := pI_e h
  intro p e R s m args below meth c H locs cells slots Z D cA ad A ls hC hR hl hw hE
  exact lv_pop hC.1 hC.2.1 hdg rfl (hX _ _ _ _ h1 p e R s m args below meth c H locs cells slots Z D cA ad A ls hC hR hl hw hE)
def xo_if_eq (tg : Nat) (nx : Nat) : XOp := fun E Lv Q X lv st σ => pI st fun x st => (x = 0 → X tg lv st σ) ∧ (¬ x = 0 → X nx lv st σ)
theorem xs_if_eq {off : Int} {tg : Nat} (hdg : decode cc pc = .ok (.ifCond .eq off, 3)) (ht : (pc : Int) + off = (tg : Int)) : XSnd own cc nL rt mL pc (xo_if_eq tg (pc + 3)) := by
  intro E Lv n0 Q X hLv hX lv st σ h
  obtain ⟨x, st, rfl, h1⟩ := pI_e h
  intro p e R s m args below meth c H locs cells slots Z D cA ad A ls hC hR hl hw hE
  exact lv_if_eq hC.1 hC.2.1 hdg ht (fun hc => (hX _ _ _ _ (h1.1 hc) p e R s m args below meth c H locs cells slots Z D cA ad A ls hC hR hl hw hE)) (fun hc => (hX _ _ _ _ (h1.2 hc) p e R s m args below meth c H locs cells slots Z D cA ad A ls hC hR hl hw hE))
def xo_if_ne (tg : Nat) (nx : Nat) : XOp := fun E Lv Q X lv st σ => pI st fun x st => (¬ x = 0 → X tg lv st σ) ∧ (x = 0 → X nx lv st σ)
theorem xs_if_ne {off : Int} {tg : Nat} (hdg : decode cc pc = .ok (.ifCond .ne off, 3)) (ht : (pc : Int) + off = (tg : Int)) : XSnd own cc nL rt mL pc (xo_if_ne tg (pc + 3)) := by
  intro E Lv n0 Q X hLv hX lv st σ h
  obtain ⟨x, st, rfl, h1⟩ := pI_e h
  intro p e R s m args below meth c H locs cells slots Z D cA ad A ls hC hR hl hw hE
  exact lv_if_ne hC.1 hC.2.1 hdg ht (fun hc => (hX _ _ _ _ (h1.1 hc) p e R s m args below meth c H locs cells slots Z D cA ad A ls hC hR hl hw hE)) (fun hc => (hX _ _ _ _ (h1.2 hc) p e R s m args below meth c H locs cells slots Z D cA ad A ls hC hR hl hw hE))
def xo_if_lt (tg : Nat) (nx : Nat) : XOp := fun E Lv Q X lv st σ => pI st fun x st => (x < 0 → X tg lv st σ) ∧ (¬ x < 0 → X nx lv st σ)
theorem xs_if_lt {off : Int} {tg : Nat} (hdg : decode cc pc = .ok (.ifCond .lt off, 3)) (ht : (pc : Int) + off = (tg : Int)) : XSnd own cc nL rt mL pc (xo_if_lt tg (pc + 3)) := by
  intro E Lv n0 Q X hLv hX lv st σ h
  obtain ⟨x, st, rfl, h1⟩ := pI_e h
  intro p e R s m args below meth c H locs cells slots Z D cA ad A ls hC hR hl hw hE
  exact lv_if_lt hC.1 hC.2.1 hdg ht (fun hc => (hX _ _ _ _ (h1.1 hc) p e R s m args below meth c H locs cells slots Z D cA ad A ls hC hR hl hw hE)) (fun hc => (hX _ _ _ _ (h1.2 hc) p e R s m args below meth c H locs cells slots Z D cA ad A ls hC hR hl hw hE))
def xo_if_ge (tg : Nat) (nx : Nat) : XOp := fun E Lv Q X lv st σ => pI st fun x st => (0 ≤ x → X tg lv st σ) ∧ (¬ 0 ≤ x → X nx lv st σ)
theorem xs_if_ge {off : Int} {tg : Nat} (hdg : decode cc pc = .ok (.ifCond .ge off, 3)) (ht : (pc : Int) + off = (tg : Int)) : XSnd own cc nL rt mL pc (xo_if_ge tg (pc + 3)) := by
  intro E Lv n0 Q X hLv hX lv st σ h
  obtain ⟨x, st, rfl, h1⟩ := pI_e h
  intro p e R s m args below meth c H locs cells slots Z D cA ad A ls hC hR hl hw hE
  exact lv_if_ge hC.1 hC.2.1 hdg ht (fun hc => (hX _ _ _ _ (h1.1 hc) p e R s m args below meth c H locs cells slots Z D cA ad A ls hC hR hl hw hE)) (fun hc => (hX _ _ _ _ (h1.2 hc) p e R s m args below meth c H locs cells slots Z D cA ad A ls hC hR hl hw hE))
def xo_if_gt (tg : Nat) (nx : Nat) : XOp := fun E Lv Q X lv st σ => pI st fun x st => (0 < x → X tg lv st σ) ∧ (¬ 0 < x → X nx lv st σ)
theorem xs_if_gt {off : Int} {tg : Nat} (hdg : decode cc pc = .ok (.ifCond .gt off, 3)) (ht : (pc : Int) + off = (tg : Int)) : XSnd own cc nL rt mL pc (xo_if_gt tg (pc + 3)) := by
  intro E Lv n0 Q X hLv hX lv st σ h
  obtain ⟨x, st, rfl, h1⟩ := pI_e h
  intro p e R s m args below meth c H locs cells slots Z D cA ad A ls hC hR hl hw hE
  exact lv_if_gt hC.1 hC.2.1 hdg ht (fun hc => (hX _ _ _ _ (h1.1 hc) p e R s m args below meth c H locs cells slots Z D cA ad A ls hC hR hl hw hE)) (fun hc => (hX _ _ _ _ (h1.2 hc) p e R s m args below meth c H locs cells slots Z D cA ad A ls hC hR hl hw hE))
def xo_if_le (tg : Nat) (nx : Nat) : XOp := fun E Lv Q X lv st σ => pI st fun x st => (x ≤ 0 → X tg lv st σ) ∧ (¬ x ≤ 0 → X nx lv st σ)
theorem xs_if_le {off : Int} {tg : Nat} (hdg : decode cc pc = .ok (.ifCond .le off, 3)) (ht : (pc : Int) + off = (tg : Int)) : XSnd own cc nL rt mL pc (xo_if_le tg (pc + 3)) := by
  intro E Lv n0 Q X hLv hX lv st σ h
  obtain ⟨x, st, rfl, h1⟩ := pI_e h
  intro p e R s m args below meth c H locs cells slots Z D cA ad A ls hC hR hl hw hE
  exact lv_if_le hC.1 hC.2.1 hdg ht (fun hc => (hX _ _ _ _ (h1.1 hc) p e R s m args below meth c H locs cells slots Z D cA ad A ls hC hR hl hw hE)) (fun hc => (hX _ _ _ _ (h1.2 hc) p e R s m args below meth c H locs cells slots Z D cA ad A ls hC hR hl hw hE))
def xo_ic_eq (tg : Nat) (nx : Nat) : XOp := fun E Lv Q X lv st σ => pI st fun y st => pI st fun x st => (x = y → X tg lv st σ) ∧ (¬ x = y → X nx lv st σ)
theorem xs_ic_eq {off : Int} {tg : Nat} (hdg : decode cc pc = .ok (.if_icmp .eq off, 3)) (ht : (pc : Int) + off = (tg : Int)) : XSnd own cc nL rt mL pc (xo_ic_eq tg (pc + 3)) := by
  intro E Lv n0 Q X hLv hX lv st σ h
  obtain ⟨y, st, rfl, h1⟩ := pI_e h
  obtain ⟨x, st, rfl, h2⟩ := pI_e h1
  intro p e R s m args below meth c H locs cells slots Z D cA ad A ls hC hR hl hw hE
  exact lv_icmp_eq hC.1 hC.2.1 hdg ht (fun hc => (hX _ _ _ _ (h2.1 hc) p e R s m args below meth c H locs cells slots Z D cA ad A ls hC hR hl hw hE)) (fun hc => (hX _ _ _ _ (h2.2 hc) p e R s m args below meth c H locs cells slots Z D cA ad A ls hC hR hl hw hE))
def xo_ic_ne (tg : Nat) (nx : Nat) : XOp := fun E Lv Q X lv st σ => pI st fun y st => pI st fun x st => (¬ x = y → X tg lv st σ) ∧ (x = y → X nx lv st σ)
theorem xs_ic_ne {off : Int} {tg : Nat} (hdg : decode cc pc = .ok (.if_icmp .ne off, 3)) (ht : (pc : Int) + off = (tg : Int)) : XSnd own cc nL rt mL pc (xo_ic_ne tg (pc + 3)) := by
  intro E Lv n0 Q X hLv hX lv st σ h
  obtain ⟨y, st, rfl, h1⟩ := pI_e h
  obtain ⟨x, st, rfl, h2⟩ := pI_e h1
  intro p e R s m args below meth c H locs cells slots Z D cA ad A ls hC hR hl hw hE
  exact lv_icmp_ne hC.1 hC.2.1 hdg ht (fun hc => (hX _ _ _ _ (h2.1 hc) p e R s m args below meth c H locs cells slots Z D cA ad A ls hC hR hl hw hE)) (fun hc => (hX _ _ _ _ (h2.2 hc) p e R s m args below meth c H locs cells slots Z D cA ad A ls hC hR hl hw hE))
def xo_ic_lt (tg : Nat) (nx : Nat) : XOp := fun E Lv Q X lv st σ => pI st fun y st => pI st fun x st => (x < y → X tg lv st σ) ∧ (¬ x < y → X nx lv st σ)
theorem xs_ic_lt {off : Int} {tg : Nat} (hdg : decode cc pc = .ok (.if_icmp .lt off, 3)) (ht : (pc : Int) + off = (tg : Int)) : XSnd own cc nL rt mL pc (xo_ic_lt tg (pc + 3)) := by
  intro E Lv n0 Q X hLv hX lv st σ h
  obtain ⟨y, st, rfl, h1⟩ := pI_e h
  obtain ⟨x, st, rfl, h2⟩ := pI_e h1
  intro p e R s m args below meth c H locs cells slots Z D cA ad A ls hC hR hl hw hE
  exact lv_icmp_lt hC.1 hC.2.1 hdg ht (fun hc => (hX _ _ _ _ (h2.1 hc) p e R s m args below meth c H locs cells slots Z D cA ad A ls hC hR hl hw hE)) (fun hc => (hX _ _ _ _ (h2.2 hc) p e R s m args below meth c H locs cells slots Z D cA ad A ls hC hR hl hw hE))
def xo_ic_ge (tg : Nat) (nx : Nat) : XOp := fun E Lv Q X lv st σ => pI st fun y st => pI st fun x st => (y ≤ x → X tg lv st σ) ∧ (¬ y ≤ x → X nx lv st σ)
theorem xs_ic_ge {off : Int} {tg : Nat} (hdg : decode cc pc = .ok (.if_icmp .ge off, 3)) (ht : (pc : Int) + off = (tg : Int)) : XSnd own cc nL rt mL pc (xo_ic_ge tg (pc + 3)) := by
  intro E Lv n0 Q X hLv hX lv st σ h
  obtain ⟨y, st, rfl, h1⟩ := pI_e h
  obtain ⟨x, st, rfl, h2⟩ := pI_e h1
  intro p e R s m args below meth c H locs cells slots Z D cA ad A ls hC hR hl hw hE
  exact lv_icmp_ge hC.1 hC.2.1 hdg ht (fun hc => (hX _ _ _ _ (h2.1 hc) p e R s m args below meth c H locs cells slots Z D cA ad A ls hC hR hl hw hE)) (fun hc => (hX _ _ _ _ (h2.2 hc) p e R s m args below meth c H locs cells slots Z D cA ad A ls hC hR hl hw hE))
def xo_ic_gt (tg : Nat) (nx : Nat) : XOp := fun E Lv Q X lv st σ => pI st fun y st => pI st fun x st => (y < x → X tg lv st σ) ∧ (¬ y < x → X nx lv st σ)
theorem xs_ic_gt {off : Int} {tg : Nat} (hdg : decode cc pc = .ok (.if_icmp .gt off, 3)) (ht : (pc : Int) + off = (tg : Int)) : XSnd own cc nL rt mL pc (xo_ic_gt tg (pc + 3)) := by
  intro E Lv n0 Q X hLv hX lv st σ h
  obtain ⟨y, st, rfl, h1⟩ := pI_e h
  obtain ⟨x, st, rfl, h2⟩ := pI_e h1
  intro p e R s m args below meth c H locs cells slots Z D cA ad A ls hC hR hl hw hE
  exact lv_icmp_gt hC.1 hC.2.1 hdg ht (fun hc => (hX _ _ _ _ (h2.1 hc) p e R s m args below meth c H locs cells slots Z D cA ad A ls hC hR hl hw hE)) (fun hc => (hX _ _ _ _ (h2.2 hc) p e R s m args below meth c H locs cells slots Z D cA ad A ls hC hR hl hw hE))
def xo_ic_le (tg : Nat) (nx : Nat) : XOp := fun E Lv Q X lv st σ => pI st fun y st => pI st fun x st => (x ≤ y → X tg lv st σ) ∧ (¬ x ≤ y → X nx lv st σ)
theorem xs_ic_le {off : Int} {tg : Nat} (hdg : decode cc pc = .ok (.if_icmp .le off, 3)) (ht : (pc : Int) + off = (tg : Int)) : XSnd own cc nL rt mL pc (xo_ic_le tg (pc + 3)) := by
  intro E Lv n0 Q X hLv hX lv st σ h
  obtain ⟨y, st, rfl, h1⟩ := pI_e h
  obtain ⟨x, st, rfl, h2⟩ := pI_e h1
  intro p e R s m args below meth c H locs cells slots Z D cA ad A ls hC hR hl hw hE
  exact lv_icmp_le hC.1 hC.2.1 hdg ht (fun hc => (hX _ _ _ _ (h2.1 hc) p e R s m args below meth c H locs cells slots Z D cA ad A ls hC hR hl hw hE)) (fun hc => (hX _ _ _ _ (h2.2 hc) p e R s m args below meth c H locs cells slots Z D cA ad A ls hC hR hl hw hE))
def xo_goto (tg : Nat) : XOp := fun E Lv Q X lv st σ => X tg lv st σ
theorem xs_goto {off : Int} {tg : Nat} (hdg : decode cc pc = .ok (.goto off, 3)) (ht : (pc : Int) + off = (tg : Int)) : XSnd own cc nL rt mL pc (xo_goto tg) := by
  intro E Lv n0 Q X hLv hX lv st σ h
  intro p e R s m args below meth c H locs cells slots Z D cA ad A ls hC hR hl hw hE
  exact lv_goto hC.1 hC.2.1 hdg ht (hX _ _ _ _ h p e R s m args below meth c H locs cells slots Z D cA ad A ls hC hR hl hw hE)
def xsw (X : Nat → Prop) (x : Int32) : List (Int32 × Nat) → Nat → Prop
  | [], d => X d
  | (k, t) :: r, d => (x = k → X t) ∧ (¬ x = k → xsw X x r d)
def xswT (x : Int32) : List (Int32 × Nat) → Nat → Nat
  | [], d => d
  | (k, t) :: r, d => if x = k then t else xswT x r d
theorem xsw_e {X : Nat → Prop} {x : Int32} : ∀ {l : List (Int32 × Nat)} {d : Nat}, xsw X x l d → X (xswT x l d)
  | [], _, h => h
  | (k, t) :: r, d, h => by
    unfold xswT
    split
    next hk => exact h.1 hk
    next hk => exact xsw_e (h.2 hk)
def xo_sw (ks : List (Int32 × Nat)) (d : Nat) : XOp := fun E Lv Q X lv st σ => pI st fun x st => xsw (fun t => X t lv st σ) x ks d
/-- a table's rows, from lo on -/
def xtab (lo : Int) : List Nat → List (Int32 × Nat)
  | [] => []
  | t :: r => (Int32.ofInt lo, t) :: xtab (lo + 1) r
theorem xtab_in {x : Int32} : ∀ {ts : List Nat} {lo : Int} {d : Nat}, -2147483648 ≤ lo → lo + ts.length ≤ 2147483648 → lo ≤ x.toInt → x.toInt < lo + ts.length → ∃ t, ts[(x.toInt - lo).toNat]? = some t ∧ xswT x (xtab lo ts) d = t
  | [], lo, d, _, _, h1, h2 => by simp at h2; omega
  | t :: r, lo, d, hl, hh, h1, h2 => by
    simp only [List.length_cons] at hh h2
    have hlo : (Int32.ofInt lo).toInt = lo := Int32.toInt_ofInt_of_le (by omega) (by omega)
    by_cases hx : x = Int32.ofInt lo
    · refine ⟨t, ?_, ?_⟩
      · rw [hx, hlo, Int.sub_self]; rfl
      · show xswT x ((Int32.ofInt lo, t) :: xtab (lo + 1) r) d = t
        unfold xswT
        rw [if_pos hx]
    · have hne : x.toInt ≠ lo := fun z => hx (Int32.toInt_inj.mp (z.trans hlo.symm))
      obtain ⟨t', e1, e2⟩ := xtab_in (x := x) (ts := r) (lo := lo + 1) (d := d) (by omega) (by omega) (by omega) (by omega)
      refine ⟨t', ?_, ?_⟩
      · rw [show (x.toInt - lo).toNat = (x.toInt - (lo + 1)).toNat + 1 by omega]
        exact e1
      · show xswT x ((Int32.ofInt lo, t) :: xtab (lo + 1) r) d = t'
        unfold xswT
        rw [if_neg hx]
        exact e2
theorem xtab_out {x : Int32} : ∀ {ts : List Nat} {lo : Int} {d : Nat}, -2147483648 ≤ lo → lo + ts.length ≤ 2147483648 → (x.toInt < lo ∨ lo + ts.length ≤ x.toInt) → xswT x (xtab lo ts) d = d
  | [], _, _, _, _, _ => rfl
  | t :: r, lo, d, hl, hh, h1 => by
    simp only [List.length_cons] at hh h1
    have hlo : (Int32.ofInt lo).toInt = lo := Int32.toInt_ofInt_of_le (by omega) (by omega)
    have hx : ¬ x = Int32.ofInt lo := fun z => by rw [z, hlo] at h1; omega
    show xswT x ((Int32.ofInt lo, t) :: xtab (lo + 1) r) d = d
    unfold xswT
    rw [if_neg hx]
    exact xtab_out (by omega) (by omega) (by omega)
theorem xs_table {dflt lo hi : Int} {offs : Array Int} {len d : Nat} {ks : List (Int32 × Nat)} {ts : List Nat} (hdg : decode cc pc = .ok (.tableswitch dflt lo hi offs, len)) (hks : xtab lo ts = ks) (hlo : -2147483648 ≤ lo ∧ lo + ts.length ≤ 2147483648 ∧ hi + 1 = lo + ts.length) (hof : offs.toList.map (fun o => (pc : Int) + o) = List.map (fun (t : Nat) => (t : Int)) ts) (hd : (pc : Int) + dflt = (d : Int)) : XSnd own cc nL rt mL pc (xo_sw ks d) := by
  intro E Lv n0 Q X hLv hX lv st σ h
  obtain ⟨x, st, rfl, h1⟩ := pI_e h
  clear h
  have h := xsw_e h1
  subst hks
  intro p e R s m args below meth c H locs cells slots Z D cA ad A ls hC hR hl hw hE
  by_cases hin : x.toInt < lo ∨ hi < x.toInt
  · rw [xtab_out hlo.1 hlo.2.1 (by omega)] at h
    exact lv_tableOut hC.1 hC.2.1 hdg hin hd (hX _ _ _ _ h p e R s m args below meth c H locs cells slots Z D cA ad A ls hC hR hl hw hE)
  · obtain ⟨t, e1, e2⟩ := xtab_in (x := x) (ts := ts) (lo := lo) (d := d) hlo.1 hlo.2.1 (by omega) (by omega)
    rw [e2] at h
    have e3 : (offs.toList.map (fun o => (pc : Int) + o))[(x.toInt - lo).toNat]? = some (t : Int) := by rw [hof, List.getElem?_map, e1]; rfl
    rw [List.getElem?_map] at e3
    obtain ⟨o, f1, f2⟩ := Option.map_eq_some_iff.mp e3
    exact lv_tableIn hC.1 hC.2.1 hdg (by omega) (by omega) (by rw [← Array.getElem?_toList]; exact f1) f2 (hX _ _ _ _ h p e R s m args below meth c H locs cells slots Z D cA ad A ls hC hR hl hw hE)
theorem xs_lookup {dflt : Int} {ps : Array (Int × Int)} {len d : Nat} {ks : List (Int32 × Nat)} (hdg : decode cc pc = .ok (.lookupswitch dflt ps, len)) (hp : (ps.toList.zip (ps.toList.drop 1)).all (fun (a, next) => a.1 < next.1) = true) (hks : ∀ x : Int32, (pc : Int) + Op.lookupswitch.offset ps.toList dflt x.toInt = ((xswT x ks d : Nat) : Int)) : XSnd own cc nL rt mL pc (xo_sw ks d) := by
  intro E Lv n0 Q X hLv hX lv st σ h
  obtain ⟨x, st, rfl, h1⟩ := pI_e h
  clear h
  have h := xsw_e h1
  intro p e R s m args below meth c H locs cells slots Z D cA ad A ls hC hR hl hw hE
  exact lv_lookup hC.1 hC.2.1 hdg hp rfl (hks x) (hX _ _ _ _ h p e R s m args below meth c H locs cells slots Z D cA ad A ls hC hR hl hw hE)
end XSOUND
end
section
-- ===== fields =====
section XHEAP
variable {own : String} {cc : ByteArray} {nL : Nat} {rt : Option FieldType} {mL pc : Nat}
theorem xWd.set {E : XEnv} {D : va_G} {cA : Nat → ClassId} {ad : Nat → Nat} {A : Nat → Prop} {s : State} {n0 : Nat} {σ : XW} {H H1 : Heap} {locs locs1 : List Loc} {q : Nat} {e : XE} (hw : xWd E D cA ad A s n0 σ H locs) (hP : va_P D vwCl ((xw cA ad σ).set q (ad q, xe cA ad e)) H1) (hS : va_S A s.heap H1 locs1) : xWd E D cA ad A s n0 (σ.set q e) H1 locs1 := by
  obtain ⟨w1, w2, w3, w4, w5, w6⟩ := hw
  rw [xw_set] at hP
  exact ⟨by rw [List.length_set]; exact w1, w2, hP, w4, hS, w6⟩
theorem xWd.D {E : XEnv} {D : va_G} {cA : Nat → ClassId} {ad : Nat → Nat} {A : Nat → Prop} {s : State} {n0 : Nat} {σ : XW} {H : Heap} {locs : List Loc} (hw : xWd E D cA ad A s n0 σ H locs) : va_D A (xw cA ad σ) := xD_to (by rw [hw.1]; exact hw.2.2.2.1)
def xo_get (ci k nx : Nat) : XOp := fun E Lv Q X lv st σ => pR st fun q st => hO σ q ci fun fs => nth fs k fun v => X nx lv (v :: st) σ
theorem xs_get {ci k N index : Nat} {C : String} {T : u_T} (hc : vwCl[ci]? = some (C, T, N)) (hin : ∀ w ∈ u_ws C T N, w ∈ gTs) (hk : k < N) (hlk : Cond.fieldLink own index (T k).1 (T k).2.1 (T k).2.2.1 ∈ gTs) (hdg : decode cc pc = .ok (.getfield index, 3)) : XSnd own cc nL rt mL pc (xo_get ci k (pc + 3)) := by
  intro E Lv n0 Q X hLv hX lv st σ h
  obtain ⟨q, st, rfl, h1⟩ := pR_e h
  obtain ⟨fs, he, h2⟩ := hO_e h1
  obtain ⟨v, hv, h3⟩ := nth_e h2
  intro p e R s m args below meth c H locs cells slots Z D cA ad A ls hC hR hl hw hE
  exact va_get hC.1 hC.2.1 hC.2.2.2.2 hin hC.2.2.2.1 hw.2.1 hw.2.2.1 q (xw_get he) hc k hk (hC.2.2.2.2 _ hlk) (fun _ h => h) (v := xv ad v) (by rw [List.getElem?_map, hv]; rfl) hdg (hX _ _ _ _ h3 p e R s m args below meth c H locs cells slots Z D cA ad A ls hC hR hl hw hE)

def xo_putI (ci k nx : Nat) : XOp := fun E Lv Q X lv st σ => pI st fun x st => pR st fun q st => hO σ q ci fun fs => nth fs k fun _ => stW fs k (.int x) fun fs' => stW σ q (.inr (ci, fs')) fun σ' => X nx lv st σ'
theorem xs_putI {ci k N index : Nat} {C C2 : String} {T : u_T} {ty : Nat → FieldType} (hc : vwCl[ci]? = some (C, T, N)) (hin : ∀ w ∈ u_ws C T N, w ∈ gTs) (hty : ∀ k, k < N → parseFieldDescriptor (T k).2.2.1 = some (ty k)) (hnm : ∀ a, a < N → ∀ b, b < N → a ≠ b → (T a).2.1 ≠ (T b).2.1) (hk : k < N) (hlk : Cond.fieldLink own index (T k).1 (T k).2.1 (T k).2.2.1 ∈ gTs) (hfin : (T k).2.2.2 = false) (hd : parseFieldDescriptor (T k).2.2.1 = some .int) (hdg : decode cc pc = .ok (.putfield index, 3)) : XSnd own cc nL rt mL pc (xo_putI ci k (pc + 3)) := by
  intro E Lv n0 Q X hLv hX lv st σ h
  obtain ⟨x, st, rfl, h1⟩ := pI_e h
  obtain ⟨q, st, rfl, h2⟩ := pR_e h1
  obtain ⟨fs, he, h3⟩ := hO_e h2
  obtain ⟨v0, hv0, h4⟩ := nth_e h3
  have h5 := h4
  have h6 := stW_e (stW_e h5)
  intro p e R s m args below meth c H locs cells slots Z D cA ad A ls hC hR hl hw hE
  refine va_put hC.1 hC.2.1 hC.2.2.2.2 hin ty hty hnm hC.2.2.2.1 hw.2.1 hw.2.2.1 hw.D hw.2.2.2.2.1 q (xw_get he) hc k hk (hC.2.2.2.2 _ hlk) (fun _ h => h) hfin hd (v := xv ad (.int x)) (vp_nar_int x) rfl (by rw [List.length_map]; exact (List.getElem?_eq_some_iff.mp hv0).1) hdg (fun H1 locs1 hP1 hD1 hS1 => ?_)
  rw [← List.map_set] at hP1
  exact (hX _ _ _ _ h6 p e R s m args below meth c H1 locs1 cells slots Z D cA ad A ls hC hR hl (hw.set hP1 hS1) hE)

def xo_putZ (ci k nx : Nat) : XOp := fun E Lv Q X lv st σ => pI st fun x st => pR st fun q st => hO σ q ci fun fs => nth fs k fun _ => (x = 0 ∨ x = 1) ∧ stW fs k (.int x) fun fs' => stW σ q (.inr (ci, fs')) fun σ' => X nx lv st σ'
theorem xs_putZ {ci k N index : Nat} {C C2 : String} {T : u_T} {ty : Nat → FieldType} (hc : vwCl[ci]? = some (C, T, N)) (hin : ∀ w ∈ u_ws C T N, w ∈ gTs) (hty : ∀ k, k < N → parseFieldDescriptor (T k).2.2.1 = some (ty k)) (hnm : ∀ a, a < N → ∀ b, b < N → a ≠ b → (T a).2.1 ≠ (T b).2.1) (hk : k < N) (hlk : Cond.fieldLink own index (T k).1 (T k).2.1 (T k).2.2.1 ∈ gTs) (hfin : (T k).2.2.2 = false) (hd : parseFieldDescriptor (T k).2.2.1 = some .boolean) (hdg : decode cc pc = .ok (.putfield index, 3)) : XSnd own cc nL rt mL pc (xo_putZ ci k (pc + 3)) := by
  intro E Lv n0 Q X hLv hX lv st σ h
  obtain ⟨x, st, rfl, h1⟩ := pI_e h
  obtain ⟨q, st, rfl, h2⟩ := pR_e h1
  obtain ⟨fs, he, h3⟩ := hO_e h2
  obtain ⟨v0, hv0, h4⟩ := nth_e h3
  obtain ⟨hz, h5⟩ := h4
  have h6 := stW_e (stW_e h5)
  intro p e R s m args below meth c H locs cells slots Z D cA ad A ls hC hR hl hw hE
  refine va_put hC.1 hC.2.1 hC.2.2.2.2 hin ty hty hnm hC.2.2.2.1 hw.2.1 hw.2.2.1 hw.D hw.2.2.2.2.1 q (xw_get he) hc k hk (hC.2.2.2.2 _ hlk) (fun _ h => h) hfin hd (v := xv ad (.int x)) (by rcases hz with rfl | rfl <;> rfl) (by rcases hz with rfl | rfl <;> rfl) (by rw [List.length_map]; exact (List.getElem?_eq_some_iff.mp hv0).1) hdg (fun H1 locs1 hP1 hD1 hS1 => ?_)
  rw [← List.map_set] at hP1
  exact (hX _ _ _ _ h6 p e R s m args below meth c H1 locs1 cells slots Z D cA ad A ls hC hR hl (hw.set hP1 hS1) hE)

def xo_putJ (ci k nx : Nat) : XOp := fun E Lv Q X lv st σ => pJ st fun x st => pR st fun q st => hO σ q ci fun fs => nth fs k fun _ => stW fs k (.long x) fun fs' => stW σ q (.inr (ci, fs')) fun σ' => X nx lv st σ'
theorem xs_putJ {ci k N index : Nat} {C C2 : String} {T : u_T} {ty : Nat → FieldType} (hc : vwCl[ci]? = some (C, T, N)) (hin : ∀ w ∈ u_ws C T N, w ∈ gTs) (hty : ∀ k, k < N → parseFieldDescriptor (T k).2.2.1 = some (ty k)) (hnm : ∀ a, a < N → ∀ b, b < N → a ≠ b → (T a).2.1 ≠ (T b).2.1) (hk : k < N) (hlk : Cond.fieldLink own index (T k).1 (T k).2.1 (T k).2.2.1 ∈ gTs) (hfin : (T k).2.2.2 = false) (hd : parseFieldDescriptor (T k).2.2.1 = some .long) (hdg : decode cc pc = .ok (.putfield index, 3)) : XSnd own cc nL rt mL pc (xo_putJ ci k (pc + 3)) := by
  intro E Lv n0 Q X hLv hX lv st σ h
  obtain ⟨x, st, rfl, h1⟩ := pJ_e h
  obtain ⟨q, st, rfl, h2⟩ := pR_e h1
  obtain ⟨fs, he, h3⟩ := hO_e h2
  obtain ⟨v0, hv0, h4⟩ := nth_e h3
  have h5 := h4
  have h6 := stW_e (stW_e h5)
  intro p e R s m args below meth c H locs cells slots Z D cA ad A ls hC hR hl hw hE
  refine va_put hC.1 hC.2.1 hC.2.2.2.2 hin ty hty hnm hC.2.2.2.1 hw.2.1 hw.2.2.1 hw.D hw.2.2.2.2.1 q (xw_get he) hc k hk (hC.2.2.2.2 _ hlk) (fun _ h => h) hfin hd (v := xv ad (.long x)) (rfl) rfl (by rw [List.length_map]; exact (List.getElem?_eq_some_iff.mp hv0).1) hdg (fun H1 locs1 hP1 hD1 hS1 => ?_)
  rw [← List.map_set] at hP1
  exact (hX _ _ _ _ h6 p e R s m args below meth c H1 locs1 cells slots Z D cA ad A ls hC hR hl (hw.set hP1 hS1) hE)

def xo_putR (ci k nx : Nat) : XOp := fun E Lv Q X lv st σ => pR st fun x st => pR st fun q st => hO σ q ci fun fs => nth fs k fun _ => stW fs k (.ref x) fun fs' => stW σ q (.inr (ci, fs')) fun σ' => X nx lv st σ'
theorem xs_putR {ci k N index : Nat} {C C2 : String} {T : u_T} {ty : Nat → FieldType} (hc : vwCl[ci]? = some (C, T, N)) (hin : ∀ w ∈ u_ws C T N, w ∈ gTs) (hty : ∀ k, k < N → parseFieldDescriptor (T k).2.2.1 = some (ty k)) (hnm : ∀ a, a < N → ∀ b, b < N → a ≠ b → (T a).2.1 ≠ (T b).2.1) (hk : k < N) (hlk : Cond.fieldLink own index (T k).1 (T k).2.1 (T k).2.2.1 ∈ gTs) (hfin : (T k).2.2.2 = false) (hd : parseFieldDescriptor (T k).2.2.1 = some (.object C2)) (hdg : decode cc pc = .ok (.putfield index, 3)) : XSnd own cc nL rt mL pc (xo_putR ci k (pc + 3)) := by
  intro E Lv n0 Q X hLv hX lv st σ h
  obtain ⟨x, st, rfl, h1⟩ := pR_e h
  obtain ⟨q, st, rfl, h2⟩ := pR_e h1
  obtain ⟨fs, he, h3⟩ := hO_e h2
  obtain ⟨v0, hv0, h4⟩ := nth_e h3
  have h5 := h4
  have h6 := stW_e (stW_e h5)
  intro p e R s m args below meth c H locs cells slots Z D cA ad A ls hC hR hl hw hE
  refine va_put hC.1 hC.2.1 hC.2.2.2.2 hin ty hty hnm hC.2.2.2.1 hw.2.1 hw.2.2.1 hw.D hw.2.2.2.2.1 q (xw_get he) hc k hk (hC.2.2.2.2 _ hlk) (fun _ h => h) hfin hd (v := xv ad (.ref x)) (rfl) rfl (by rw [List.length_map]; exact (List.getElem?_eq_some_iff.mp hv0).1) hdg (fun H1 locs1 hP1 hD1 hS1 => ?_)
  rw [← List.map_set] at hP1
  exact (hX _ _ _ _ h6 p e R s m args below meth c H1 locs1 cells slots Z D cA ad A ls hC hR hl (hw.set hP1 hS1) hE)

-- ===== arrays =====
def xstA (E : XEnv) (q : Nat) (k : Nat → (Nat → Int32) → Prop) : Prop := match Nat.beq q 1000000 with
  | true => k 6 (xst 0)
  | false => match Nat.beq q 1000001 with
    | true => k 6 (xst 1)
    | false => match Nat.beq q 1000002 with
      | true => k 4 (xst 2)
      | false => match Nat.beq q 1000005 with
        | true => k E.2.1 E.2.2
        | false => False
theorem xstA_e {E : XEnv} {q : Nat} {k : Nat → (Nat → Int32) → Prop} (h : xstA E q k) : ∃ n f, k n f ∧ ∀ (ad : Nat → Nat) (A : Nat → Prop) (s : State), xG E ad A s → va_T .int (ad q) n (fun j => .int (f j)) A s s.heap := by
  unfold xstA at h
  cases h0 : Nat.beq q 1000000 with
  | true => rw [h0] at h; rw [Nat.eq_of_beq_eq_true h0]; exact ⟨_, _, h, fun ad A s g => g.2.1.2⟩
  | false =>
    rw [h0] at h
    cases h1 : Nat.beq q 1000001 with
    | true => rw [h1] at h; rw [Nat.eq_of_beq_eq_true h1]; exact ⟨_, _, h, fun ad A s g => g.2.2.1.2⟩
    | false =>
      rw [h1] at h
      cases h2 : Nat.beq q 1000002 with
      | true => rw [h2] at h; rw [Nat.eq_of_beq_eq_true h2]; exact ⟨_, _, h, fun ad A s g => g.2.2.2.1.2⟩
      | false =>
        rw [h2] at h
        cases h3 : Nat.beq q 1000005 with
        | true => rw [h3] at h; rw [Nat.eq_of_beq_eq_true h3]; exact ⟨_, _, h, fun ad A s g => g.2.2.2.2.2.2.2.2⟩
        | false => rw [h3] at h; exact h.elim
def xo_iald (nx : Nat) : XOp := fun E Lv Q X lv st σ => pI st fun i st => pR st fun q st => match Nat.ble 1000000 q with
  | true => xstA E q fun n f => vp_in i n ∧ X nx lv (.int (f i.toNatClampNeg) :: st) σ
  | false => hA σ q 0 fun n f => vp_in i n ∧ X nx lv (.int (f i.toNatClampNeg) :: st) σ
theorem xs_iald (hdg : decode cc pc = .ok (.iaload, 1)) : XSnd own cc nL rt mL pc (xo_iald (pc + 1)) := by
  intro E Lv n0 Q X hLv hX lv st σ h
  obtain ⟨i, st, rfl, h1⟩ := pI_e h
  obtain ⟨q, st, rfl, h2⟩ := pR_e h1
  cases hb : Nat.ble 1000000 q with
  | true =>
    simp only [hb] at h2
    obtain ⟨n, f, ⟨hin, h3⟩, hg⟩ := xstA_e h2
    intro p e R s m args below meth c H locs cells slots Z D cA ad A ls hC hR hl hw hE
    exact va_ti hC.1 hC.2.1 (hg _ _ _ hw.2.2.2.2.2) hw.2.2.2.2.1 hin rfl hdg (hX _ _ _ _ h3 p e R s m args below meth c H locs cells slots Z D cA ad A ls hC hR hl hw hE)
  | false =>
    simp only [hb] at h2
    obtain ⟨n, f, he, hin, h3⟩ := hA_e h2
    intro p e R s m args below meth c H locs cells slots Z D cA ad A ls hC hR hl hw hE
    exact va_iald hC.1 hC.2.1 hw.2.1 hw.2.2.1 q 0 (xw_get he) rfl hin hdg (hX _ _ _ _ h3 p e R s m args below meth c H locs cells slots Z D cA ad A ls hC hR hl hw hE)
def xo_zald (nx : Nat) : XOp := fun E Lv Q X lv st σ => pI st fun i st => pR st fun q st => hA σ q 1 fun n f => vp_in i n ∧ X nx lv (.int (f i.toNatClampNeg) :: st) σ
theorem xs_zald (hdg : decode cc pc = .ok (.baload, 1)) : XSnd own cc nL rt mL pc (xo_zald (pc + 1)) := by
  intro E Lv n0 Q X hLv hX lv st σ h
  obtain ⟨i, st, rfl, h1⟩ := pI_e h
  obtain ⟨q, st, rfl, h2⟩ := pR_e h1
  obtain ⟨n, f, he, hin, h3⟩ := hA_e h2
  intro p e R s m args below meth c H locs cells slots Z D cA ad A ls hC hR hl hw hE
  exact va_zald hC.1 hC.2.1 hw.2.1 hw.2.2.1 q 1 (xw_get he) rfl hin hdg (hX _ _ _ _ h3 p e R s m args below meth c H locs cells slots Z D cA ad A ls hC hR hl hw hE)
def xo_iast (nx : Nat) : XOp := fun E Lv Q X lv st σ => pI st fun x st => pI st fun i st => pR st fun q st => hA σ q 0 fun n f => vp_in i n ∧ stW σ q (.inl (0, n, .inl (upd f i.toNatClampNeg x))) fun σ' => X nx lv st σ'
theorem xs_iast (hdg : decode cc pc = .ok (.iastore, 1)) : XSnd own cc nL rt mL pc (xo_iast (pc + 1)) := by
  intro E Lv n0 Q X hLv hX lv st σ h
  obtain ⟨x, st, rfl, h0⟩ := pI_e h
  obtain ⟨i, st, rfl, h1⟩ := pI_e h0
  obtain ⟨q, st, rfl, h2⟩ := pR_e h1
  obtain ⟨n, f, he, hin, h3⟩ := hA_e h2
  have h4 := stW_e h3
  intro p e R s m args below meth c H locs cells slots Z D cA ad A ls hC hR hl hw hE
  refine va_iast hC.1 hC.2.1 hw.2.1 hw.2.2.1 hw.D hw.2.2.2.2.1 q 0 (xw_get he) rfl hin hdg (fun H1 locs1 hP1 hD1 hS1 => ?_)
  exact (hX _ _ _ _ h4 p e R s m args below meth c H1 locs1 cells slots Z D cA ad A ls hC hR hl (hw.set hP1 hS1) hE)
def xo_zast (nx : Nat) : XOp := fun E Lv Q X lv st σ => pI st fun x st => pI st fun i st => pR st fun q st => hA σ q 1 fun n f => vp_in i n ∧ stW σ q (.inl (1, n, .inl (upd f i.toNatClampNeg (vp_nar .boolean x)))) fun σ' => X nx lv st σ'
theorem xs_zast (hdg : decode cc pc = .ok (.bastore, 1)) : XSnd own cc nL rt mL pc (xo_zast (pc + 1)) := by
  intro E Lv n0 Q X hLv hX lv st σ h
  obtain ⟨x, st, rfl, h0⟩ := pI_e h
  obtain ⟨i, st, rfl, h1⟩ := pI_e h0
  obtain ⟨q, st, rfl, h2⟩ := pR_e h1
  obtain ⟨n, f, he, hin, h3⟩ := hA_e h2
  have h4 := stW_e h3
  intro p e R s m args below meth c H locs cells slots Z D cA ad A ls hC hR hl hw hE
  refine va_zast hC.1 hC.2.1 hw.2.1 hw.2.2.1 hw.D hw.2.2.2.2.1 q 1 (xw_get he) rfl hin hdg (fun H1 locs1 hP1 hD1 hS1 => ?_)
  exact (hX _ _ _ _ h4 p e R s m args below meth c H1 locs1 cells slots Z D cA ad A ls hC hR hl (hw.set hP1 hS1) hE)
def xo_aald (t nx : Nat) : XOp := fun E Lv Q X lv st σ => pI st fun i st => pR st fun q st => hQ σ q t fun n f => vp_in i n ∧ ∃ a, f i.toNatClampNeg = some a ∧ X nx lv (.ref a :: st) σ
theorem xs_aald {t : Nat} {C : String} (ht : ∀ cA, (xT cA)[t]? = some (cA t, .object C)) (hdg : decode cc pc = .ok (.aaload, 1)) : XSnd own cc nL rt mL pc (xo_aald t (pc + 1)) := by
  intro E Lv n0 Q X hLv hX lv st σ h
  obtain ⟨i, st, rfl, h1⟩ := pI_e h
  obtain ⟨q, st, rfl, h2⟩ := pR_e h1
  obtain ⟨n, f, he, hin, a, ha, h3⟩ := hQ_e h2
  intro p e R s m args below meth c H locs cells slots Z D cA ad A ls hC hR hl hw hE
  refine va_aldq hC.1 hC.2.1 hw.2.1 hw.2.2.1 q t (C := C) (n := n) (f := fun i => (f i).map ad) (xw_get he) (ht cA) hin hdg ?_
  rw [ha]
  exact (hX _ _ _ _ h3 p e R s m args below meth c H locs cells slots Z D cA ad A ls hC hR hl hw hE)
def xo_alen (nx : Nat) : XOp := fun E Lv Q X lv st σ => pR st fun q st => match Nat.ble 1000000 q with
  | true => xstA E q fun n _ => X nx lv (.int (Int32.ofNat n) :: st) σ
  | false => hA σ q 0 fun n _ => X nx lv (.int (Int32.ofNat n) :: st) σ
theorem xs_alen (hdg : decode cc pc = .ok (.arraylength, 1)) : XSnd own cc nL rt mL pc (xo_alen (pc + 1)) := by
  intro E Lv n0 Q X hLv hX lv st σ h
  obtain ⟨q, st, rfl, h2⟩ := pR_e h
  cases hb : Nat.ble 1000000 q with
  | true =>
    simp only [hb] at h2
    obtain ⟨n, f, h3, hg⟩ := xstA_e h2
    intro p e R s m args below meth c H locs cells slots Z D cA ad A ls hC hR hl hw hE
    exact va_tlen hC.1 hC.2.1 (hg _ _ _ hw.2.2.2.2.2) hw.2.2.2.2.1 rfl hdg (hX _ _ _ _ h3 p e R s m args below meth c H locs cells slots Z D cA ad A ls hC hR hl hw hE)
  | false =>
    simp only [hb] at h2
    obtain ⟨n, f, he, h3⟩ := hA_e h2
    intro p e R s m args below meth c H locs cells slots Z D cA ad A ls hC hR hl hw hE
    exact va_alen hC.1 hC.2.1 hw.2.1 hw.2.2.1 q 0 (xw_get he) rfl rfl hdg (hX _ _ _ _ h3 p e R s m args below meth c H locs cells slots Z D cA ad A ls hC hR hl hw hE)
-- ===== what is static =====
def xo_ref (q nx : Nat) : XOp := fun E Lv Q X lv st σ => X nx lv (.ref q :: st) σ
theorem xs_gets {q index : Nat} {C n d : String} (hz : ∀ E ad A s, xG E ad A s → va_Z C n d (.ref (ad q)) A s s.heap) (hlk : Cond.fieldLink own index C n d ∈ gTs) (hdg : decode cc pc = .ok (.getstatic index, 3)) : XSnd own cc nL rt mL pc (xo_ref q (pc + 3)) := by
  intro E Lv n0 Q X hLv hX lv st σ h
  intro p e R s m args below meth c H locs cells slots Z D cA ad A ls hC hR hl hw hE
  exact va_gets hC.1 hC.2.1 (hz _ _ _ _ hw.2.2.2.2.2) hw.2.2.2.2.1 hC.2.2.2.1 (hC.2.2.2.2 _ hlk) (fun _ h => h) hdg (hX _ _ _ _ h p e R s m args below meth c H locs cells slots Z D cA ad A ls hC hR hl hw hE)
theorem xs_ldcS (ho : own = RX0) (hdg : decode cc pc = .ok (.ldc 107, 2)) : XSnd own cc nL rt mL pc (xo_ref 1000003 (pc + 2)) := by
  intro E Lv n0 Q X hLv hX lv st σ h
  intro p e R s m args below meth c H locs cells slots Z D cA ad A ls hC hR hl hw hE
  exact va_ldcS hC.1 hC.2.1 hC.2.2.2.1 (by rw [ho]; exact hw.2.2.2.2.2.2.2.2.2.1) hdg (hX _ _ _ _ h p e R s m args below meth c H locs cells slots Z D cA ad A ls hC hR hl hw hE)
-- ===== calls =====
def xo_callV (y : MethodName) (cc' : ByteArray) (nL' : Nat) (rt' : Option FieldType) (n ci nx : Nat) : XOp := fun E Lv Q X lv st σ => pN n [] st fun as st => pR st fun q st => hO σ q ci fun _ => match smal st with
  | true => XIn E Lv y cc' nL' rt' (.ref q :: as) σ fun r σ' => X nx lv (xpush r st) σ'
  | false => False
def xo_callS (y : MethodName) (cc' : ByteArray) (nL' : Nat) (rt' : Option FieldType) (n nx : Nat) : XOp := fun E Lv Q X lv st σ => pN n [] st fun as st => match smal st with
  | true => XIn E Lv y cc' nL' rt' as σ fun r σ' => X nx lv (xpush r st) σ'
  | false => False
theorem xroom_call {Lv d nL' cells slots : Nat} {R : Room} (hR : xRoom Lv R cells slots) (hd : d < Lv) (hn : nL' ≤ 21) : ((rmL d).frames + 1 ≤ R.frames ∧ 8 + (nL' + 11) + (rmL d).locals ≤ R.locals) ∧ (cells + 0 ≤ R.cells ∧ slots + 0 ≤ R.slots) := by
  obtain ⟨h1, h2, h3, h4⟩ := hR
  refine ⟨⟨?_, ?_⟩, h3, h4⟩
  · show d + 1 + 1 ≤ R.frames
    omega
  · show 8 + (nL' + 11) + 40 * (d + 1) ≤ R.locals
    omega
theorem xs_callV {y : MethodName} {cc' : ByteArray} {nL' n ci index N : Nat} {rt' : Option FieldType} {C : String} {T : u_T} (hc : vwCl[ci]? = some (C, T, N)) (h1 : Cond.methodLink own index y ∈ gTs) (h2 : Cond.instanceMethod y ∈ gTs) (h3 : Cond.selects C y y ∈ gTs) (h4 : Cond.initialized C ∈ gTs) (h5 : Cond.code y cc' nL' rt' ∈ gTs) (hd : y.cls = C ∧ y.cls ≠ "java/lang/invoke/MethodHandle" ∧ y.cls ≠ "java/lang/invoke/VarHandle" ∧ (parseMethodDescriptor y.desc).map (fun d => d.parameters.length) = some n) (hnL : nL' ≤ 21) (hdg : decode cc pc = .ok (.invokevirtual index, 3)) : XSnd own cc nL rt mL pc (xo_callV y cc' nL' rt' n ci (pc + 3)) := by
  intro E Lv n0 Q X hLv hX lv st σ h
  obtain ⟨as, st, rfl, hlen, k1⟩ := pN_e h
  rw [List.append_nil] at k1
  obtain ⟨q, st, rfl, k2⟩ := pR_e k1
  obtain ⟨fs, he, k3⟩ := hO_e k2
  cases hsm : smal st with
  | false => simp only [hsm] at k3
  | true =>
    simp only [hsm] at k3
    obtain ⟨d, P, argsc, σc, Qc, g1, g2, g3, g4, g5, g6, g7⟩ := k3
    intro p e R s m args below meth c H locs cells slots Z D cA ad A ls hC hR hl hw hE
    obtain ⟨hr1, hr2⟩ := xroom_call hR g1 hnL
    have cw := cwV (R := R) (own := own) (index := index) (C := C) (rm := rmL d) (mc := 0) (ms := 0) (ws := Cond.code y cc' nL' rt' :: gTs) n hC.2.2.2.2 (gTs_GoodIn (fun w hw => by
      unfold wsV at hw
      simp only [List.cons_append, List.nil_append, List.mem_cons] at hw
      rcases hw with rfl | rfl | rfl | rfl | rfl | hw
      · exact h1
      · exact h2
      · exact h3
      · exact h4
      · exact h5
      · exact hw)) rfl rfl rfl hd hr1
    have hav : argsc.map (xv (xad ad P)) = Value.ref (ad q) :: as.map (xv ad) := by
      rw [show xv (xad ad P) = xv ad ∘ xv (xp P) from funext fun v => (xv_comp ad (xp P) v).symm, ← List.map_map, ← g6]
      rfl
    refine xcall_after (σc := σc) (P := P) (rest := st.map (xv ad)) (va_runV (As := as.map (xv ad)) (b := ad q) hC (g2 D cA (xad ad P) (xA (xad ad P) σc.length)) cw ⟨xpre_blind _ _ _ _ _ _ _, va_recv hw.2.1 hw.2.2.1 hc (xw_get he), fun U hU hW => ⟨by rw [hav], xcall_pre hw g3 g4 g5 U hU hW⟩⟩ rfl (by rw [List.length_map]; exact hlen) hl.1 (by simp [xv]) (lv_room (smal_e hsm)) hdg hr2) hw g3 g4 g5 (fun r σ' f1 f2 f3 H1 locs1 hw1 => ?_)
    rw [← xpush_e ad f3]
    exact (hX _ _ _ _ (g7 r σ' f1 f2) p e R s m args below meth c H1 locs1 cells slots Z D cA ad A ls hC hR hl hw1 hE)
theorem xs_callW {own y : _} {cc' : ByteArray} {nL' n index : Nat} {rt' : Option FieldType} (hn : ∀ (R : Room) (s : State) (args : Array Value) (d : Nat), (∀ w ∈ gTs, w.before args s = true) → (∀ q ∈ xNest, va_Nw (.methodLinkNest q.1 q.2.1 q.2.2.1 q.2.2.2) s) → ((rmL d).frames + 1 ≤ R.frames ∧ 8 + (nL' + 11) + (rmL d).locals ≤ R.locals) → ∀ (p : Program) (E : XEnv) (e : Env) (m : MethodId) (below : List Frame) (meth : Method) (c : Code) (H : Heap) (locs : List Loc) (cells slots : Nat) (ls : Array Slot) (As rest : List Value) (Pc : Array Value → State → Prop) (Qc : Array Value → State → Outcome → State → Prop) (free : Addr → Prop), CallFix p m c cc nL s args gTs own → Met E.1 y (Cond.code y cc' nL' rt' :: gTs) (rmL d) Pc Qc 0 0 free → PreS s H Pc As → As.length = n → ls.size = nL → (rest.map fun v => v.category).sum ≤ 8 → (cells + 0 ≤ R.cells ∧ slots + 0 ≤ R.slots) → va_Run p E.1 e R s m args below meth c H locs cells slots 0 0 (F0 m pc ls (As.reverse ++ rest)) rest (Qc As.toArray) free) (hnL : nL' ≤ 21) : XSnd own cc nL rt mL pc (xo_callS y cc' nL' rt' n (pc + 3)) := by
  intro E Lv n0 Q X hLv hX lv st σ h
  obtain ⟨as, st, rfl, hlen, k1⟩ := pN_e h
  rw [List.append_nil] at k1
  cases hsm : smal st with
  | false => simp only [hsm] at k1
  | true =>
    simp only [hsm] at k1
    obtain ⟨d, P, argsc, σc, Qc, g1, g2, g3, g4, g5, g6, g7⟩ := k1
    intro p e R s m args below meth c H locs cells slots Z D cA ad A ls hC hR hl hw hE
    obtain ⟨hr1, hr2⟩ := xroom_call hR g1 hnL
    have hav : argsc.map (xv (xad ad P)) = as.map (xv ad) := by
      rw [show xv (xad ad P) = xv ad ∘ xv (xp P) from funext fun v => (xv_comp ad (xp P) v).symm, ← List.map_map, ← g6]
    have hrun := hn R s args d hC.2.2.2.2 hw.2.2.2.2.2.1 hr1 p E e m below meth c H locs cells slots ls (as.map (xv ad)) (st.map (xv ad)) _ _ _ hC (g2 D cA (xad ad P) (xA (xad ad P) σc.length)) ⟨xpre_blind _ _ _ _ _ _ _, fun U hU hW => ⟨by rw [hav], xcall_pre hw g3 g4 g5 U hU hW⟩⟩ (by rw [List.length_map]; exact hlen) hl.1 (smal_e hsm) hr2
    rw [show (as.reverse ++ st).map (xv ad) = (as.map (xv ad)).reverse ++ st.map (xv ad) by simp]
    refine xcall_after (σc := σc) (P := P) (rest := st.map (xv ad)) hrun hw g3 g4 g5 (fun r σ' f1 f2 f3 H1 locs1 hw1 => ?_)
    rw [← xpush_e ad f3]
    exact (hX _ _ _ _ (g7 r σ' f1 f2) p e R s m args below meth c H1 locs1 cells slots Z D cA ad A ls hC hR hl hw1 hE)
theorem xs_callS {y : MethodName} {cc' : ByteArray} {nL' n index : Nat} {rt' : Option FieldType} (h1 : Cond.methodLink own index y ∈ gTs) (h2 : Cond.static y ∈ gTs) (h4 : Cond.initialized y.cls ∈ gTs) (h5 : Cond.code y cc' nL' rt' ∈ gTs) (hd : y.cls ≠ "java/lang/invoke/MethodHandle" ∧ y.cls ≠ "java/lang/invoke/VarHandle" ∧ (parseMethodDescriptor y.desc).map (fun d => d.parameters.length) = some n) (hnL : nL' ≤ 21) (hdg : decode cc pc = .ok (.invokestatic index, 3)) : XSnd own cc nL rt mL pc (xo_callS y cc' nL' rt' n (pc + 3)) := by
  refine xs_callW (index := index) (fun R s args d hts hN hr p E e m below meth c H locs cells slots ls As rest Pc Qc free hC hM hp hAs hls hrest hf => ?_) hnL
  have cw := va_cwS (R := R) (s := s) (args := args) (own := own) (index := index) (rm := rmL d) (mc := 0) (ms := 0) (ws := Cond.code y cc' nL' rt' :: gTs) n hts (gTs_GoodIn (fun w hw => by
    unfold va_wsS at hw
    simp only [List.cons_append, List.nil_append, List.mem_cons] at hw
    rcases hw with rfl | rfl | rfl | rfl | hw
    · exact h1
    · exact h2
    · exact h4
    · exact h5
    · exact hw)) rfl rfl rfl hd hr
  exact va_runS hC hM cw hp rfl hAs hls rfl (lv_room hrest) hdg hf
theorem xs_callN {y : MethodName} {cc' : ByteArray} {nL' n index : Nat} {rt' : Option FieldType} {host : String} (h1 : (own, index, y, host) ∈ xNest) (h2 : Cond.static y ∈ gTs) (h4 : Cond.initialized y.cls ∈ gTs) (h5 : Cond.code y cc' nL' rt' ∈ gTs) (hd : y.cls ≠ "java/lang/invoke/MethodHandle" ∧ y.cls ≠ "java/lang/invoke/VarHandle" ∧ (parseMethodDescriptor y.desc).map (fun d => d.parameters.length) = some n) (hnL : nL' ≤ 21) (hdg : decode cc pc = .ok (.invokestatic index, 3)) : XSnd own cc nL rt mL pc (xo_callS y cc' nL' rt' n (pc + 3)) := by
  refine xs_callW (index := index) (fun R s args d hts hN hr p E e m below meth c H locs cells slots ls As rest Pc Qc free hC hM hp hAs hls hrest hf => ?_) hnL
  have cw := va_cnB (R := R) (s := s) (args := args) (own := own) (index := index) (host := host) (rm := rmL d) (mc := 0) (ms := 0) (ws := Cond.code y cc' nL' rt' :: gTs) n hts (gTs_GoodIn (fun w hw => by
    rcases List.mem_cons.mp hw with rfl | hw
    · exact h5
    · exact hw)) rfl rfl rfl (hN _ h1) (hts _ h4) hd hr
  exact va_runSN hC hM ⟨cw, hts _ h2, trivial⟩ hp rfl hAs hls rfl (lv_room hrest) hdg hf

def xo_p1 (f : Int32 → Int32) (nx : Nat) : XOp := fun E Lv Q X lv st σ => pI st fun a st => match smal st with
  | true => X nx lv (.int (f a) :: st) σ
  | false => False
theorem xs_p1 {y : MethodName} {cc' : ByteArray} {nL' d : Nat} {rt' : Option FieldType} {f : Int32 → Int32} (hs : XSnd own cc nL rt mL pc (xo_callS y cc' nL' rt' 1 (pc + 3))) (hc : ∀ (E : XEnv) (a : Int32), XCall E d y cc' nL' rt' [.int a] [] (fun r _ => r = some (.int (f a)))) (hd : d < mL) : XSnd own cc nL rt mL pc (xo_p1 f (pc + 3)) := by
  intro E Lv n0 Q X hLv hX lv st σ h
  obtain ⟨a, st, rfl, h1⟩ := pI_e h
  cases hsm : smal st with
  | false => simp only [hsm] at h1
  | true =>
    simp only [hsm] at h1
    refine hs E Lv n0 Q X hLv hX lv _ σ ?_
    show (match smal st with
      | true => XIn E Lv y cc' nL' rt' [.int a] σ fun r σ' => X (pc + 3) lv (xpush r st) σ'
      | false => False)
    rw [hsm]
    exact ⟨d, [], [.int a], [], _, Nat.lt_of_lt_of_le hd hLv, hc E a, List.nodup_nil, Nat.le_of_ble_eq_true rfl, rfl, rfl, fun r σ' hl hr => by subst hr; exact h1⟩

def xo_p2 (f : Int32 → Int32 → Int32) (nx : Nat) : XOp := fun E Lv Q X lv st σ => pI st fun b st => pI st fun a st => match smal st with
  | true => X nx lv (.int (f a b) :: st) σ
  | false => False
theorem xs_p2 {y : MethodName} {cc' : ByteArray} {nL' d : Nat} {rt' : Option FieldType} {f : Int32 → Int32 → Int32} (hs : XSnd own cc nL rt mL pc (xo_callS y cc' nL' rt' 2 (pc + 3))) (hc : ∀ (E : XEnv) (a b : Int32), XCall E d y cc' nL' rt' [.int a, .int b] [] (fun r _ => r = some (.int (f a b)))) (hd : d < mL) : XSnd own cc nL rt mL pc (xo_p2 f (pc + 3)) := by
  intro E Lv n0 Q X hLv hX lv st σ h
  obtain ⟨b, st, rfl, h1⟩ := pI_e h
  obtain ⟨a, st, rfl, h2⟩ := pI_e h1
  cases hsm : smal st with
  | false => simp only [hsm] at h2
  | true =>
    simp only [hsm] at h2
    refine hs E Lv n0 Q X hLv hX lv _ σ ?_
    show (match smal st with
      | true => XIn E Lv y cc' nL' rt' [.int a, .int b] σ fun r σ' => X (pc + 3) lv (xpush r st) σ'
      | false => False)
    rw [hsm]
    exact ⟨d, [], [.int a, .int b], [], _, Nat.lt_of_lt_of_le hd hLv, hc E a b, List.nodup_nil, Nat.le_of_ble_eq_true rfl, rfl, rfl, fun r σ' hl hr => by subst hr; exact h2⟩

def xo_p3 (f : Int32 → Int32 → Int32 → Int32) (nx : Nat) : XOp := fun E Lv Q X lv st σ => pI st fun c st => pI st fun b st => pI st fun a st => match smal st with
  | true => X nx lv (.int (f a b c) :: st) σ
  | false => False
theorem xs_p3 {y : MethodName} {cc' : ByteArray} {nL' d : Nat} {rt' : Option FieldType} {f : Int32 → Int32 → Int32 → Int32} (hs : XSnd own cc nL rt mL pc (xo_callS y cc' nL' rt' 3 (pc + 3))) (hc : ∀ (E : XEnv) (a b c : Int32), XCall E d y cc' nL' rt' [.int a, .int b, .int c] [] (fun r _ => r = some (.int (f a b c)))) (hd : d < mL) : XSnd own cc nL rt mL pc (xo_p3 f (pc + 3)) := by
  intro E Lv n0 Q X hLv hX lv st σ h
  obtain ⟨c, st, rfl, h1⟩ := pI_e h
  obtain ⟨b, st, rfl, h2⟩ := pI_e h1
  obtain ⟨a, st, rfl, h3⟩ := pI_e h2
  cases hsm : smal st with
  | false => simp only [hsm] at h3
  | true =>
    simp only [hsm] at h3
    refine hs E Lv n0 Q X hLv hX lv _ σ ?_
    show (match smal st with
      | true => XIn E Lv y cc' nL' rt' [.int a, .int b, .int c] σ fun r σ' => X (pc + 3) lv (xpush r st) σ'
      | false => False)
    rw [hsm]
    exact ⟨d, [], [.int a, .int b, .int c], [], _, Nat.lt_of_lt_of_le hd hLv, hc E a b c, List.nodup_nil, Nat.le_of_ble_eq_true rfl, rfl, rfl, fun r σ' hl hr => by subst hr; exact h3⟩

/-- three longs in -/
def xo_q3 (f : Int64 → Int64 → Int64 → Int32) (nx : Nat) : XOp := fun E Lv Q X lv st σ => pJ st fun c st => pJ st fun b st => pJ st fun a st => match smal st with
  | true => X nx lv (.int (f a b c) :: st) σ
  | false => False
theorem xs_q3 {y : MethodName} {cc' : ByteArray} {nL' d : Nat} {rt' : Option FieldType} {f : Int64 → Int64 → Int64 → Int32} (hs : XSnd own cc nL rt mL pc (xo_callS y cc' nL' rt' 3 (pc + 3))) (hc : ∀ (E : XEnv) (a b c : Int64), XCall E d y cc' nL' rt' [.long a, .long b, .long c] [] (fun r _ => r = some (.int (f a b c)))) (hd : d < mL) : XSnd own cc nL rt mL pc (xo_q3 f (pc + 3)) := by
  intro E Lv n0 Q X hLv hX lv st σ h
  obtain ⟨c, st, rfl, h1⟩ := pJ_e h
  obtain ⟨b, st, rfl, h2⟩ := pJ_e h1
  obtain ⟨a, st, rfl, h3⟩ := pJ_e h2
  cases hsm : smal st with
  | false => simp only [hsm] at h3
  | true =>
    simp only [hsm] at h3
    refine hs E Lv n0 Q X hLv hX lv _ σ ?_
    show (match smal st with
      | true => XIn E Lv y cc' nL' rt' [.long a, .long b, .long c] σ fun r σ' => X (pc + 3) lv (xpush r st) σ'
      | false => False)
    rw [hsm]
    exact ⟨d, [], [.long a, .long b, .long c], [], _, Nat.lt_of_lt_of_le hd hLv, hc E a b c, List.nodup_nil, Nat.le_of_ble_eq_true rfl, rfl, rfl, fun r σ' hl hr => by subst hr; exact h3⟩
/-- System.arraycopy of ints -/
def xo_acopy (nx : Nat) : XOp := fun E Lv Q X lv st σ => pI st fun n st => pI st fun dp st => pR st fun q1 st => pI st fun sp st => pR st fun q0 st => hA σ q0 0 fun n0 f => hA σ q1 0 fun n1 g => match smal st with
  | true => (¬ sp < 0 ∧ ¬ dp < 0 ∧ ¬ n < 0 ∧ sp.toNatClampNeg + n.toNatClampNeg ≤ n0 ∧ dp.toNatClampNeg + n.toNatClampNeg ≤ n1) ∧ stW σ q1 (.inl (0, n1, .inl (va_cpy f g sp.toNatClampNeg dp.toNatClampNeg n.toNatClampNeg))) fun σ' => X nx lv st σ'
  | false => False
theorem xs_acopy {index : Nat} (h1 : Cond.methodLink own index arraycopyName ∈ gTs) (h2 : Cond.native arraycopyName ∈ gTs) (h3 : Cond.static arraycopyName ∈ gTs) (h4 : Cond.initialized "java/lang/System" ∈ gTs) (hdg : decode cc pc = .ok (.invokestatic index, 3)) : XSnd own cc nL rt mL pc (xo_acopy (pc + 3)) := by
  intro E Lv n0 Q X hLv hX lv st σ h
  obtain ⟨n, st, rfl, k1⟩ := pI_e h
  obtain ⟨dp, st, rfl, k2⟩ := pI_e k1
  obtain ⟨q1, st, rfl, k3⟩ := pR_e k2
  obtain ⟨sp, st, rfl, k4⟩ := pI_e k3
  obtain ⟨q0, st, rfl, k5⟩ := pR_e k4
  obtain ⟨m0, f, e0, k6⟩ := hA_e k5
  obtain ⟨m1, g, e1, k7⟩ := hA_e k6
  cases hsm : smal st with
  | false => simp only [hsm] at k7
  | true =>
    simp only [hsm] at k7
    obtain ⟨⟨b1, b2, b3, b4, b5⟩, k8⟩ := k7
    have k9 := stW_e k8
    intro p e R s m args below meth c H locs cells slots Z D cA ad A ls hC hR hl hw hE
    have hsum := smal_e (ad := ad) hsm
    refine va_copyi hC.1 hC.2.1 (hC.2.2.1.trans hl.1.symm) hC.2.2.2.1 (hC.2.2.2.2 _ h1) (hC.2.2.2.2 _ h2) (hC.2.2.2.2 _ h3) (hC.2.2.2.2 _ h4) hw.2.1 hw.2.2.1 hw.D hw.2.2.2.2.1 q0 q1 0 0 (xw_get e0) (xw_get e1) rfl rfl rfl b1 b2 b3 b4 b5 (fun _ _ => rfl) (by have := hR.1; omega) ?_ hdg (fun H1 locs1 hP1 hD1 hS1 => ?_)
    · have h7 : nativeFrameWords "java/lang/System" "arraycopy" 5 = 7 := by decide +kernel
      rw [h7]
      have := hR.2.1
      omega
    · exact (hX _ _ _ _ k9 p e R s m args below meth c H1 locs1 cells slots Z D cA ad A ls hC hR hl (hw.set hP1 hS1) hE)
-- ===== returns =====
def xo_iret : XOp := fun E Lv Q X lv st σ => pI st fun v st => match st with
  | [] => Q (some (.int v)) σ
  | _ => False
theorem xs_iret (hrt : rt = some .int) (hdg : decode cc pc = .ok (.ireturn, 1)) : XSnd own cc nL rt mL pc xo_iret := by
  intro E Lv n0 Q X hLv hX lv st σ h
  obtain ⟨v, st, rfl, h1⟩ := pI_e h
  match st, h1 with
  | [], h1 =>
    intro p e R s m args below meth c H locs cells slots Z D cA ad A ls hC hR hl hw hE
    exact hE _ _ _ _ h1 hw pc ls hdg (by rw [hrt]; exact vp_nar_int v)
def xo_zret : XOp := fun E Lv Q X lv st σ => pI st fun v st => match st with
  | [] => (v = 0 ∨ v = 1) ∧ Q (some (.int v)) σ
  | _ => False
theorem xs_zret (hrt : rt = some .boolean) (hdg : decode cc pc = .ok (.ireturn, 1)) : XSnd own cc nL rt mL pc xo_zret := by
  intro E Lv n0 Q X hLv hX lv st σ h
  obtain ⟨v, st, rfl, h1⟩ := pI_e h
  match st, h1 with
  | [], h1 =>
    intro p e R s m args below meth c H locs cells slots Z D cA ad A ls hC hR hl hw hE
    exact hE _ _ _ _ h1.2 hw pc ls hdg (by rw [hrt]; rcases h1.1 with rfl | rfl <;> rfl)
def xo_lret : XOp := fun E Lv Q X lv st σ => pJ st fun v st => match st with
  | [] => Q (some (.long v)) σ
  | _ => False
theorem xs_lret (hrt : rt = some .long) (hdg : decode cc pc = .ok (.lreturn, 1)) : XSnd own cc nL rt mL pc xo_lret := by
  intro E Lv n0 Q X hLv hX lv st σ h
  obtain ⟨v, st, rfl, h1⟩ := pJ_e h
  match st, h1 with
  | [], h1 =>
    intro p e R s m args below meth c H locs cells slots Z D cA ad A ls hC hR hl hw hE
    exact hE _ _ _ _ h1 hw pc ls hdg hrt
def xo_vret : XOp := fun E Lv Q X lv st σ => match st with
  | [] => Q none σ
  | _ => False
theorem xs_vret (hrt : rt = none) (hdg : decode cc pc = .ok (.return_, 1)) : XSnd own cc nL rt mL pc xo_vret := by
  intro E Lv n0 Q X hLv hX lv st σ h
  match st, h with
  | [], h =>
    intro p e R s m args below meth c H locs cells slots Z D cA ad A ls hC hR hl hw hE
    exact hE _ _ _ _ h hw pc ls hdg hrt
-- ===== the walker =====
def xlook : List (Nat × XOp) → Nat → (XOp → Prop) → Prop
  | [], _, _ => False
  | (p, o) :: r, pc, k => match Nat.beq p pc with
    | true => k o
    | false => xlook r pc k
theorem xlook_e : ∀ {pr : List (Nat × XOp)} {pc : Nat} {k : XOp → Prop}, xlook pr pc k → ∃ o, (pc, o) ∈ pr ∧ k o
  | [], _, _, h => h.elim
  | (p, o) :: r, pc, k, h => by
    unfold xlook at h
    cases hb : Nat.beq p pc with
    | true => rw [hb] at h; rw [Nat.eq_of_beq_eq_true hb]; exact ⟨o, List.mem_cons_self, h⟩
    | false =>
      rw [hb] at h
      obtain ⟨o', h1, h2⟩ := xlook_e h
      exact ⟨o', List.mem_cons_of_mem _ h1, h2⟩
def xcut : List Nat → Nat → Bool
  | [], _ => false
  | a :: r, pc => match Nat.beq a pc with
    | true => true
    | false => xcut r pc
def xwp (E : XEnv) (Lv : Nat) (Q : XQ) (pr : List (Nat × XOp)) (cut : List Nat) (K : XK) : Nat → XK
  | 0 => K
  | n + 1 => fun pc lv st σ => match xcut cut pc with
    | true => K pc lv st σ
    | false => xlook pr pc fun o => o E Lv Q (xwp E Lv Q pr cut K n) lv st σ
def XPr (own : String) (cc : ByteArray) (nL : Nat) (rt : Option FieldType) (mL : Nat) (pr : List (Nat × XOp)) : Prop := ∀ q ∈ pr, XSnd own cc nL rt mL q.1 q.2
theorem xwp_ok {pr : List (Nat × XOp)} (hp : XPr own cc nL rt mL pr) {E : XEnv} {Lv n0 : Nat} {Q : XQ} {cut : List Nat} (hL : mL ≤ Lv) : ∀ (n pc : Nat) (lv : XL) (st : List Value) (σ : XW), xwp E Lv Q pr cut (XAt E own cc nL rt Lv n0 Q) n pc lv st σ → XAt E own cc nL rt Lv n0 Q pc lv st σ
  | 0, _, _, _, _, h => h
  | n + 1, pc, lv, st, σ, h => by
    unfold xwp at h
    cases hb : xcut cut pc with
    | true => rw [hb] at h; exact h
    | false =>
      rw [hb] at h
      obtain ⟨o, h1, h2⟩ := xlook_e h
      exact hp _ h1 E Lv n0 Q _ hL (fun pc' lv st σ h => xwp_ok hp hL n pc' lv st σ h) lv st σ h2
theorem xgo {pr : List (Nat × XOp)} (hp : XPr own cc nL rt mL pr) {E : XEnv} {Lv n0 : Nat} {Q : XQ} (cut : List Nat) (n : Nat) (hL : mL ≤ Lv) {pc : Nat} {lv : XL} {st : List Value} {σ : XW} (h : xlook pr pc fun o => o E Lv Q (xwp E Lv Q pr cut (XAt E own cc nL rt Lv n0 Q) n) lv st σ) : XAt E own cc nL rt Lv n0 Q pc lv st σ := by
  obtain ⟨o, h1, h2⟩ := xlook_e h
  exact hp _ h1 E Lv n0 Q _ hL (fun pc' lv st σ h => xwp_ok hp hL n pc' lv st σ h) lv st σ h2
theorem XPr.nil : XPr own cc nL rt mL [] := fun _ h => absurd h List.not_mem_nil
theorem XPr.cons {q : Nat × XOp} {r : List (Nat × XOp)} (h : XSnd own cc nL rt mL q.1 q.2) (hr : XPr own cc nL rt mL r) : XPr own cc nL rt mL (q :: r) := List.forall_mem_cons.mpr ⟨h, hr⟩
theorem XPr.app {a b : List (Nat × XOp)} (h : XPr own cc nL rt mL a) (hr : XPr own cc nL rt mL b) : XPr own cc nL rt mL (a ++ b) := List.forall_mem_append.mpr ⟨h, hr⟩
end XHEAP
end
section
theorem gX0 : ∀ w ∈ u_ws RX0 TX0 9, w ∈ gTs := fun w h => List.mem_filter.mpr ⟨(List.all_eq_true.mp (by decide +kernel : (u_ws RX0 TX0 9).all (fun w => decide (w ∈ lw_tbl)) = true) w h |> of_decide_eq_true), List.all_eq_true.mp (by decide +kernel : (u_ws RX0 TX0 9).all goodWord = true) w h⟩
theorem gX1 : ∀ w ∈ u_ws RX1 TX1 3, w ∈ gTs := fun w h => List.mem_filter.mpr ⟨(List.all_eq_true.mp (by decide +kernel : (u_ws RX1 TX1 3).all (fun w => decide (w ∈ lw_tbl)) = true) w h |> of_decide_eq_true), List.all_eq_true.mp (by decide +kernel : (u_ws RX1 TX1 3).all goodWord = true) w h⟩
theorem gX2 : ∀ w ∈ u_ws RX2 TX2 12, w ∈ gTs := fun w h => List.mem_filter.mpr ⟨(List.all_eq_true.mp (by decide +kernel : (u_ws RX2 TX2 12).all (fun w => decide (w ∈ lw_tbl)) = true) w h |> of_decide_eq_true), List.all_eq_true.mp (by decide +kernel : (u_ws RX2 TX2 12).all goodWord = true) w h⟩
theorem gX3 : ∀ w ∈ u_ws RX3 TX3 5, w ∈ gTs := fun w h => List.mem_filter.mpr ⟨(List.all_eq_true.mp (by decide +kernel : (u_ws RX3 TX3 5).all (fun w => decide (w ∈ lw_tbl)) = true) w h |> of_decide_eq_true), List.all_eq_true.mp (by decide +kernel : (u_ws RX3 TX3 5).all goodWord = true) w h⟩
theorem gX4 : ∀ w ∈ u_ws RX4 TX4 8, w ∈ gTs := fun w h => List.mem_filter.mpr ⟨(List.all_eq_true.mp (by decide +kernel : (u_ws RX4 TX4 8).all (fun w => decide (w ∈ lw_tbl)) = true) w h |> of_decide_eq_true), List.all_eq_true.mp (by decide +kernel : (u_ws RX4 TX4 8).all goodWord = true) w h⟩
theorem gX5 : ∀ w ∈ u_ws RX5 TX5 46, w ∈ gTs := fun w h => List.mem_filter.mpr ⟨(List.all_eq_true.mp (by decide +kernel : (u_ws RX5 TX5 46).all (fun w => decide (w ∈ lw_tbl)) = true) w h |> of_decide_eq_true), List.all_eq_true.mp (by decide +kernel : (u_ws RX5 TX5 46).all goodWord = true) w h⟩
theorem gw_0 : Cond.selects RX4 yX4_toldOfPart yX4_toldOfPart ∈ gTs := gTs_of 0 (by decide +kernel) (by decide +kernel)
theorem gw_1 : Cond.selects RX4 yX4_toldOfWright yX4_toldOfWright ∈ gTs := gTs_of 1 (by decide +kernel) (by decide +kernel)
theorem gw_2 : Cond.selects RX2 yX2_telling yX2_telling ∈ gTs := gTs_of 2 (by decide +kernel) (by decide +kernel)
theorem gw_3 : Cond.selects RX0 yX0_next yX0_next ∈ gTs := gTs_of 3 (by decide +kernel) (by decide +kernel)
theorem gw_4 : Cond.selects RX0 yX0_nextWord yX0_nextWord ∈ gTs := gTs_of 4 (by decide +kernel) (by decide +kernel)
theorem gw_5 : Cond.selects RX0 yX0_nextNumber yX0_nextNumber ∈ gTs := gTs_of 5 (by decide +kernel) (by decide +kernel)
theorem gw_6 : Cond.selects RX0 yX0_needs yX0_needs ∈ gTs := gTs_of 6 (by decide +kernel) (by decide +kernel)
theorem gw_7 : Cond.selects RX0 yX0_fails yX0_fails ∈ gTs := gTs_of 7 (by decide +kernel) (by decide +kernel)
theorem gw_8 : Cond.selects RX0 yX0_readOr yX0_readOr ∈ gTs := gTs_of 8 (by decide +kernel) (by decide +kernel)
theorem gw_9 : Cond.selects RX0 yX0_readAnd yX0_readAnd ∈ gTs := gTs_of 9 (by decide +kernel) (by decide +kernel)
theorem gw_10 : Cond.selects RX0 yX0_readNot yX0_readNot ∈ gTs := gTs_of 10 (by decide +kernel) (by decide +kernel)
theorem gw_11 : Cond.selects RX0 yX0_readCompared yX0_readCompared ∈ gTs := gTs_of 11 (by decide +kernel) (by decide +kernel)
theorem gw_12 : Cond.selects RX0 yX0_readSum yX0_readSum ∈ gTs := gTs_of 12 (by decide +kernel) (by decide +kernel)
theorem gw_13 : Cond.selects RX0 yX0_readTerm yX0_readTerm ∈ gTs := gTs_of 13 (by decide +kernel) (by decide +kernel)
theorem gw_14 : Cond.selects RX0 yX0_readOne yX0_readOne ∈ gTs := gTs_of 14 (by decide +kernel) (by decide +kernel)
theorem gw_15 : Cond.selects RX0 yX0_readMinus yX0_readMinus ∈ gTs := gTs_of 15 (by decide +kernel) (by decide +kernel)
theorem gw_16 : Cond.selects RX0 yX0_opens yX0_opens ∈ gTs := gTs_of 16 (by decide +kernel) (by decide +kernel)
theorem gw_17 : Cond.selects RX0 yX0_readBracket yX0_readBracket ∈ gTs := gTs_of 17 (by decide +kernel) (by decide +kernel)
theorem gw_18 : Cond.selects RX4 yX4_isText yX4_isText ∈ gTs := gTs_of 18 (by decide +kernel) (by decide +kernel)
theorem gw_19 : Cond.selects RX2 yX2_leastSound yX2_leastSound ∈ gTs := gTs_of 19 (by decide +kernel) (by decide +kernel)
theorem gw_20 : Cond.selects RX4 yX4_waterBy yX4_waterBy ∈ gTs := gTs_of 20 (by decide +kernel) (by decide +kernel)
theorem gw_21 : Cond.selects RX4 yX4_comesHomeWith yX4_comesHomeWith ∈ gTs := gTs_of 21 (by decide +kernel) (by decide +kernel)
theorem gw_22 : Cond.selects RX4 yX4_firstOtherwise yX4_firstOtherwise ∈ gTs := gTs_of 22 (by decide +kernel) (by decide +kernel)
theorem gw_23 : Cond.selects RX4 yX4_bitsThatFit yX4_bitsThatFit ∈ gTs := gTs_of 23 (by decide +kernel) (by decide +kernel)
theorem gw_24 : Cond.selects RX4 yX4_howManyFit yX4_howManyFit ∈ gTs := gTs_of 24 (by decide +kernel) (by decide +kernel)
theorem gw_25 : Cond.selects RX4 yX4_leastThatFits yX4_leastThatFits ∈ gTs := gTs_of 25 (by decide +kernel) (by decide +kernel)
theorem gw_26 : Cond.selects RX4 yX4_waterDrawn yX4_waterDrawn ∈ gTs := gTs_of 26 (by decide +kernel) (by decide +kernel)
theorem gw_28 : Cond.selects RX5 yX5_isOf yX5_isOf ∈ gTs := gTs_of 28 (by decide +kernel) (by decide +kernel)
theorem gw_29 : Cond.selects RX5 yX5_isOne yX5_isOne ∈ gTs := gTs_of 29 (by decide +kernel) (by decide +kernel)
theorem gw_30 : Cond.selects RX5 yX5_madeBy yX5_madeBy ∈ gTs := gTs_of 30 (by decide +kernel) (by decide +kernel)
theorem gw_31 : Cond.selects RX5 yX5_pumpsOf yX5_pumpsOf ∈ gTs := gTs_of 31 (by decide +kernel) (by decide +kernel)
theorem gw_32 : Cond.selects RX5 yX5_says yX5_says ∈ gTs := gTs_of 32 (by decide +kernel) (by decide +kernel)
theorem gw_33 : Cond.selects RX5 yX5_read yX5_read ∈ gTs := gTs_of 33 (by decide +kernel) (by decide +kernel)
theorem gw_34 : Cond.selects RX5 yX5_next yX5_next ∈ gTs := gTs_of 34 (by decide +kernel) (by decide +kernel)
theorem gw_35 : Cond.selects RX5 yX5_byteAt yX5_byteAt ∈ gTs := gTs_of 35 (by decide +kernel) (by decide +kernel)
theorem gw_36 : Cond.selects RX5 yX5_isWord yX5_isWord ∈ gTs := gTs_of 36 (by decide +kernel) (by decide +kernel)
theorem gw_37 : Cond.selects RX5 yX5_isLetter yX5_isLetter ∈ gTs := gTs_of 37 (by decide +kernel) (by decide +kernel)
theorem gw_38 : Cond.selects RX5 yX5_part yX5_part ∈ gTs := gTs_of 38 (by decide +kernel) (by decide +kernel)
theorem gw_39 : Cond.selects RX5 yX5_fail yX5_fail ∈ gTs := gTs_of 39 (by decide +kernel) (by decide +kernel)
theorem gw_40 : Cond.selects RX5 yX5_either yX5_either ∈ gTs := gTs_of 40 (by decide +kernel) (by decide +kernel)
theorem gw_41 : Cond.selects RX5 yX5_both yX5_both ∈ gTs := gTs_of 41 (by decide +kernel) (by decide +kernel)
theorem gw_42 : Cond.selects RX5 yX5_not yX5_not ∈ gTs := gTs_of 42 (by decide +kernel) (by decide +kernel)
theorem gw_43 : Cond.selects RX5 yX5_opens yX5_opens ∈ gTs := gTs_of 43 (by decide +kernel) (by decide +kernel)
theorem gw_44 : Cond.selects RX5 yX5_added yX5_added ∈ gTs := gTs_of 44 (by decide +kernel) (by decide +kernel)
theorem gw_45 : Cond.selects RX5 yX5_term yX5_term ∈ gTs := gTs_of 45 (by decide +kernel) (by decide +kernel)
theorem gw_46 : Cond.selects RX5 yX5_atom yX5_atom ∈ gTs := gTs_of 46 (by decide +kernel) (by decide +kernel)
theorem gw_47 : Cond.selects RX5 yX5_isSign yX5_isSign ∈ gTs := gTs_of 47 (by decide +kernel) (by decide +kernel)
theorem gw_48 : Cond.selects RX5 yX5_name yX5_name ∈ gTs := gTs_of 48 (by decide +kernel) (by decide +kernel)
theorem gw_49 : Cond.selects RX5 yX5_whoIs yX5_whoIs ∈ gTs := gTs_of 49 (by decide +kernel) (by decide +kernel)
theorem gw_50 : Cond.selects RX5 yX5_isAt yX5_isAt ∈ gTs := gTs_of 50 (by decide +kernel) (by decide +kernel)
theorem gw_51 : Cond.selects RX5 yX5_leaksOf yX5_leaksOf ∈ gTs := gTs_of 51 (by decide +kernel) (by decide +kernel)
theorem gw_52 : Cond.selects RX5 yX5_lays yX5_lays ∈ gTs := gTs_of 52 (by decide +kernel) (by decide +kernel)
theorem gw_53 : Cond.selects RX5 yX5_makesOf yX5_makesOf ∈ gTs := gTs_of 53 (by decide +kernel) (by decide +kernel)
theorem gw_54 : Cond.selects RX5 yX5_mendsOf yX5_mendsOf ∈ gTs := gTs_of 54 (by decide +kernel) (by decide +kernel)
theorem gw_55 : Cond.selects RX5 yX5_built yX5_built ∈ gTs := gTs_of 55 (by decide +kernel) (by decide +kernel)
theorem gw_56 : Cond.selects RX5 yX5_binds yX5_binds ∈ gTs := gTs_of 56 (by decide +kernel) (by decide +kernel)
theorem gw_57 : Cond.selects RX5 yX5_passes yX5_passes ∈ gTs := gTs_of 57 (by decide +kernel) (by decide +kernel)
theorem gw_58 : Cond.selects RX5 yX5_leaksAll yX5_leaksAll ∈ gTs := gTs_of 58 (by decide +kernel) (by decide +kernel)
theorem gw_59 : Cond.selects RX5 yX5_works yX5_works ∈ gTs := gTs_of 59 (by decide +kernel) (by decide +kernel)
theorem gw_60 : Cond.selects RX5 yX5_laysAside yX5_laysAside ∈ gTs := gTs_of 60 (by decide +kernel) (by decide +kernel)
theorem gw_61 : Cond.selects RX5 yX5_sails yX5_sails ∈ gTs := gTs_of 61 (by decide +kernel) (by decide +kernel)
theorem gw_62 : Cond.selects RX5 yX5_laysBack yX5_laysBack ∈ gTs := gTs_of 62 (by decide +kernel) (by decide +kernel)
theorem gw_63 : Cond.selects RX5 yX5_tries yX5_tries ∈ gTs := gTs_of 63 (by decide +kernel) (by decide +kernel)
theorem gw_64 : Cond.selects RX5 yX5_waterBehind yX5_waterBehind ∈ gTs := gTs_of 64 (by decide +kernel) (by decide +kernel)
theorem gw_65 : Cond.selects RX5 yX5_goers yX5_goers ∈ gTs := gTs_of 65 (by decide +kernel) (by decide +kernel)
theorem gw_66 : Cond.selects RX5 yX5_placed yX5_placed ∈ gTs := gTs_of 66 (by decide +kernel) (by decide +kernel)
theorem gw_67 : Cond.selects RX5 yX5_firstOther yX5_firstOther ∈ gTs := gTs_of 67 (by decide +kernel) (by decide +kernel)
theorem gw_68 : Cond.selects RX5 yX5_soundSet yX5_soundSet ∈ gTs := gTs_of 68 (by decide +kernel) (by decide +kernel)
theorem gw_69 : Cond.selects RX5 yX5_waterDrawn yX5_waterDrawn ∈ gTs := gTs_of 69 (by decide +kernel) (by decide +kernel)
theorem gw_70 : Cond.selects RX5 yX5_madeMany yX5_madeMany ∈ gTs := gTs_of 70 (by decide +kernel) (by decide +kernel)
theorem gw_72 : Cond.initialized RX4 ∈ gTs := gTs_of 72 (by decide +kernel) (by decide +kernel)
theorem gw_73 : Cond.initialized RX3 ∈ gTs := gTs_of 73 (by decide +kernel) (by decide +kernel)
theorem gw_74 : Cond.initialized RX0 ∈ gTs := gTs_of 74 (by decide +kernel) (by decide +kernel)
theorem gw_75 : Cond.initialized RX2 ∈ gTs := gTs_of 75 (by decide +kernel) (by decide +kernel)
theorem gw_76 : Cond.initialized RX1 ∈ gTs := gTs_of 76 (by decide +kernel) (by decide +kernel)
theorem gw_77 : Cond.initialized RX5 ∈ gTs := gTs_of 77 (by decide +kernel) (by decide +kernel)
theorem gw_78 : Cond.initialized RJ9 ∈ gTs := gTs_of 78 (by decide +kernel) (by decide +kernel)
theorem gw_79 : Cond.initialized RJ6 ∈ gTs := gTs_of 79 (by decide +kernel) (by decide +kernel)
theorem gw_84 : Cond.initialized "java/lang/System" ∈ gTs := gTs_of 84 (by decide +kernel) (by decide +kernel)
theorem gw_101 : Cond.fieldLink RX4 140 "WhoBuiltSails$Text" "which" "I" ∈ gTs := gTs_of 101 (by decide +kernel) (by decide +kernel)
theorem gw_102 : Cond.fieldLink RX3 9 "WhoBuiltSails$Text" "steps" "[I" ∈ gTs := gTs_of 102 (by decide +kernel) (by decide +kernel)
theorem gw_103 : Cond.fieldLink RX3 15 "WhoBuiltSails$Text" "ends" "[I" ∈ gTs := gTs_of 103 (by decide +kernel) (by decide +kernel)
theorem gw_104 : Cond.fieldLink RX3 25 "WhoBuiltSails$Text" "size" "I" ∈ gTs := gTs_of 104 (by decide +kernel) (by decide +kernel)
theorem gw_105 : Cond.fieldLink RX3 18 "WhoBuiltSails$Text" "waiting" "[I" ∈ gTs := gTs_of 105 (by decide +kernel) (by decide +kernel)
theorem gw_124 : Cond.fieldLink RX0 9 "WhoBuiltSails$Reader" "bytes" "[I" ∈ gTs := gTs_of 124 (by decide +kernel) (by decide +kernel)
theorem gw_125 : Cond.fieldLink RX0 15 "WhoBuiltSails$Reader" "size" "I" ∈ gTs := gTs_of 125 (by decide +kernel) (by decide +kernel)
theorem gw_126 : Cond.fieldLink RX4 126 "WhoBuiltSails$Reader" "size" "I" ∈ gTs := gTs_of 126 (by decide +kernel) (by decide +kernel)
theorem gw_127 : Cond.fieldLink RX0 28 "WhoBuiltSails$Reader" "at" "I" ∈ gTs := gTs_of 127 (by decide +kernel) (by decide +kernel)
theorem gw_128 : Cond.fieldLink RX0 50 "WhoBuiltSails$Reader" "token" "I" ∈ gTs := gTs_of 128 (by decide +kernel) (by decide +kernel)
theorem gw_129 : Cond.fieldLink RX0 56 "WhoBuiltSails$Reader" "place" "I" ∈ gTs := gTs_of 129 (by decide +kernel) (by decide +kernel)
theorem gw_130 : Cond.fieldLink RX0 84 "WhoBuiltSails$Reader" "number" "I" ∈ gTs := gTs_of 130 (by decide +kernel) (by decide +kernel)
theorem gw_131 : Cond.fieldLink RX0 31 "WhoBuiltSails$Reader" "open" "I" ∈ gTs := gTs_of 131 (by decide +kernel) (by decide +kernel)
theorem gw_132 : Cond.fieldLink RX0 34 "WhoBuiltSails$Reader" "fault" "I" ∈ gTs := gTs_of 132 (by decide +kernel) (by decide +kernel)
theorem gw_133 : Cond.fieldLink RX0 19 "WhoBuiltSails$Reader" "text" "LWhoBuiltSails$Text;" ∈ gTs := gTs_of 133 (by decide +kernel) (by decide +kernel)
theorem gw_159 : Cond.fieldLink RX2 9 "WhoBuiltSails$Ship" "maker" "[I" ∈ gTs := gTs_of 159 (by decide +kernel) (by decide +kernel)
theorem gw_160 : Cond.fieldLink RX4 98 "WhoBuiltSails$Ship" "maker" "[I" ∈ gTs := gTs_of 160 (by decide +kernel) (by decide +kernel)
theorem gw_161 : Cond.fieldLink RX2 15 "WhoBuiltSails$Ship" "sound" "[I" ∈ gTs := gTs_of 161 (by decide +kernel) (by decide +kernel)
theorem gw_162 : Cond.fieldLink RX4 72 "WhoBuiltSails$Ship" "sound" "[I" ∈ gTs := gTs_of 162 (by decide +kernel) (by decide +kernel)
theorem gw_163 : Cond.fieldLink RX2 47 "WhoBuiltSails$Ship" "wrights" "I" ∈ gTs := gTs_of 163 (by decide +kernel) (by decide +kernel)
theorem gw_164 : Cond.fieldLink RX4 191 "WhoBuiltSails$Ship" "wrights" "I" ∈ gTs := gTs_of 164 (by decide +kernel) (by decide +kernel)
theorem gw_165 : Cond.fieldLink RX2 18 "WhoBuiltSails$Ship" "kind" "[I" ∈ gTs := gTs_of 165 (by decide +kernel) (by decide +kernel)
theorem gw_166 : Cond.fieldLink RX4 105 "WhoBuiltSails$Ship" "kind" "[I" ∈ gTs := gTs_of 166 (by decide +kernel) (by decide +kernel)
theorem gw_167 : Cond.fieldLink RX2 21 "WhoBuiltSails$Ship" "number" "[I" ∈ gTs := gTs_of 167 (by decide +kernel) (by decide +kernel)
theorem gw_168 : Cond.fieldLink RX4 75 "WhoBuiltSails$Ship" "number" "[I" ∈ gTs := gTs_of 168 (by decide +kernel) (by decide +kernel)
theorem gw_169 : Cond.fieldLink RX2 24 "WhoBuiltSails$Ship" "skill" "[I" ∈ gTs := gTs_of 169 (by decide +kernel) (by decide +kernel)
theorem gw_170 : Cond.fieldLink RX4 78 "WhoBuiltSails$Ship" "skill" "[I" ∈ gTs := gTs_of 170 (by decide +kernel) (by decide +kernel)
theorem gw_171 : Cond.fieldLink RX2 27 "WhoBuiltSails$Ship" "place" "[I" ∈ gTs := gTs_of 171 (by decide +kernel) (by decide +kernel)
theorem gw_172 : Cond.fieldLink RX4 108 "WhoBuiltSails$Ship" "place" "[I" ∈ gTs := gTs_of 172 (by decide +kernel) (by decide +kernel)
theorem gw_173 : Cond.fieldLink RX4 63 "WhoBuiltSails$Ship" "day" "I" ∈ gTs := gTs_of 173 (by decide +kernel) (by decide +kernel)
theorem gw_174 : Cond.fieldLink RX2 50 "WhoBuiltSails$Ship" "day" "I" ∈ gTs := gTs_of 174 (by decide +kernel) (by decide +kernel)
theorem gw_175 : Cond.fieldLink RX2 30 "WhoBuiltSails$Ship" "sea" "I" ∈ gTs := gTs_of 175 (by decide +kernel) (by decide +kernel)
theorem gw_176 : Cond.fieldLink RX4 66 "WhoBuiltSails$Ship" "sea" "I" ∈ gTs := gTs_of 176 (by decide +kernel) (by decide +kernel)
theorem gw_177 : Cond.fieldLink RX4 69 "WhoBuiltSails$Ship" "water" "I" ∈ gTs := gTs_of 177 (by decide +kernel) (by decide +kernel)
theorem gw_178 : Cond.fieldLink RX2 53 "WhoBuiltSails$Ship" "water" "I" ∈ gTs := gTs_of 178 (by decide +kernel) (by decide +kernel)
theorem gw_179 : Cond.fieldLink RX2 37 "WhoBuiltSails$Ship" "rule" "LWhoBuiltSails$Text;" ∈ gTs := gTs_of 179 (by decide +kernel) (by decide +kernel)
theorem gw_180 : Cond.fieldLink RX4 136 "WhoBuiltSails$Ship" "rule" "LWhoBuiltSails$Text;" ∈ gTs := gTs_of 180 (by decide +kernel) (by decide +kernel)
theorem gw_181 : Cond.fieldLink RX2 34 "WhoBuiltSails$Ship" "named" "[I" ∈ gTs := gTs_of 181 (by decide +kernel) (by decide +kernel)
theorem gw_214 : Cond.fieldLink RX1 9 "WhoBuiltSails$Sheet" "sort" "I" ∈ gTs := gTs_of 214 (by decide +kernel) (by decide +kernel)
theorem gw_215 : Cond.fieldLink RX4 249 "WhoBuiltSails$Sheet" "sort" "I" ∈ gTs := gTs_of 215 (by decide +kernel) (by decide +kernel)
theorem gw_216 : Cond.fieldLink RX1 28 "WhoBuiltSails$Sheet" "size" "I" ∈ gTs := gTs_of 216 (by decide +kernel) (by decide +kernel)
theorem gw_217 : Cond.fieldLink RX4 215 "WhoBuiltSails$Sheet" "size" "I" ∈ gTs := gTs_of 217 (by decide +kernel) (by decide +kernel)
theorem gw_218 : Cond.fieldLink RX1 15 "WhoBuiltSails$Sheet" "items" "[I" ∈ gTs := gTs_of 218 (by decide +kernel) (by decide +kernel)
theorem gw_219 : Cond.fieldLink RX4 230 "WhoBuiltSails$Sheet" "items" "[I" ∈ gTs := gTs_of 219 (by decide +kernel) (by decide +kernel)
theorem gw_227 : Cond.fieldLink RX4 11 "WhoBuiltSails" "texts" "[LWhoBuiltSails$Text;" ∈ gTs := gTs_of 227 (by decide +kernel) (by decide +kernel)
theorem gw_228 : Cond.fieldLink RX4 18 "WhoBuiltSails" "textCount" "I" ∈ gTs := gTs_of 228 (by decide +kernel) (by decide +kernel)
theorem gw_229 : Cond.fieldLink RX4 25 "WhoBuiltSails" "tape" "LWhoBuiltSails$Reader;" ∈ gTs := gTs_of 229 (by decide +kernel) (by decide +kernel)
theorem gw_230 : Cond.fieldLink RX4 34 "WhoBuiltSails" "ship" "LWhoBuiltSails$Ship;" ∈ gTs := gTs_of 230 (by decide +kernel) (by decide +kernel)
theorem gw_231 : Cond.fieldLink RX4 38 "WhoBuiltSails" "thought" "LWhoBuiltSails$Ship;" ∈ gTs := gTs_of 231 (by decide +kernel) (by decide +kernel)
theorem gw_232 : Cond.fieldLink RX4 41 "WhoBuiltSails" "kept" "LWhoBuiltSails$Ship;" ∈ gTs := gTs_of 232 (by decide +kernel) (by decide +kernel)
theorem gw_233 : Cond.fieldLink RX4 242 "WhoBuiltSails" "isKept" "Z" ∈ gTs := gTs_of 233 (by decide +kernel) (by decide +kernel)
theorem gw_234 : Cond.fieldLink RX4 46 "WhoBuiltSails" "sheets" "[LWhoBuiltSails$Sheet;" ∈ gTs := gTs_of 234 (by decide +kernel) (by decide +kernel)
theorem gw_256 : Cond.fieldLink RX4 51 "WhoBuiltSails" "MOST_OF" "[I" ∈ gTs := gTs_of 256 (by decide +kernel) (by decide +kernel)
theorem gw_258 : Cond.methodLink RX4 55 yX4_within ∈ gTs := gTs_of 258 (by decide +kernel) (by decide +kernel)
theorem gw_259 : Cond.static yX4_within ∈ gTs := gTs_of 259 (by decide +kernel) (by decide +kernel)
theorem gw_260 : Cond.code yX4_within cX4_within 3 (some .boolean) ∈ gTs := gTs_of 260 (by decide +kernel) (by decide +kernel)
theorem gw_261 : Cond.methodLink RX4 59 yX4_told ∈ gTs := gTs_of 261 (by decide +kernel) (by decide +kernel)
theorem gw_262 : Cond.instanceMethod yX4_told ∈ gTs := gTs_of 262 (by decide +kernel) (by decide +kernel)
theorem gw_263 : Cond.selects RX4 yX4_told yX4_told ∈ gTs := gTs_of 263 (by decide +kernel) (by decide +kernel)
theorem gw_264 : Cond.code yX4_told cX4_told 3 (some .int) ∈ gTs := gTs_of 264 (by decide +kernel) (by decide +kernel)
theorem gw_265 : Cond.methodLink RX4 85 yX4_isPart ∈ gTs := gTs_of 265 (by decide +kernel) (by decide +kernel)
theorem gw_266 : Cond.static yX4_isPart ∈ gTs := gTs_of 266 (by decide +kernel) (by decide +kernel)
theorem gw_267 : Cond.code yX4_isPart cX4_isPart 1 (some .boolean) ∈ gTs := gTs_of 267 (by decide +kernel) (by decide +kernel)
theorem gw_268 : Cond.methodLink RX4 89 yX4_toldOfPart ∈ gTs := gTs_of 268 (by decide +kernel) (by decide +kernel)
theorem gw_270 : Cond.instanceMethod yX4_toldOfPart ∈ gTs := gTs_of 270 (by decide +kernel) (by decide +kernel)
theorem gw_271 : Cond.code yX4_toldOfPart cX4_toldOfPart 3 (some .int) ∈ gTs := gTs_of 271 (by decide +kernel) (by decide +kernel)
theorem gw_272 : Cond.methodLink RX4 101 yX2_leaks ∈ gTs := gTs_of 272 (by decide +kernel) (by decide +kernel)
theorem gw_273 : Cond.instanceMethod yX2_leaks ∈ gTs := gTs_of 273 (by decide +kernel) (by decide +kernel)
theorem gw_274 : Cond.selects RX2 yX2_leaks yX2_leaks ∈ gTs := gTs_of 274 (by decide +kernel) (by decide +kernel)
theorem gw_275 : Cond.code yX2_leaks cX2_leaks 3 (some .int) ∈ gTs := gTs_of 275 (by decide +kernel) (by decide +kernel)
theorem gw_276 : Cond.methodLink RX2 69 Lib.Math.max.name ∈ gTs := gTs_of 276 (by decide +kernel) (by decide +kernel)
theorem gw_277 : Cond.static Lib.Math.max.name ∈ gTs := gTs_of 277 (by decide +kernel) (by decide +kernel)
theorem gw_278 : Cond.code Lib.Math.max.name Lib.Math.max.code 2 (some .int) ∈ gTs := gTs_of 278 (by decide +kernel) (by decide +kernel)
theorem gw_280 : Cond.static yX4_isUnder ∈ gTs := gTs_of 280 (by decide +kernel) (by decide +kernel)
theorem gw_281 : Cond.code yX4_isUnder cX4_isUnder 1 (some .boolean) ∈ gTs := gTs_of 281 (by decide +kernel) (by decide +kernel)
theorem gw_282 : Cond.methodLink RX4 92 yX2_has ∈ gTs := gTs_of 282 (by decide +kernel) (by decide +kernel)
theorem gw_283 : Cond.instanceMethod yX2_has ∈ gTs := gTs_of 283 (by decide +kernel) (by decide +kernel)
theorem gw_284 : Cond.selects RX2 yX2_has yX2_has ∈ gTs := gTs_of 284 (by decide +kernel) (by decide +kernel)
theorem gw_285 : Cond.code yX2_has cX2_has 2 (some .boolean) ∈ gTs := gTs_of 285 (by decide +kernel) (by decide +kernel)
theorem gw_287 : Cond.methodLink RX4 95 yX4_toldOfWright ∈ gTs := gTs_of 287 (by decide +kernel) (by decide +kernel)
theorem gw_289 : Cond.instanceMethod yX4_toldOfWright ∈ gTs := gTs_of 289 (by decide +kernel) (by decide +kernel)
theorem gw_290 : Cond.code yX4_toldOfWright cX4_toldOfWright 3 (some .int) ∈ gTs := gTs_of 290 (by decide +kernel) (by decide +kernel)
theorem gw_291 : Cond.methodLink RX4 111 yX2_madeBy ∈ gTs := gTs_of 291 (by decide +kernel) (by decide +kernel)
theorem gw_292 : Cond.instanceMethod yX2_madeBy ∈ gTs := gTs_of 292 (by decide +kernel) (by decide +kernel)
theorem gw_293 : Cond.selects RX2 yX2_madeBy yX2_madeBy ∈ gTs := gTs_of 293 (by decide +kernel) (by decide +kernel)
theorem gw_294 : Cond.code yX2_madeBy cX2_madeBy 4 (some .int) ∈ gTs := gTs_of 294 (by decide +kernel) (by decide +kernel)
theorem gw_295 : Cond.methodLink RX4 114 yX2_pumps ∈ gTs := gTs_of 295 (by decide +kernel) (by decide +kernel)
theorem gw_296 : Cond.instanceMethod yX2_pumps ∈ gTs := gTs_of 296 (by decide +kernel) (by decide +kernel)
theorem gw_297 : Cond.selects RX2 yX2_pumps yX2_pumps ∈ gTs := gTs_of 297 (by decide +kernel) (by decide +kernel)
theorem gw_298 : Cond.code yX2_pumps cX2_pumps 4 (some .int) ∈ gTs := gTs_of 298 (by decide +kernel) (by decide +kernel)
theorem gw_299 : Cond.methodLink RX2 94 yX2_telling ∈ gTs := gTs_of 299 (by decide +kernel) (by decide +kernel)
theorem gw_301 : Cond.instanceMethod yX2_telling ∈ gTs := gTs_of 301 (by decide +kernel) (by decide +kernel)
theorem gw_302 : Cond.code yX2_telling cX2_telling 5 (some .int) ∈ gTs := gTs_of 302 (by decide +kernel) (by decide +kernel)
theorem gw_304 : Cond.methodLink RX2 85 yX3_value ∈ gTs := gTs_of 304 (by decide +kernel) (by decide +kernel)
theorem gw_305 : Cond.instanceMethod yX3_value ∈ gTs := gTs_of 305 (by decide +kernel) (by decide +kernel)
theorem gw_306 : Cond.selects RX3 yX3_value yX3_value ∈ gTs := gTs_of 306 (by decide +kernel) (by decide +kernel)
theorem gw_307 : Cond.code yX3_value cX3_value 6 (some .int) ∈ gTs := gTs_of 307 (by decide +kernel) (by decide +kernel)
theorem gw_309 : Cond.methodLink RX3 32 yX3_joined ∈ gTs := gTs_of 309 (by decide +kernel) (by decide +kernel)
theorem gw_310 : Cond.static yX3_joined ∈ gTs := gTs_of 310 (by decide +kernel) (by decide +kernel)
theorem gw_311 : Cond.code yX3_joined cX3_joined 3 (some .int) ∈ gTs := gTs_of 311 (by decide +kernel) (by decide +kernel)
theorem gw_312 : Cond.methodLink RX2 91 yX2_bounded ∈ gTs := gTs_of 312 (by decide +kernel) (by decide +kernel)
theorem gw_313 : Cond.static yX2_bounded ∈ gTs := gTs_of 313 (by decide +kernel) (by decide +kernel)
theorem gw_314 : Cond.code yX2_bounded cX2_bounded 1 (some .int) ∈ gTs := gTs_of 314 (by decide +kernel) (by decide +kernel)
theorem gw_315 : Cond.methodLink RX2 101 Lib.Math.min.name ∈ gTs := gTs_of 315 (by decide +kernel) (by decide +kernel)
theorem gw_316 : Cond.static Lib.Math.min.name ∈ gTs := gTs_of 316 (by decide +kernel) (by decide +kernel)
theorem gw_317 : Cond.code Lib.Math.min.name Lib.Math.min.code 2 (some .int) ∈ gTs := gTs_of 317 (by decide +kernel) (by decide +kernel)
theorem gw_318 : Cond.methodLink RX2 98 yX2_who ∈ gTs := gTs_of 318 (by decide +kernel) (by decide +kernel)
theorem gw_319 : Cond.instanceMethod yX2_who ∈ gTs := gTs_of 319 (by decide +kernel) (by decide +kernel)
theorem gw_320 : Cond.selects RX2 yX2_who yX2_who ∈ gTs := gTs_of 320 (by decide +kernel) (by decide +kernel)
theorem gw_321 : Cond.code yX2_who cX2_who 4 (some .int) ∈ gTs := gTs_of 321 (by decide +kernel) (by decide +kernel)
theorem gw_322 : Cond.methodLink RX2 64 yJ6_bitCount_0f7a4 ∈ gTs := gTs_of 322 (by decide +kernel) (by decide +kernel)
theorem gw_323 : Cond.static yJ6_bitCount_0f7a4 ∈ gTs := gTs_of 323 (by decide +kernel) (by decide +kernel)
theorem gw_324 : Cond.code yJ6_bitCount_0f7a4 cJ6_bitCount_0f7a4 1 (some .int) ∈ gTs := gTs_of 324 (by decide +kernel) (by decide +kernel)
theorem gw_325 : Cond.constant RJ6 265 (1431655765) ∈ gTs := gTs_of 325 (by decide +kernel) (by decide +kernel)
theorem gw_326 : Cond.constant RJ6 266 (858993459) ∈ gTs := gTs_of 326 (by decide +kernel) (by decide +kernel)
theorem gw_327 : Cond.constant RJ6 267 (252645135) ∈ gTs := gTs_of 327 (by decide +kernel) (by decide +kernel)
theorem gw_329 : Cond.instanceMethod yX4_wright ∈ gTs := gTs_of 329 (by decide +kernel) (by decide +kernel)
theorem gw_330 : Cond.selects RX4 yX4_wright yX4_wright ∈ gTs := gTs_of 330 (by decide +kernel) (by decide +kernel)
theorem gw_331 : Cond.code yX4_wright cX4_wright 4 (some .int) ∈ gTs := gTs_of 331 (by decide +kernel) (by decide +kernel)
theorem gw_332 : Cond.methodLink RX4 81 yX2_comes ∈ gTs := gTs_of 332 (by decide +kernel) (by decide +kernel)
theorem gw_333 : Cond.instanceMethod yX2_comes ∈ gTs := gTs_of 333 (by decide +kernel) (by decide +kernel)
theorem gw_334 : Cond.selects RX2 yX2_comes yX2_comes ∈ gTs := gTs_of 334 (by decide +kernel) (by decide +kernel)
theorem gw_335 : Cond.code yX2_comes cX2_comes 4 (some .int) ∈ gTs := gTs_of 335 (by decide +kernel) (by decide +kernel)
theorem gw_341 : Cond.methodLink RX4 117 yX2_makes ∈ gTs := gTs_of 341 (by decide +kernel) (by decide +kernel)
theorem gw_342 : Cond.instanceMethod yX2_makes ∈ gTs := gTs_of 342 (by decide +kernel) (by decide +kernel)
theorem gw_343 : Cond.selects RX2 yX2_makes yX2_makes ∈ gTs := gTs_of 343 (by decide +kernel) (by decide +kernel)
theorem gw_344 : Cond.code yX2_makes cX2_makes 7 (some .int) ∈ gTs := gTs_of 344 (by decide +kernel) (by decide +kernel)
theorem gw_345 : Cond.methodLink RX2 60 yX2_madeBy ∈ gTs := gTs_of 345 (by decide +kernel) (by decide +kernel)
theorem gw_346 : Cond.methodLink RX4 120 yX2_mends ∈ gTs := gTs_of 346 (by decide +kernel) (by decide +kernel)
theorem gw_347 : Cond.instanceMethod yX2_mends ∈ gTs := gTs_of 347 (by decide +kernel) (by decide +kernel)
theorem gw_348 : Cond.selects RX2 yX2_mends yX2_mends ∈ gTs := gTs_of 348 (by decide +kernel) (by decide +kernel)
theorem gw_349 : Cond.code yX2_mends cX2_mends 5 (some .int) ∈ gTs := gTs_of 349 (by decide +kernel) (by decide +kernel)
theorem gw_354 : Cond.methodLink RX4 123 yX0_takes ∈ gTs := gTs_of 354 (by decide +kernel) (by decide +kernel)
theorem gw_355 : Cond.instanceMethod yX0_takes ∈ gTs := gTs_of 355 (by decide +kernel) (by decide +kernel)
theorem gw_356 : Cond.selects RX0 yX0_takes yX0_takes ∈ gTs := gTs_of 356 (by decide +kernel) (by decide +kernel)
theorem gw_357 : Cond.code yX0_takes cX0_takes 2 (some .boolean) ∈ gTs := gTs_of 357 (by decide +kernel) (by decide +kernel)
theorem gw_362 : Cond.methodLink RX4 129 yX0_reads ∈ gTs := gTs_of 362 (by decide +kernel) (by decide +kernel)
theorem gw_363 : Cond.instanceMethod yX0_reads ∈ gTs := gTs_of 363 (by decide +kernel) (by decide +kernel)
theorem gw_364 : Cond.selects RX0 yX0_reads yX0_reads ∈ gTs := gTs_of 364 (by decide +kernel) (by decide +kernel)
theorem gw_365 : Cond.code yX0_reads cX0_reads 3 (some .int) ∈ gTs := gTs_of 365 (by decide +kernel) (by decide +kernel)
theorem gw_366 : Cond.methodLink RX0 23 yX3_clear ∈ gTs := gTs_of 366 (by decide +kernel) (by decide +kernel)
theorem gw_367 : Cond.instanceMethod yX3_clear ∈ gTs := gTs_of 367 (by decide +kernel) (by decide +kernel)
theorem gw_368 : Cond.selects RX3 yX3_clear yX3_clear ∈ gTs := gTs_of 368 (by decide +kernel) (by decide +kernel)
theorem gw_369 : Cond.code yX3_clear cX3_clear 1 none ∈ gTs := gTs_of 369 (by decide +kernel) (by decide +kernel)
theorem gw_370 : Cond.methodLink RX0 37 yX0_next ∈ gTs := gTs_of 370 (by decide +kernel) (by decide +kernel)
theorem gw_372 : Cond.instanceMethod yX0_next ∈ gTs := gTs_of 372 (by decide +kernel) (by decide +kernel)
theorem gw_373 : Cond.code yX0_next cX0_next 1 none ∈ gTs := gTs_of 373 (by decide +kernel) (by decide +kernel)
theorem gw_375 : Cond.methodLink RX0 97 yX0_nextWord ∈ gTs := gTs_of 375 (by decide +kernel) (by decide +kernel)
theorem gw_377 : Cond.instanceMethod yX0_nextWord ∈ gTs := gTs_of 377 (by decide +kernel) (by decide +kernel)
theorem gw_378 : Cond.code yX0_nextWord cX0_nextWord 5 none ∈ gTs := gTs_of 378 (by decide +kernel) (by decide +kernel)
theorem gw_380 : Cond.methodLink RX0 109 yJ0_length_8abf5 ∈ gTs := gTs_of 380 (by decide +kernel) (by decide +kernel)
theorem gw_390 : Cond.methodLink RX0 115 yJ0_charAt_5068e ∈ gTs := gTs_of 390 (by decide +kernel) (by decide +kernel)
theorem gw_428 : Cond.methodLink RX0 100 yX0_nextNumber ∈ gTs := gTs_of 428 (by decide +kernel) (by decide +kernel)
theorem gw_430 : Cond.instanceMethod yX0_nextNumber ∈ gTs := gTs_of 430 (by decide +kernel) (by decide +kernel)
theorem gw_431 : Cond.code yX0_nextNumber cX0_nextNumber 1 none ∈ gTs := gTs_of 431 (by decide +kernel) (by decide +kernel)
theorem gw_432 : Cond.methodLink RX0 103 yX0_isSign ∈ gTs := gTs_of 432 (by decide +kernel) (by decide +kernel)
theorem gw_433 : Cond.static yX0_isSign ∈ gTs := gTs_of 433 (by decide +kernel) (by decide +kernel)
theorem gw_434 : Cond.code yX0_isSign cX0_isSign 1 (some .boolean) ∈ gTs := gTs_of 434 (by decide +kernel) (by decide +kernel)
theorem gw_435 : Cond.methodLink RX0 40 yX0_needs ∈ gTs := gTs_of 435 (by decide +kernel) (by decide +kernel)
theorem gw_437 : Cond.instanceMethod yX0_needs ∈ gTs := gTs_of 437 (by decide +kernel) (by decide +kernel)
theorem gw_438 : Cond.code yX0_needs cX0_needs 2 none ∈ gTs := gTs_of 438 (by decide +kernel) (by decide +kernel)
theorem gw_439 : Cond.methodLink RX0 53 yX0_fails ∈ gTs := gTs_of 439 (by decide +kernel) (by decide +kernel)
theorem gw_441 : Cond.instanceMethod yX0_fails ∈ gTs := gTs_of 441 (by decide +kernel) (by decide +kernel)
theorem gw_442 : Cond.code yX0_fails cX0_fails 1 none ∈ gTs := gTs_of 442 (by decide +kernel) (by decide +kernel)
theorem gw_443 : Cond.methodLink RX0 44 yX0_readOr ∈ gTs := gTs_of 443 (by decide +kernel) (by decide +kernel)
theorem gw_445 : Cond.instanceMethod yX0_readOr ∈ gTs := gTs_of 445 (by decide +kernel) (by decide +kernel)
theorem gw_446 : Cond.code yX0_readOr cX0_readOr 2 none ∈ gTs := gTs_of 446 (by decide +kernel) (by decide +kernel)
theorem gw_447 : Cond.methodLink RX0 59 yX0_readAnd ∈ gTs := gTs_of 447 (by decide +kernel) (by decide +kernel)
theorem gw_449 : Cond.instanceMethod yX0_readAnd ∈ gTs := gTs_of 449 (by decide +kernel) (by decide +kernel)
theorem gw_450 : Cond.code yX0_readAnd cX0_readAnd 2 none ∈ gTs := gTs_of 450 (by decide +kernel) (by decide +kernel)
theorem gw_451 : Cond.methodLink RX0 65 yX0_readNot ∈ gTs := gTs_of 451 (by decide +kernel) (by decide +kernel)
theorem gw_453 : Cond.instanceMethod yX0_readNot ∈ gTs := gTs_of 453 (by decide +kernel) (by decide +kernel)
theorem gw_454 : Cond.code yX0_readNot cX0_readNot 1 none ∈ gTs := gTs_of 454 (by decide +kernel) (by decide +kernel)
theorem gw_455 : Cond.methodLink RX0 68 yX0_readCompared ∈ gTs := gTs_of 455 (by decide +kernel) (by decide +kernel)
theorem gw_457 : Cond.instanceMethod yX0_readCompared ∈ gTs := gTs_of 457 (by decide +kernel) (by decide +kernel)
theorem gw_458 : Cond.code yX0_readCompared cX0_readCompared 2 none ∈ gTs := gTs_of 458 (by decide +kernel) (by decide +kernel)
theorem gw_459 : Cond.methodLink RX0 75 yX0_readSum ∈ gTs := gTs_of 459 (by decide +kernel) (by decide +kernel)
theorem gw_461 : Cond.instanceMethod yX0_readSum ∈ gTs := gTs_of 461 (by decide +kernel) (by decide +kernel)
theorem gw_462 : Cond.code yX0_readSum cX0_readSum 3 none ∈ gTs := gTs_of 462 (by decide +kernel) (by decide +kernel)
theorem gw_463 : Cond.methodLink RX0 78 yX0_readTerm ∈ gTs := gTs_of 463 (by decide +kernel) (by decide +kernel)
theorem gw_465 : Cond.instanceMethod yX0_readTerm ∈ gTs := gTs_of 465 (by decide +kernel) (by decide +kernel)
theorem gw_466 : Cond.code yX0_readTerm cX0_readTerm 2 none ∈ gTs := gTs_of 466 (by decide +kernel) (by decide +kernel)
theorem gw_467 : Cond.methodLink RX0 81 yX0_readOne ∈ gTs := gTs_of 467 (by decide +kernel) (by decide +kernel)
theorem gw_469 : Cond.instanceMethod yX0_readOne ∈ gTs := gTs_of 469 (by decide +kernel) (by decide +kernel)
theorem gw_470 : Cond.code yX0_readOne cX0_readOne 1 none ∈ gTs := gTs_of 470 (by decide +kernel) (by decide +kernel)
theorem gw_471 : Cond.methodLink RX0 62 yX3_add ∈ gTs := gTs_of 471 (by decide +kernel) (by decide +kernel)
theorem gw_472 : Cond.instanceMethod yX3_add ∈ gTs := gTs_of 472 (by decide +kernel) (by decide +kernel)
theorem gw_473 : Cond.selects RX3 yX3_add yX3_add ∈ gTs := gTs_of 473 (by decide +kernel) (by decide +kernel)
theorem gw_474 : Cond.code yX3_add cX3_add 2 none ∈ gTs := gTs_of 474 (by decide +kernel) (by decide +kernel)
theorem gw_475 : Cond.methodLink RX0 91 yX0_readMinus ∈ gTs := gTs_of 475 (by decide +kernel) (by decide +kernel)
theorem gw_477 : Cond.instanceMethod yX0_readMinus ∈ gTs := gTs_of 477 (by decide +kernel) (by decide +kernel)
theorem gw_478 : Cond.code yX0_readMinus cX0_readMinus 1 none ∈ gTs := gTs_of 478 (by decide +kernel) (by decide +kernel)
theorem gw_479 : Cond.methodLink RX0 71 yX0_opens ∈ gTs := gTs_of 479 (by decide +kernel) (by decide +kernel)
theorem gw_481 : Cond.instanceMethod yX0_opens ∈ gTs := gTs_of 481 (by decide +kernel) (by decide +kernel)
theorem gw_482 : Cond.code yX0_opens cX0_opens 1 (some .boolean) ∈ gTs := gTs_of 482 (by decide +kernel) (by decide +kernel)
theorem gw_483 : Cond.methodLink RX0 94 yX0_readBracket ∈ gTs := gTs_of 483 (by decide +kernel) (by decide +kernel)
theorem gw_485 : Cond.instanceMethod yX0_readBracket ∈ gTs := gTs_of 485 (by decide +kernel) (by decide +kernel)
theorem gw_486 : Cond.code yX0_readBracket cX0_readBracket 1 none ∈ gTs := gTs_of 486 (by decide +kernel) (by decide +kernel)
theorem gw_487 : Cond.methodLink RX0 47 yX3_endHere ∈ gTs := gTs_of 487 (by decide +kernel) (by decide +kernel)
theorem gw_488 : Cond.instanceMethod yX3_endHere ∈ gTs := gTs_of 488 (by decide +kernel) (by decide +kernel)
theorem gw_489 : Cond.selects RX3 yX3_endHere yX3_endHere ∈ gTs := gTs_of 489 (by decide +kernel) (by decide +kernel)
theorem gw_490 : Cond.code yX3_endHere cX3_endHere 2 none ∈ gTs := gTs_of 490 (by decide +kernel) (by decide +kernel)
theorem gw_496 : Cond.methodLink RX4 133 yX4_isText ∈ gTs := gTs_of 496 (by decide +kernel) (by decide +kernel)
theorem gw_498 : Cond.instanceMethod yX4_isText ∈ gTs := gTs_of 498 (by decide +kernel) (by decide +kernel)
theorem gw_499 : Cond.code yX4_isText cX4_isText 2 (some .boolean) ∈ gTs := gTs_of 499 (by decide +kernel) (by decide +kernel)
theorem gw_504 : Cond.methodLink RX4 143 yX2_build ∈ gTs := gTs_of 504 (by decide +kernel) (by decide +kernel)
theorem gw_505 : Cond.instanceMethod yX2_build ∈ gTs := gTs_of 505 (by decide +kernel) (by decide +kernel)
theorem gw_506 : Cond.selects RX2 yX2_build yX2_build ∈ gTs := gTs_of 506 (by decide +kernel) (by decide +kernel)
theorem gw_507 : Cond.code yX2_build cX2_build 3 none ∈ gTs := gTs_of 507 (by decide +kernel) (by decide +kernel)
theorem gw_508 : Cond.methodLink RX2 104 yX2_makes ∈ gTs := gTs_of 508 (by decide +kernel) (by decide +kernel)
theorem gw_513 : Cond.methodLink RX4 147 yX2_bind ∈ gTs := gTs_of 513 (by decide +kernel) (by decide +kernel)
theorem gw_514 : Cond.instanceMethod yX2_bind ∈ gTs := gTs_of 514 (by decide +kernel) (by decide +kernel)
theorem gw_515 : Cond.selects RX2 yX2_bind yX2_bind ∈ gTs := gTs_of 515 (by decide +kernel) (by decide +kernel)
theorem gw_516 : Cond.code yX2_bind cX2_bind 2 none ∈ gTs := gTs_of 516 (by decide +kernel) (by decide +kernel)
theorem gw_517 : Cond.methodLink RX4 150 yX2_who ∈ gTs := gTs_of 517 (by decide +kernel) (by decide +kernel)
theorem gw_522 : Cond.methodLink RX4 153 yX2_isDown ∈ gTs := gTs_of 522 (by decide +kernel) (by decide +kernel)
theorem gw_523 : Cond.instanceMethod yX2_isDown ∈ gTs := gTs_of 523 (by decide +kernel) (by decide +kernel)
theorem gw_524 : Cond.selects RX2 yX2_isDown yX2_isDown ∈ gTs := gTs_of 524 (by decide +kernel) (by decide +kernel)
theorem gw_525 : Cond.code yX2_isDown cX2_isDown 1 (some .boolean) ∈ gTs := gTs_of 525 (by decide +kernel) (by decide +kernel)
theorem gw_526 : Cond.methodLink RX4 157 yX2_allMove ∈ gTs := gTs_of 526 (by decide +kernel) (by decide +kernel)
theorem gw_527 : Cond.instanceMethod yX2_allMove ∈ gTs := gTs_of 527 (by decide +kernel) (by decide +kernel)
theorem gw_528 : Cond.selects RX2 yX2_allMove yX2_allMove ∈ gTs := gTs_of 528 (by decide +kernel) (by decide +kernel)
theorem gw_529 : Cond.code yX2_allMove cX2_allMove 4 none ∈ gTs := gTs_of 529 (by decide +kernel) (by decide +kernel)
theorem gw_534 : Cond.methodLink RX4 160 yX2_passDay ∈ gTs := gTs_of 534 (by decide +kernel) (by decide +kernel)
theorem gw_535 : Cond.instanceMethod yX2_passDay ∈ gTs := gTs_of 535 (by decide +kernel) (by decide +kernel)
theorem gw_536 : Cond.selects RX2 yX2_passDay yX2_passDay ∈ gTs := gTs_of 536 (by decide +kernel) (by decide +kernel)
theorem gw_537 : Cond.code yX2_passDay cX2_passDay 3 none ∈ gTs := gTs_of 537 (by decide +kernel) (by decide +kernel)
theorem gw_538 : Cond.methodLink RX2 107 yX2_isDown ∈ gTs := gTs_of 538 (by decide +kernel) (by decide +kernel)
theorem gw_539 : Cond.methodLink RX2 111 yX2_allLeak ∈ gTs := gTs_of 539 (by decide +kernel) (by decide +kernel)
theorem gw_540 : Cond.instanceMethod yX2_allLeak ∈ gTs := gTs_of 540 (by decide +kernel) (by decide +kernel)
theorem gw_541 : Cond.selects RX2 yX2_allLeak yX2_allLeak ∈ gTs := gTs_of 541 (by decide +kernel) (by decide +kernel)
theorem gw_542 : Cond.code yX2_allLeak cX2_allLeak 3 (some .int) ∈ gTs := gTs_of 542 (by decide +kernel) (by decide +kernel)
theorem gw_543 : Cond.methodLink RX2 79 yX2_leaks ∈ gTs := gTs_of 543 (by decide +kernel) (by decide +kernel)
theorem gw_544 : Cond.methodLink RX2 115 yX2_pumps ∈ gTs := gTs_of 544 (by decide +kernel) (by decide +kernel)
theorem gw_545 : Cond.methodLink RX2 118 yX2_leastSound ∈ gTs := gTs_of 545 (by decide +kernel) (by decide +kernel)
theorem gw_547 : Cond.instanceMethod yX2_leastSound ∈ gTs := gTs_of 547 (by decide +kernel) (by decide +kernel)
theorem gw_548 : Cond.code yX2_leastSound cX2_leastSound 5 (some .int) ∈ gTs := gTs_of 548 (by decide +kernel) (by decide +kernel)
theorem gw_549 : Cond.methodLink RX2 121 yX2_mends ∈ gTs := gTs_of 549 (by decide +kernel) (by decide +kernel)
theorem gw_550 : Cond.methodLink RX2 124 yX2_allMove ∈ gTs := gTs_of 550 (by decide +kernel) (by decide +kernel)
theorem gw_555 : Cond.methodLink RX4 163 yX2_becomes ∈ gTs := gTs_of 555 (by decide +kernel) (by decide +kernel)
theorem gw_556 : Cond.instanceMethod yX2_becomes ∈ gTs := gTs_of 556 (by decide +kernel) (by decide +kernel)
theorem gw_557 : Cond.selects RX2 yX2_becomes yX2_becomes ∈ gTs := gTs_of 557 (by decide +kernel) (by decide +kernel)
theorem gw_558 : Cond.code yX2_becomes cX2_becomes 2 none ∈ gTs := gTs_of 558 (by decide +kernel) (by decide +kernel)
theorem gw_559 : Cond.methodLink RX2 41 arraycopyName ∈ gTs := gTs_of 559 (by decide +kernel) (by decide +kernel)
theorem gw_560 : Cond.static arraycopyName ∈ gTs := gTs_of 560 (by decide +kernel) (by decide +kernel)
theorem gw_561 : Cond.native arraycopyName ∈ gTs := gTs_of 561 (by decide +kernel) (by decide +kernel)
theorem gw_562 : Cond.methodLink RX4 167 yX2_pass ∈ gTs := gTs_of 562 (by decide +kernel) (by decide +kernel)
theorem gw_563 : Cond.instanceMethod yX2_pass ∈ gTs := gTs_of 563 (by decide +kernel) (by decide +kernel)
theorem gw_564 : Cond.selects RX2 yX2_pass yX2_pass ∈ gTs := gTs_of 564 (by decide +kernel) (by decide +kernel)
theorem gw_565 : Cond.code yX2_pass cX2_pass 3 none ∈ gTs := gTs_of 565 (by decide +kernel) (by decide +kernel)
theorem gw_566 : Cond.methodLink RX2 128 yX2_passDay ∈ gTs := gTs_of 566 (by decide +kernel) (by decide +kernel)
theorem gw_567 : Cond.methodLink RX4 170 yX2_allLeak ∈ gTs := gTs_of 567 (by decide +kernel) (by decide +kernel)
theorem gw_576 : Cond.methodLink RX4 174 yX2_partsMade ∈ gTs := gTs_of 576 (by decide +kernel) (by decide +kernel)
theorem gw_577 : Cond.instanceMethod yX2_partsMade ∈ gTs := gTs_of 577 (by decide +kernel) (by decide +kernel)
theorem gw_578 : Cond.selects RX2 yX2_partsMade yX2_partsMade ∈ gTs := gTs_of 578 (by decide +kernel) (by decide +kernel)
theorem gw_579 : Cond.code yX2_partsMade cX2_partsMade 1 (some .int) ∈ gTs := gTs_of 579 (by decide +kernel) (by decide +kernel)
theorem gw_580 : Cond.methodLink RX4 177 Lib.Math.min.name ∈ gTs := gTs_of 580 (by decide +kernel) (by decide +kernel)
theorem gw_581 : Cond.fieldLink RX4 182 "WhoBuiltSails" "WAYS" "[I" ∈ gTs := gTs_of 581 (by decide +kernel) (by decide +kernel)
theorem gw_583 : Cond.methodLink RX4 185 yX4_waterBy ∈ gTs := gTs_of 583 (by decide +kernel) (by decide +kernel)
theorem gw_585 : Cond.instanceMethod yX4_waterBy ∈ gTs := gTs_of 585 (by decide +kernel) (by decide +kernel)
theorem gw_586 : Cond.code yX4_waterBy cX4_waterBy 7 (some .int) ∈ gTs := gTs_of 586 (by decide +kernel) (by decide +kernel)
theorem gw_587 : Cond.methodLink RX4 188 yX2_nextUnmade ∈ gTs := gTs_of 587 (by decide +kernel) (by decide +kernel)
theorem gw_588 : Cond.instanceMethod yX2_nextUnmade ∈ gTs := gTs_of 588 (by decide +kernel) (by decide +kernel)
theorem gw_589 : Cond.selects RX2 yX2_nextUnmade yX2_nextUnmade ∈ gTs := gTs_of 589 (by decide +kernel) (by decide +kernel)
theorem gw_590 : Cond.code yX2_nextUnmade cX2_nextUnmade 3 (some .int) ∈ gTs := gTs_of 590 (by decide +kernel) (by decide +kernel)
theorem gw_599 : Cond.methodLink RX4 194 yJ6_bitCount_0f7a4 ∈ gTs := gTs_of 599 (by decide +kernel) (by decide +kernel)
theorem gw_600 : Cond.methodLink RX4 199 yX4_comesHomeWith ∈ gTs := gTs_of 600 (by decide +kernel) (by decide +kernel)
theorem gw_602 : Cond.instanceMethod yX4_comesHomeWith ∈ gTs := gTs_of 602 (by decide +kernel) (by decide +kernel)
theorem gw_603 : Cond.code yX4_comesHomeWith cX4_comesHomeWith 4 (some .boolean) ∈ gTs := gTs_of 603 (by decide +kernel) (by decide +kernel)
theorem gw_612 : Cond.constantLong RX4 203 (-4611686018427387904) ∈ gTs := gTs_of 612 (by decide +kernel) (by decide +kernel)
theorem gw_613 : Cond.methodLink RX4 205 yX4_lowestTerms ∈ gTs := gTs_of 613 (by decide +kernel) (by decide +kernel)
theorem gw_614 : Cond.static yX4_lowestTerms ∈ gTs := gTs_of 614 (by decide +kernel) (by decide +kernel)
theorem gw_615 : Cond.code yX4_lowestTerms cX4_lowestTerms 5 (some .long) ∈ gTs := gTs_of 615 (by decide +kernel) (by decide +kernel)
theorem gw_620 : Cond.methodLink RX4 209 yX4_isSheet ∈ gTs := gTs_of 620 (by decide +kernel) (by decide +kernel)
theorem gw_621 : Cond.static yX4_isSheet ∈ gTs := gTs_of 621 (by decide +kernel) (by decide +kernel)
theorem gw_622 : Cond.code yX4_isSheet cX4_isSheet 1 (some .boolean) ∈ gTs := gTs_of 622 (by decide +kernel) (by decide +kernel)
theorem gw_623 : Cond.methodLink RX4 212 yX1_isMissing ∈ gTs := gTs_of 623 (by decide +kernel) (by decide +kernel)
theorem gw_624 : Cond.instanceMethod yX1_isMissing ∈ gTs := gTs_of 624 (by decide +kernel) (by decide +kernel)
theorem gw_625 : Cond.selects RX1 yX1_isMissing yX1_isMissing ∈ gTs := gTs_of 625 (by decide +kernel) (by decide +kernel)
theorem gw_626 : Cond.code yX1_isMissing cX1_isMissing 1 (some .boolean) ∈ gTs := gTs_of 626 (by decide +kernel) (by decide +kernel)
theorem gw_627 : Cond.methodLink RX4 216 yX4_firstOtherwise ∈ gTs := gTs_of 627 (by decide +kernel) (by decide +kernel)
theorem gw_629 : Cond.instanceMethod yX4_firstOtherwise ∈ gTs := gTs_of 629 (by decide +kernel) (by decide +kernel)
theorem gw_630 : Cond.code yX4_firstOtherwise cX4_firstOtherwise 6 (some .int) ∈ gTs := gTs_of 630 (by decide +kernel) (by decide +kernel)
theorem gw_631 : Cond.methodLink RX4 220 yX4_bitsThatFit ∈ gTs := gTs_of 631 (by decide +kernel) (by decide +kernel)
theorem gw_633 : Cond.instanceMethod yX4_bitsThatFit ∈ gTs := gTs_of 633 (by decide +kernel) (by decide +kernel)
theorem gw_634 : Cond.code yX4_bitsThatFit cX4_bitsThatFit 7 (some .int) ∈ gTs := gTs_of 634 (by decide +kernel) (by decide +kernel)
theorem gw_635 : Cond.methodLink RX4 223 yX4_howManyFit ∈ gTs := gTs_of 635 (by decide +kernel) (by decide +kernel)
theorem gw_637 : Cond.instanceMethod yX4_howManyFit ∈ gTs := gTs_of 637 (by decide +kernel) (by decide +kernel)
theorem gw_638 : Cond.code yX4_howManyFit cX4_howManyFit 6 (some .int) ∈ gTs := gTs_of 638 (by decide +kernel) (by decide +kernel)
theorem gw_639 : Cond.methodLink RX4 227 yX4_leastThatFits ∈ gTs := gTs_of 639 (by decide +kernel) (by decide +kernel)
theorem gw_641 : Cond.instanceMethod yX4_leastThatFits ∈ gTs := gTs_of 641 (by decide +kernel) (by decide +kernel)
theorem gw_642 : Cond.code yX4_leastThatFits cX4_leastThatFits 5 (some .int) ∈ gTs := gTs_of 642 (by decide +kernel) (by decide +kernel)
theorem gw_647 : Cond.methodLink RX4 233 yX1_becomes ∈ gTs := gTs_of 647 (by decide +kernel) (by decide +kernel)
theorem gw_648 : Cond.instanceMethod yX1_becomes ∈ gTs := gTs_of 648 (by decide +kernel) (by decide +kernel)
theorem gw_649 : Cond.selects RX1 yX1_becomes yX1_becomes ∈ gTs := gTs_of 649 (by decide +kernel) (by decide +kernel)
theorem gw_650 : Cond.code yX1_becomes cX1_becomes 4 none ∈ gTs := gTs_of 650 (by decide +kernel) (by decide +kernel)
theorem gw_651 : Cond.methodLink RX1 19 Lib.Math.min.name ∈ gTs := gTs_of 651 (by decide +kernel) (by decide +kernel)
theorem gw_652 : Cond.methodLink RX1 25 Lib.Math.max.name ∈ gTs := gTs_of 652 (by decide +kernel) (by decide +kernel)
theorem gw_653 : Cond.methodLink RX4 235 yX1_put ∈ gTs := gTs_of 653 (by decide +kernel) (by decide +kernel)
theorem gw_654 : Cond.instanceMethod yX1_put ∈ gTs := gTs_of 654 (by decide +kernel) (by decide +kernel)
theorem gw_655 : Cond.selects RX1 yX1_put yX1_put ∈ gTs := gTs_of 655 (by decide +kernel) (by decide +kernel)
theorem gw_656 : Cond.code yX1_put cX1_put 3 none ∈ gTs := gTs_of 656 (by decide +kernel) (by decide +kernel)
theorem gw_657 : Cond.methodLink RX1 35 yX1_holds ∈ gTs := gTs_of 657 (by decide +kernel) (by decide +kernel)
theorem gw_658 : Cond.instanceMethod yX1_holds ∈ gTs := gTs_of 658 (by decide +kernel) (by decide +kernel)
theorem gw_659 : Cond.selects RX1 yX1_holds yX1_holds ∈ gTs := gTs_of 659 (by decide +kernel) (by decide +kernel)
theorem gw_660 : Cond.code yX1_holds cX1_holds 3 (some .boolean) ∈ gTs := gTs_of 660 (by decide +kernel) (by decide +kernel)
theorem gw_666 : Cond.methodLink RX4 238 yX4_waterDrawn ∈ gTs := gTs_of 666 (by decide +kernel) (by decide +kernel)
theorem gw_668 : Cond.instanceMethod yX4_waterDrawn ∈ gTs := gTs_of 668 (by decide +kernel) (by decide +kernel)
theorem gw_669 : Cond.code yX4_waterDrawn cX4_waterDrawn 5 (some .int) ∈ gTs := gTs_of 669 (by decide +kernel) (by decide +kernel)
theorem gw_670 : Cond.constant RX4 241 (1103515245) ∈ gTs := gTs_of 670 (by decide +kernel) (by decide +kernel)
theorem gw_695 : Cond.methodLink RX4 246 yX1_holds ∈ gTs := gTs_of 695 (by decide +kernel) (by decide +kernel)
theorem gw_700 : Cond.methodLink RX4 252 arraycopyName ∈ gTs := gTs_of 700 (by decide +kernel) (by decide +kernel)
theorem gw_705 : Cond.methodLink RX4 258 yX4_wright ∈ gTs := gTs_of 705 (by decide +kernel) (by decide +kernel)
theorem gw_710 : Cond.fieldLink RX4 261 "WhoBuiltSails" "ABOVE" "[I" ∈ gTs := gTs_of 710 (by decide +kernel) (by decide +kernel)
theorem gw_722 : Cond.fieldLink RX5 13 "WhoBuiltSailsModel" "texts" "[I" ∈ gTs := gTs_of 722 (by decide +kernel) (by decide +kernel)
theorem gw_723 : Cond.fieldLink RX5 17 "WhoBuiltSailsModel" "textSize" "[I" ∈ gTs := gTs_of 723 (by decide +kernel) (by decide +kernel)
theorem gw_724 : Cond.fieldLink RX5 70 "WhoBuiltSailsModel" "textCount" "I" ∈ gTs := gTs_of 724 (by decide +kernel) (by decide +kernel)
theorem gw_725 : Cond.fieldLink RX5 113 "WhoBuiltSailsModel" "rule" "I" ∈ gTs := gTs_of 725 (by decide +kernel) (by decide +kernel)
theorem gw_726 : Cond.fieldLink RX5 20 "WhoBuiltSailsModel" "tape" "[I" ∈ gTs := gTs_of 726 (by decide +kernel) (by decide +kernel)
theorem gw_727 : Cond.fieldLink RX5 134 "WhoBuiltSailsModel" "taped" "I" ∈ gTs := gTs_of 727 (by decide +kernel) (by decide +kernel)
theorem gw_728 : Cond.fieldLink RX5 107 "WhoBuiltSailsModel" "dayNow" "I" ∈ gTs := gTs_of 728 (by decide +kernel) (by decide +kernel)
theorem gw_729 : Cond.fieldLink RX5 23 "WhoBuiltSailsModel" "sea" "I" ∈ gTs := gTs_of 729 (by decide +kernel) (by decide +kernel)
theorem gw_730 : Cond.fieldLink RX5 110 "WhoBuiltSailsModel" "water" "I" ∈ gTs := gTs_of 730 (by decide +kernel) (by decide +kernel)
theorem gw_731 : Cond.fieldLink RX5 26 "WhoBuiltSailsModel" "by" "[I" ∈ gTs := gTs_of 731 (by decide +kernel) (by decide +kernel)
theorem gw_732 : Cond.fieldLink RX5 29 "WhoBuiltSailsModel" "sound" "[I" ∈ gTs := gTs_of 732 (by decide +kernel) (by decide +kernel)
theorem gw_733 : Cond.fieldLink RX5 32 "WhoBuiltSailsModel" "rows" "[I" ∈ gTs := gTs_of 733 (by decide +kernel) (by decide +kernel)
theorem gw_734 : Cond.fieldLink RX5 73 "WhoBuiltSailsModel" "many" "I" ∈ gTs := gTs_of 734 (by decide +kernel) (by decide +kernel)
theorem gw_735 : Cond.fieldLink RX5 192 "WhoBuiltSailsModel" "ofSkill" "I" ∈ gTs := gTs_of 735 (by decide +kernel) (by decide +kernel)
theorem gw_736 : Cond.fieldLink RX5 195 "WhoBuiltSailsModel" "ofSound" "I" ∈ gTs := gTs_of 736 (by decide +kernel) (by decide +kernel)
theorem gw_737 : Cond.fieldLink RX5 198 "WhoBuiltSailsModel" "ofNumber" "I" ∈ gTs := gTs_of 737 (by decide +kernel) (by decide +kernel)
theorem gw_738 : Cond.fieldLink RX5 201 "WhoBuiltSailsModel" "ofDay" "I" ∈ gTs := gTs_of 738 (by decide +kernel) (by decide +kernel)
theorem gw_739 : Cond.fieldLink RX5 204 "WhoBuiltSailsModel" "ofWater" "I" ∈ gTs := gTs_of 739 (by decide +kernel) (by decide +kernel)
theorem gw_740 : Cond.fieldLink RX5 207 "WhoBuiltSailsModel" "ofPart" "I" ∈ gTs := gTs_of 740 (by decide +kernel) (by decide +kernel)
theorem gw_741 : Cond.fieldLink RX5 140 "WhoBuiltSailsModel" "from" "I" ∈ gTs := gTs_of 741 (by decide +kernel) (by decide +kernel)
theorem gw_742 : Cond.fieldLink RX5 137 "WhoBuiltSailsModel" "size" "I" ∈ gTs := gTs_of 742 (by decide +kernel) (by decide +kernel)
theorem gw_743 : Cond.fieldLink RX5 143 "WhoBuiltSailsModel" "here" "I" ∈ gTs := gTs_of 743 (by decide +kernel) (by decide +kernel)
theorem gw_744 : Cond.fieldLink RX5 152 "WhoBuiltSailsModel" "token" "I" ∈ gTs := gTs_of 744 (by decide +kernel) (by decide +kernel)
theorem gw_745 : Cond.fieldLink RX5 149 "WhoBuiltSailsModel" "tokenAt" "I" ∈ gTs := gTs_of 745 (by decide +kernel) (by decide +kernel)
theorem gw_746 : Cond.fieldLink RX5 163 "WhoBuiltSailsModel" "tokenWorth" "J" ∈ gTs := gTs_of 746 (by decide +kernel) (by decide +kernel)
theorem gw_747 : Cond.fieldLink RX5 179 "WhoBuiltSailsModel" "open" "I" ∈ gTs := gTs_of 747 (by decide +kernel) (by decide +kernel)
theorem gw_748 : Cond.fieldLink RX5 169 "WhoBuiltSailsModel" "bad" "Z" ∈ gTs := gTs_of 748 (by decide +kernel) (by decide +kernel)
theorem gw_749 : Cond.fieldLink RX5 173 "WhoBuiltSailsModel" "fault" "I" ∈ gTs := gTs_of 749 (by decide +kernel) (by decide +kernel)
theorem gw_750 : Cond.fieldLink RX5 35 "WhoBuiltSailsModel" "was" "[I" ∈ gTs := gTs_of 750 (by decide +kernel) (by decide +kernel)
theorem gw_751 : Cond.fieldLink RX5 38 "WhoBuiltSailsModel" "bare" "[I" ∈ gTs := gTs_of 751 (by decide +kernel) (by decide +kernel)
theorem gw_752 : Cond.fieldLink RX5 303 "WhoBuiltSailsModel" "bareMany" "I" ∈ gTs := gTs_of 752 (by decide +kernel) (by decide +kernel)
theorem gw_753 : Cond.fieldLink RX5 309 "WhoBuiltSailsModel" "bestRow" "I" ∈ gTs := gTs_of 753 (by decide +kernel) (by decide +kernel)
theorem gw_754 : Cond.fieldLink RX5 306 "WhoBuiltSailsModel" "bestWater" "I" ∈ gTs := gTs_of 754 (by decide +kernel) (by decide +kernel)
theorem gw_755 : Cond.fieldLink RX5 41 "WhoBuiltSailsModel" "rowsKept" "[I" ∈ gTs := gTs_of 755 (by decide +kernel) (by decide +kernel)
theorem gw_756 : Cond.fieldLink RX5 44 "WhoBuiltSailsModel" "byKept" "[I" ∈ gTs := gTs_of 756 (by decide +kernel) (by decide +kernel)
theorem gw_757 : Cond.fieldLink RX5 47 "WhoBuiltSailsModel" "soundKept" "[I" ∈ gTs := gTs_of 757 (by decide +kernel) (by decide +kernel)
theorem gw_758 : Cond.fieldLink RX5 50 "WhoBuiltSailsModel" "manyKept" "I" ∈ gTs := gTs_of 758 (by decide +kernel) (by decide +kernel)
theorem gw_759 : Cond.fieldLink RX5 351 "WhoBuiltSailsModel" "dayKept" "I" ∈ gTs := gTs_of 759 (by decide +kernel) (by decide +kernel)
theorem gw_760 : Cond.fieldLink RX5 354 "WhoBuiltSailsModel" "seaKept" "I" ∈ gTs := gTs_of 760 (by decide +kernel) (by decide +kernel)
theorem gw_761 : Cond.fieldLink RX5 357 "WhoBuiltSailsModel" "waterKept" "I" ∈ gTs := gTs_of 761 (by decide +kernel) (by decide +kernel)
theorem gw_762 : Cond.fieldLink RX5 360 "WhoBuiltSailsModel" "ruleKept" "I" ∈ gTs := gTs_of 762 (by decide +kernel) (by decide +kernel)
theorem gw_763 : Cond.fieldLink RX5 53 "WhoBuiltSailsModel" "isThere" "[Z" ∈ gTs := gTs_of 763 (by decide +kernel) (by decide +kernel)
theorem gw_764 : Cond.fieldLink RX5 57 "WhoBuiltSailsModel" "sorts" "[I" ∈ gTs := gTs_of 764 (by decide +kernel) (by decide +kernel)
theorem gw_765 : Cond.fieldLink RX5 60 "WhoBuiltSailsModel" "sheetSize" "[I" ∈ gTs := gTs_of 765 (by decide +kernel) (by decide +kernel)
theorem gw_766 : Cond.fieldLink RX5 63 "WhoBuiltSailsModel" "items" "[I" ∈ gTs := gTs_of 766 (by decide +kernel) (by decide +kernel)
theorem gw_865 : Cond.constantLong RX5 89 (5) ∈ gTs := gTs_of 865 (by decide +kernel) (by decide +kernel)
theorem gw_866 : Cond.methodLink RX5 76 yX5_in ∈ gTs := gTs_of 866 (by decide +kernel) (by decide +kernel)
theorem gw_867 : Cond.static yX5_in ∈ gTs := gTs_of 867 (by decide +kernel) (by decide +kernel)
theorem gw_868 : Cond.code yX5_in cX5_in 6 (some .boolean) ∈ gTs := gTs_of 868 (by decide +kernel) (by decide +kernel)
theorem gw_869 : Cond.methodLink RX5 91 yX5_isOf ∈ gTs := gTs_of 869 (by decide +kernel) (by decide +kernel)
theorem gw_871 : Cond.instanceMethod yX5_isOf ∈ gTs := gTs_of 871 (by decide +kernel) (by decide +kernel)
theorem gw_872 : Cond.code yX5_isOf cX5_isOf 3 (some .boolean) ∈ gTs := gTs_of 872 (by decide +kernel) (by decide +kernel)
theorem gw_873 : Cond.methodLink RX5 82 yX5_isPart ∈ gTs := gTs_of 873 (by decide +kernel) (by decide +kernel)
theorem gw_874 : Cond.static yX5_isPart ∈ gTs := gTs_of 874 (by decide +kernel) (by decide +kernel)
theorem gw_875 : Cond.code yX5_isPart cX5_isPart 1 (some .boolean) ∈ gTs := gTs_of 875 (by decide +kernel) (by decide +kernel)
theorem gw_876 : Cond.constantLong RX5 80 (9) ∈ gTs := gTs_of 876 (by decide +kernel) (by decide +kernel)
theorem gw_877 : Cond.methodLink RX5 86 yX5_isOne ∈ gTs := gTs_of 877 (by decide +kernel) (by decide +kernel)
theorem gw_879 : Cond.instanceMethod yX5_isOne ∈ gTs := gTs_of 879 (by decide +kernel) (by decide +kernel)
theorem gw_880 : Cond.code yX5_isOne cX5_isOne 2 (some .boolean) ∈ gTs := gTs_of 880 (by decide +kernel) (by decide +kernel)
theorem gw_881 : Cond.methodLink RX5 95 yX5_mostOf ∈ gTs := gTs_of 881 (by decide +kernel) (by decide +kernel)
theorem gw_882 : Cond.static yX5_mostOf ∈ gTs := gTs_of 882 (by decide +kernel) (by decide +kernel)
theorem gw_883 : Cond.code yX5_mostOf cX5_mostOf 1 (some .int) ∈ gTs := gTs_of 883 (by decide +kernel) (by decide +kernel)
theorem gw_884 : Cond.methodLink RX5 99 yX5_told ∈ gTs := gTs_of 884 (by decide +kernel) (by decide +kernel)
theorem gw_885 : Cond.instanceMethod yX5_told ∈ gTs := gTs_of 885 (by decide +kernel) (by decide +kernel)
theorem gw_886 : Cond.selects RX5 yX5_told yX5_told ∈ gTs := gTs_of 886 (by decide +kernel) (by decide +kernel)
theorem gw_887 : Cond.code yX5_told cX5_told 3 (some .int) ∈ gTs := gTs_of 887 (by decide +kernel) (by decide +kernel)
theorem gw_888 : Cond.constantLong RX5 118 (11) ∈ gTs := gTs_of 888 (by decide +kernel) (by decide +kernel)
theorem gw_889 : Cond.methodLink RX5 120 yX5_madeBy ∈ gTs := gTs_of 889 (by decide +kernel) (by decide +kernel)
theorem gw_891 : Cond.instanceMethod yX5_madeBy ∈ gTs := gTs_of 891 (by decide +kernel) (by decide +kernel)
theorem gw_892 : Cond.code yX5_madeBy cX5_madeBy 4 (some .int) ∈ gTs := gTs_of 892 (by decide +kernel) (by decide +kernel)
theorem gw_893 : Cond.methodLink RX5 123 yX5_pumpsOf ∈ gTs := gTs_of 893 (by decide +kernel) (by decide +kernel)
theorem gw_895 : Cond.instanceMethod yX5_pumpsOf ∈ gTs := gTs_of 895 (by decide +kernel) (by decide +kernel)
theorem gw_896 : Cond.code yX5_pumpsOf cX5_pumpsOf 5 (some .int) ∈ gTs := gTs_of 896 (by decide +kernel) (by decide +kernel)
theorem gw_897 : Cond.methodLink RX5 257 yX5_says ∈ gTs := gTs_of 897 (by decide +kernel) (by decide +kernel)
theorem gw_899 : Cond.instanceMethod yX5_says ∈ gTs := gTs_of 899 (by decide +kernel) (by decide +kernel)
theorem gw_900 : Cond.code yX5_says cX5_says 4 (some .int) ∈ gTs := gTs_of 900 (by decide +kernel) (by decide +kernel)
theorem gw_901 : Cond.methodLink RX5 247 yX5_read ∈ gTs := gTs_of 901 (by decide +kernel) (by decide +kernel)
theorem gw_903 : Cond.instanceMethod yX5_read ∈ gTs := gTs_of 903 (by decide +kernel) (by decide +kernel)
theorem gw_904 : Cond.code yX5_read cX5_read 6 (some .int) ∈ gTs := gTs_of 904 (by decide +kernel) (by decide +kernel)
theorem gw_905 : Cond.methodLink RX5 185 yX5_next ∈ gTs := gTs_of 905 (by decide +kernel) (by decide +kernel)
theorem gw_907 : Cond.instanceMethod yX5_next ∈ gTs := gTs_of 907 (by decide +kernel) (by decide +kernel)
theorem gw_908 : Cond.code yX5_next cX5_next 3 none ∈ gTs := gTs_of 908 (by decide +kernel) (by decide +kernel)
theorem gw_909 : Cond.methodLink RX5 146 yX5_byteAt ∈ gTs := gTs_of 909 (by decide +kernel) (by decide +kernel)
theorem gw_911 : Cond.instanceMethod yX5_byteAt ∈ gTs := gTs_of 911 (by decide +kernel) (by decide +kernel)
theorem gw_912 : Cond.code yX5_byteAt cX5_byteAt 2 (some .int) ∈ gTs := gTs_of 912 (by decide +kernel) (by decide +kernel)
theorem gw_913 : Cond.constantLong RX5 155 (97) ∈ gTs := gTs_of 913 (by decide +kernel) (by decide +kernel)
theorem gw_914 : Cond.constantLong RX5 157 (122) ∈ gTs := gTs_of 914 (by decide +kernel) (by decide +kernel)
theorem gw_915 : Cond.constantLong RX5 159 (48) ∈ gTs := gTs_of 915 (by decide +kernel) (by decide +kernel)
theorem gw_916 : Cond.constantLong RX5 161 (57) ∈ gTs := gTs_of 916 (by decide +kernel) (by decide +kernel)
theorem gw_917 : Cond.constantLong RX5 167 (10) ∈ gTs := gTs_of 917 (by decide +kernel) (by decide +kernel)
theorem gw_918 : Cond.methodLink RX5 188 yX5_isWord ∈ gTs := gTs_of 918 (by decide +kernel) (by decide +kernel)
theorem gw_920 : Cond.instanceMethod yX5_isWord ∈ gTs := gTs_of 920 (by decide +kernel) (by decide +kernel)
theorem gw_921 : Cond.code yX5_isWord cX5_isWord 9 (some .boolean) ∈ gTs := gTs_of 921 (by decide +kernel) (by decide +kernel)
theorem gw_922 : Cond.methodLink RX5 176 yX5_isLetter ∈ gTs := gTs_of 922 (by decide +kernel) (by decide +kernel)
theorem gw_924 : Cond.instanceMethod yX5_isLetter ∈ gTs := gTs_of 924 (by decide +kernel) (by decide +kernel)
theorem gw_925 : Cond.code yX5_isLetter cX5_isLetter 3 (some .boolean) ∈ gTs := gTs_of 925 (by decide +kernel) (by decide +kernel)
theorem gw_926 : Cond.methodLink RX5 243 yX5_part ∈ gTs := gTs_of 926 (by decide +kernel) (by decide +kernel)
theorem gw_928 : Cond.instanceMethod yX5_part ∈ gTs := gTs_of 928 (by decide +kernel) (by decide +kernel)
theorem gw_929 : Cond.code yX5_part cX5_part 3 (some .int) ∈ gTs := gTs_of 929 (by decide +kernel) (by decide +kernel)
theorem gw_930 : Cond.methodLink RX5 182 yX5_fail ∈ gTs := gTs_of 930 (by decide +kernel) (by decide +kernel)
theorem gw_932 : Cond.instanceMethod yX5_fail ∈ gTs := gTs_of 932 (by decide +kernel) (by decide +kernel)
theorem gw_933 : Cond.code yX5_fail cX5_fail 1 none ∈ gTs := gTs_of 933 (by decide +kernel) (by decide +kernel)
theorem gw_934 : Cond.methodLink RX5 221 yX5_either ∈ gTs := gTs_of 934 (by decide +kernel) (by decide +kernel)
theorem gw_936 : Cond.instanceMethod yX5_either ∈ gTs := gTs_of 936 (by decide +kernel) (by decide +kernel)
theorem gw_937 : Cond.code yX5_either cX5_either 3 (some .int) ∈ gTs := gTs_of 937 (by decide +kernel) (by decide +kernel)
theorem gw_938 : Cond.methodLink RX5 240 yX5_both ∈ gTs := gTs_of 938 (by decide +kernel) (by decide +kernel)
theorem gw_940 : Cond.instanceMethod yX5_both ∈ gTs := gTs_of 940 (by decide +kernel) (by decide +kernel)
theorem gw_941 : Cond.code yX5_both cX5_both 3 (some .int) ∈ gTs := gTs_of 941 (by decide +kernel) (by decide +kernel)
theorem gw_942 : Cond.methodLink RX5 232 yX5_not ∈ gTs := gTs_of 942 (by decide +kernel) (by decide +kernel)
theorem gw_944 : Cond.instanceMethod yX5_not ∈ gTs := gTs_of 944 (by decide +kernel) (by decide +kernel)
theorem gw_945 : Cond.code yX5_not cX5_not 4 (some .int) ∈ gTs := gTs_of 945 (by decide +kernel) (by decide +kernel)
theorem gw_946 : Cond.methodLink RX5 213 yX5_opens ∈ gTs := gTs_of 946 (by decide +kernel) (by decide +kernel)
theorem gw_948 : Cond.instanceMethod yX5_opens ∈ gTs := gTs_of 948 (by decide +kernel) (by decide +kernel)
theorem gw_949 : Cond.code yX5_opens cX5_opens 1 (some .boolean) ∈ gTs := gTs_of 949 (by decide +kernel) (by decide +kernel)
theorem gw_950 : Cond.methodLink RX5 235 yX5_added ∈ gTs := gTs_of 950 (by decide +kernel) (by decide +kernel)
theorem gw_952 : Cond.instanceMethod yX5_added ∈ gTs := gTs_of 952 (by decide +kernel) (by decide +kernel)
theorem gw_953 : Cond.code yX5_added cX5_added 4 (some .int) ∈ gTs := gTs_of 953 (by decide +kernel) (by decide +kernel)
theorem gw_954 : Cond.methodLink RX5 227 yX5_term ∈ gTs := gTs_of 954 (by decide +kernel) (by decide +kernel)
theorem gw_956 : Cond.instanceMethod yX5_term ∈ gTs := gTs_of 956 (by decide +kernel) (by decide +kernel)
theorem gw_957 : Cond.code yX5_term cX5_term 2 (some .int) ∈ gTs := gTs_of 957 (by decide +kernel) (by decide +kernel)
theorem gw_958 : Cond.methodLink RX5 217 yX5_atom ∈ gTs := gTs_of 958 (by decide +kernel) (by decide +kernel)
theorem gw_960 : Cond.instanceMethod yX5_atom ∈ gTs := gTs_of 960 (by decide +kernel) (by decide +kernel)
theorem gw_961 : Cond.code yX5_atom cX5_atom 2 (some .int) ∈ gTs := gTs_of 961 (by decide +kernel) (by decide +kernel)
theorem gw_962 : Cond.methodLink RX5 210 yX5_isSign ∈ gTs := gTs_of 962 (by decide +kernel) (by decide +kernel)
theorem gw_964 : Cond.instanceMethod yX5_isSign ∈ gTs := gTs_of 964 (by decide +kernel) (by decide +kernel)
theorem gw_965 : Cond.code yX5_isSign cX5_isSign 2 (some .boolean) ∈ gTs := gTs_of 965 (by decide +kernel) (by decide +kernel)
theorem gw_966 : Cond.methodLink RX5 224 yX5_name ∈ gTs := gTs_of 966 (by decide +kernel) (by decide +kernel)
theorem gw_968 : Cond.instanceMethod yX5_name ∈ gTs := gTs_of 968 (by decide +kernel) (by decide +kernel)
theorem gw_969 : Cond.code yX5_name cX5_name 1 (some .int) ∈ gTs := gTs_of 969 (by decide +kernel) (by decide +kernel)
theorem gw_970 : Cond.constantLong RX5 230 (43) ∈ gTs := gTs_of 970 (by decide +kernel) (by decide +kernel)
theorem gw_971 : Cond.constantLong RX5 238 (60) ∈ gTs := gTs_of 971 (by decide +kernel) (by decide +kernel)
theorem gw_972 : Cond.methodLink RX5 250 yX5_within ∈ gTs := gTs_of 972 (by decide +kernel) (by decide +kernel)
theorem gw_973 : Cond.static yX5_within ∈ gTs := gTs_of 973 (by decide +kernel) (by decide +kernel)
theorem gw_974 : Cond.code yX5_within cX5_within 3 (some .int) ∈ gTs := gTs_of 974 (by decide +kernel) (by decide +kernel)
theorem gw_975 : Cond.methodLink RX5 263 yX5_whoIs ∈ gTs := gTs_of 975 (by decide +kernel) (by decide +kernel)
theorem gw_977 : Cond.instanceMethod yX5_whoIs ∈ gTs := gTs_of 977 (by decide +kernel) (by decide +kernel)
theorem gw_978 : Cond.code yX5_whoIs cX5_whoIs 4 (some .int) ∈ gTs := gTs_of 978 (by decide +kernel) (by decide +kernel)
theorem gw_979 : Cond.methodLink RX5 129 yX5_isAt ∈ gTs := gTs_of 979 (by decide +kernel) (by decide +kernel)
theorem gw_981 : Cond.instanceMethod yX5_isAt ∈ gTs := gTs_of 981 (by decide +kernel) (by decide +kernel)
theorem gw_982 : Cond.code yX5_isAt cX5_isAt 3 (some .boolean) ∈ gTs := gTs_of 982 (by decide +kernel) (by decide +kernel)
theorem gw_983 : Cond.methodLink RX5 260 yX5_bitsOf ∈ gTs := gTs_of 983 (by decide +kernel) (by decide +kernel)
theorem gw_984 : Cond.static yX5_bitsOf ∈ gTs := gTs_of 984 (by decide +kernel) (by decide +kernel)
theorem gw_985 : Cond.code yX5_bitsOf cX5_bitsOf 3 (some .int) ∈ gTs := gTs_of 985 (by decide +kernel) (by decide +kernel)
theorem gw_986 : Cond.methodLink RX5 126 yX5_leaksOf ∈ gTs := gTs_of 986 (by decide +kernel) (by decide +kernel)
theorem gw_988 : Cond.instanceMethod yX5_leaksOf ∈ gTs := gTs_of 988 (by decide +kernel) (by decide +kernel)
theorem gw_989 : Cond.code yX5_leaksOf cX5_leaksOf 3 (some .int) ∈ gTs := gTs_of 989 (by decide +kernel) (by decide +kernel)
theorem gw_990 : Cond.methodLink RX5 254 yX5_isUnder ∈ gTs := gTs_of 990 (by decide +kernel) (by decide +kernel)
theorem gw_991 : Cond.static yX5_isUnder ∈ gTs := gTs_of 991 (by decide +kernel) (by decide +kernel)
theorem gw_992 : Cond.code yX5_isUnder cX5_isUnder 1 (some .boolean) ∈ gTs := gTs_of 992 (by decide +kernel) (by decide +kernel)
theorem gw_993 : Cond.methodLink RX5 103 yX5_lays ∈ gTs := gTs_of 993 (by decide +kernel) (by decide +kernel)
theorem gw_995 : Cond.instanceMethod yX5_lays ∈ gTs := gTs_of 995 (by decide +kernel) (by decide +kernel)
theorem gw_996 : Cond.code yX5_lays cX5_lays 4 none ∈ gTs := gTs_of 996 (by decide +kernel) (by decide +kernel)
theorem gw_998 : Cond.instanceMethod yX5_wright ∈ gTs := gTs_of 998 (by decide +kernel) (by decide +kernel)
theorem gw_999 : Cond.selects RX5 yX5_wright yX5_wright ∈ gTs := gTs_of 999 (by decide +kernel) (by decide +kernel)
theorem gw_1000 : Cond.code yX5_wright cX5_wright 4 (some .int) ∈ gTs := gTs_of 1000 (by decide +kernel) (by decide +kernel)
theorem gw_1001 : Cond.constantLong RX5 116 (99) ∈ gTs := gTs_of 1001 (by decide +kernel) (by decide +kernel)
theorem gw_1007 : Cond.constantLong RX5 132 (255) ∈ gTs := gTs_of 1007 (by decide +kernel) (by decide +kernel)
theorem gw_1020 : Cond.methodLink RX5 266 yX5_makesOf ∈ gTs := gTs_of 1020 (by decide +kernel) (by decide +kernel)
theorem gw_1022 : Cond.instanceMethod yX5_makesOf ∈ gTs := gTs_of 1022 (by decide +kernel) (by decide +kernel)
theorem gw_1023 : Cond.code yX5_makesOf cX5_makesOf 8 (some .int) ∈ gTs := gTs_of 1023 (by decide +kernel) (by decide +kernel)
theorem gw_1024 : Cond.methodLink RX5 269 yX5_mendsOf ∈ gTs := gTs_of 1024 (by decide +kernel) (by decide +kernel)
theorem gw_1026 : Cond.instanceMethod yX5_mendsOf ∈ gTs := gTs_of 1026 (by decide +kernel) (by decide +kernel)
theorem gw_1027 : Cond.code yX5_mendsOf cX5_mendsOf 6 (some .int) ∈ gTs := gTs_of 1027 (by decide +kernel) (by decide +kernel)
theorem gw_1032 : Cond.methodLink RX5 272 yX5_built ∈ gTs := gTs_of 1032 (by decide +kernel) (by decide +kernel)
theorem gw_1034 : Cond.instanceMethod yX5_built ∈ gTs := gTs_of 1034 (by decide +kernel) (by decide +kernel)
theorem gw_1035 : Cond.code yX5_built cX5_built 4 (some .int) ∈ gTs := gTs_of 1035 (by decide +kernel) (by decide +kernel)
theorem gw_1040 : Cond.methodLink RX5 275 yX5_binds ∈ gTs := gTs_of 1040 (by decide +kernel) (by decide +kernel)
theorem gw_1042 : Cond.instanceMethod yX5_binds ∈ gTs := gTs_of 1042 (by decide +kernel) (by decide +kernel)
theorem gw_1043 : Cond.code yX5_binds cX5_binds 2 none ∈ gTs := gTs_of 1043 (by decide +kernel) (by decide +kernel)
theorem gw_1052 : Cond.methodLink RX5 285 yX5_passes ∈ gTs := gTs_of 1052 (by decide +kernel) (by decide +kernel)
theorem gw_1054 : Cond.instanceMethod yX5_passes ∈ gTs := gTs_of 1054 (by decide +kernel) (by decide +kernel)
theorem gw_1055 : Cond.code yX5_passes cX5_passes 3 none ∈ gTs := gTs_of 1055 (by decide +kernel) (by decide +kernel)
theorem gw_1056 : Cond.methodLink RX5 278 yX5_leaksAll ∈ gTs := gTs_of 1056 (by decide +kernel) (by decide +kernel)
theorem gw_1058 : Cond.instanceMethod yX5_leaksAll ∈ gTs := gTs_of 1058 (by decide +kernel) (by decide +kernel)
theorem gw_1059 : Cond.code yX5_leaksAll cX5_leaksAll 3 (some .int) ∈ gTs := gTs_of 1059 (by decide +kernel) (by decide +kernel)
theorem gw_1060 : Cond.methodLink RX5 281 yX5_works ∈ gTs := gTs_of 1060 (by decide +kernel) (by decide +kernel)
theorem gw_1062 : Cond.instanceMethod yX5_works ∈ gTs := gTs_of 1062 (by decide +kernel) (by decide +kernel)
theorem gw_1063 : Cond.code yX5_works cX5_works 4 none ∈ gTs := gTs_of 1063 (by decide +kernel) (by decide +kernel)
theorem gw_1068 : Cond.constantLong RX5 297 (40) ∈ gTs := gTs_of 1068 (by decide +kernel) (by decide +kernel)
theorem gw_1069 : Cond.constantLong RX5 299 (2) ∈ gTs := gTs_of 1069 (by decide +kernel) (by decide +kernel)
theorem gw_1070 : Cond.constantLong RX5 301 (19) ∈ gTs := gTs_of 1070 (by decide +kernel) (by decide +kernel)
theorem gw_1071 : Cond.methodLink RX5 288 yX5_laysAside ∈ gTs := gTs_of 1071 (by decide +kernel) (by decide +kernel)
theorem gw_1073 : Cond.instanceMethod yX5_laysAside ∈ gTs := gTs_of 1073 (by decide +kernel) (by decide +kernel)
theorem gw_1074 : Cond.code yX5_laysAside cX5_laysAside 2 none ∈ gTs := gTs_of 1074 (by decide +kernel) (by decide +kernel)
theorem gw_1075 : Cond.methodLink RX5 291 yX5_sails ∈ gTs := gTs_of 1075 (by decide +kernel) (by decide +kernel)
theorem gw_1077 : Cond.instanceMethod yX5_sails ∈ gTs := gTs_of 1077 (by decide +kernel) (by decide +kernel)
theorem gw_1078 : Cond.code yX5_sails cX5_sails 3 none ∈ gTs := gTs_of 1078 (by decide +kernel) (by decide +kernel)
theorem gw_1079 : Cond.methodLink RX5 294 yX5_laysBack ∈ gTs := gTs_of 1079 (by decide +kernel) (by decide +kernel)
theorem gw_1081 : Cond.instanceMethod yX5_laysBack ∈ gTs := gTs_of 1081 (by decide +kernel) (by decide +kernel)
theorem gw_1082 : Cond.code yX5_laysBack cX5_laysBack 2 none ∈ gTs := gTs_of 1082 (by decide +kernel) (by decide +kernel)
theorem gw_1091 : Cond.constantLong RX5 315 (20) ∈ gTs := gTs_of 1091 (by decide +kernel) (by decide +kernel)
theorem gw_1092 : Cond.methodLink RX5 312 yX5_tries ∈ gTs := gTs_of 1092 (by decide +kernel) (by decide +kernel)
theorem gw_1094 : Cond.instanceMethod yX5_tries ∈ gTs := gTs_of 1094 (by decide +kernel) (by decide +kernel)
theorem gw_1095 : Cond.code yX5_tries cX5_tries 6 none ∈ gTs := gTs_of 1095 (by decide +kernel) (by decide +kernel)
theorem gw_1100 : Cond.methodLink RX5 317 yX5_waterBehind ∈ gTs := gTs_of 1100 (by decide +kernel) (by decide +kernel)
theorem gw_1102 : Cond.instanceMethod yX5_waterBehind ∈ gTs := gTs_of 1102 (by decide +kernel) (by decide +kernel)
theorem gw_1103 : Cond.code yX5_waterBehind cX5_waterBehind 3 (some .int) ∈ gTs := gTs_of 1103 (by decide +kernel) (by decide +kernel)
theorem gw_1108 : Cond.methodLink RX5 324 yX5_goers ∈ gTs := gTs_of 1108 (by decide +kernel) (by decide +kernel)
theorem gw_1110 : Cond.instanceMethod yX5_goers ∈ gTs := gTs_of 1110 (by decide +kernel) (by decide +kernel)
theorem gw_1111 : Cond.code yX5_goers cX5_goers 6 (some .int) ∈ gTs := gTs_of 1111 (by decide +kernel) (by decide +kernel)
theorem gw_1112 : Cond.methodLink RX5 320 yX5_placed ∈ gTs := gTs_of 1112 (by decide +kernel) (by decide +kernel)
theorem gw_1114 : Cond.instanceMethod yX5_placed ∈ gTs := gTs_of 1114 (by decide +kernel) (by decide +kernel)
theorem gw_1115 : Cond.code yX5_placed cX5_placed 4 none ∈ gTs := gTs_of 1115 (by decide +kernel) (by decide +kernel)
theorem gw_1124 : Cond.methodLink RX5 327 yX5_lowest ∈ gTs := gTs_of 1124 (by decide +kernel) (by decide +kernel)
theorem gw_1125 : Cond.static yX5_lowest ∈ gTs := gTs_of 1125 (by decide +kernel) (by decide +kernel)
theorem gw_1126 : Cond.code yX5_lowest cX5_lowest 11 (some .long) ∈ gTs := gTs_of 1126 (by decide +kernel) (by decide +kernel)
theorem gw_1127 : Cond.constantLong RX5 331 (-4611686018427387904) ∈ gTs := gTs_of 1127 (by decide +kernel) (by decide +kernel)
theorem gw_1132 : Cond.methodLink RX5 336 yX5_isSheet ∈ gTs := gTs_of 1132 (by decide +kernel) (by decide +kernel)
theorem gw_1133 : Cond.static yX5_isSheet ∈ gTs := gTs_of 1133 (by decide +kernel) (by decide +kernel)
theorem gw_1134 : Cond.code yX5_isSheet cX5_isSheet 1 (some .boolean) ∈ gTs := gTs_of 1134 (by decide +kernel) (by decide +kernel)
theorem gw_1135 : Cond.constantLong RX5 366 (3) ∈ gTs := gTs_of 1135 (by decide +kernel) (by decide +kernel)
theorem gw_1136 : Cond.constantLong RX5 339 (8) ∈ gTs := gTs_of 1136 (by decide +kernel) (by decide +kernel)
theorem gw_1137 : Cond.methodLink RX5 333 yX5_firstOther ∈ gTs := gTs_of 1137 (by decide +kernel) (by decide +kernel)
theorem gw_1139 : Cond.instanceMethod yX5_firstOther ∈ gTs := gTs_of 1139 (by decide +kernel) (by decide +kernel)
theorem gw_1140 : Cond.code yX5_firstOther cX5_firstOther 4 (some .int) ∈ gTs := gTs_of 1140 (by decide +kernel) (by decide +kernel)
theorem gw_1141 : Cond.methodLink RX5 341 yX5_soundSet ∈ gTs := gTs_of 1141 (by decide +kernel) (by decide +kernel)
theorem gw_1143 : Cond.instanceMethod yX5_soundSet ∈ gTs := gTs_of 1143 (by decide +kernel) (by decide +kernel)
theorem gw_1144 : Cond.code yX5_soundSet cX5_soundSet 5 (some .int) ∈ gTs := gTs_of 1144 (by decide +kernel) (by decide +kernel)
theorem gw_1149 : Cond.methodLink RX5 344 yX5_sheet ∈ gTs := gTs_of 1149 (by decide +kernel) (by decide +kernel)
theorem gw_1150 : Cond.instanceMethod yX5_sheet ∈ gTs := gTs_of 1150 (by decide +kernel) (by decide +kernel)
theorem gw_1151 : Cond.selects RX5 yX5_sheet yX5_sheet ∈ gTs := gTs_of 1151 (by decide +kernel) (by decide +kernel)
theorem gw_1152 : Cond.code yX5_sheet cX5_sheet 5 (some .int) ∈ gTs := gTs_of 1152 (by decide +kernel) (by decide +kernel)
theorem gw_1153 : Cond.constantLong RX5 368 (-1) ∈ gTs := gTs_of 1153 (by decide +kernel) (by decide +kernel)
theorem gw_1158 : Cond.methodLink RX5 348 yX5_waterDrawn ∈ gTs := gTs_of 1158 (by decide +kernel) (by decide +kernel)
theorem gw_1160 : Cond.instanceMethod yX5_waterDrawn ∈ gTs := gTs_of 1160 (by decide +kernel) (by decide +kernel)
theorem gw_1161 : Cond.code yX5_waterDrawn cX5_waterDrawn 5 (some .int) ∈ gTs := gTs_of 1161 (by decide +kernel) (by decide +kernel)
theorem gw_1162 : Cond.constant RX5 347 (1103515245) ∈ gTs := gTs_of 1162 (by decide +kernel) (by decide +kernel)
theorem gw_1179 : Cond.methodLink RX5 363 yX5_madeMany ∈ gTs := gTs_of 1179 (by decide +kernel) (by decide +kernel)
theorem gw_1181 : Cond.instanceMethod yX5_madeMany ∈ gTs := gTs_of 1181 (by decide +kernel) (by decide +kernel)
theorem gw_1182 : Cond.code yX5_madeMany cX5_madeMany 3 (some .int) ∈ gTs := gTs_of 1182 (by decide +kernel) (by decide +kernel)
theorem gw_1196 : Cond.methodLink RX5 370 yX5_wright ∈ gTs := gTs_of 1196 (by decide +kernel) (by decide +kernel)
theorem gw_1201 : Cond.methodLink RX5 373 yX5_over ∈ gTs := gTs_of 1201 (by decide +kernel) (by decide +kernel)
theorem gw_1202 : Cond.static yX5_over ∈ gTs := gTs_of 1202 (by decide +kernel) (by decide +kernel)
theorem gw_1203 : Cond.code yX5_over cX5_over 1 (some .int) ∈ gTs := gTs_of 1203 (by decide +kernel) (by decide +kernel)
end
section
-- ===== functions without a world =====
def f_within (v a b : Int32) : Int32 := if v < a then 0 else if b < v then 0 else 1
def f_isPart (v : Int32) : Int32 := f_within v 0 9
def f_isSheet (v : Int32) : Int32 := f_within v 0 3
def f_isUnder (v : Int32) : Int32 := if v - v / 2 * 2 = 0 then 1 else 0
def f_max (a b : Int32) : Int32 := if a < b then b else a
def f_min (a b : Int32) : Int32 := if b < a then b else a
def f_ushr (x y : Int32) : Int32 := (x.toUInt32 >>> (y.toUInt32 &&& Int32.toUInt32 31)).toInt32
def f_bits5 (x : Int32) : Int32 := x + f_ushr x 16
def f_bits4 (x : Int32) : Int32 := x + f_ushr x 8
def f_bits3 (x : Int32) : Int32 := (x + f_ushr x 4) &&& 252645135
def f_bits2 (x : Int32) : Int32 := (x &&& 858993459) + (f_ushr x 2 &&& 858993459)
def f_bits1 (x : Int32) : Int32 := x - (f_ushr x 1 &&& 1431655765)
def f_bits (x : Int32) : Int32 := f_bits5 (f_bits4 (f_bits3 (f_bits2 (f_bits1 x)))) &&& 63
def f_bound (v : Int32) : Int32 := f_max 0 (f_min 99 v)
def f_join (s a b : Int32) : Int32 := if s = -12 then a - b else if s = -11 then a + b else if s = -10 then (if a = b then 1 else 0) else if s = -9 then (if a < b then 1 else 0) else if s = -8 then (if a = 0 then 0 else if b = 0 then 0 else 1) else if s = -7 then (if a = 0 then (if b = 0 then 0 else 1) else 1) else a * b
def f_sign (v : Int32) : Int32 := if f_within v 40 43 = 0 then (if v = 45 then 1 else if f_within v 59 61 = 0 then 0 else 1) else 1
def f_in (v a b : Int64) : Int32 := if lg_cmp v a < 0 then 0 else if 0 < lg_cmp v b then 0 else 1
def f_clamp (v a b : Int32) : Int32 := if a ≤ v then (if v ≤ b then v else b) else a
def f_mostOf (w : Int32) : Int32 := if w = 0 then 999 else if w = 2 then 100 else if w = 4 then 9 else 99
def f_over (k : Int32) : Int32 := if k = 0 then -1 else if k = 3 then 1 else if k = 4 then 2 else 0
def f_bitsL : Nat → Int32 → Int32 → Int32
  | 0, _, n => n
  | k + 1, v, n => if v = 0 then n else f_bitsL k (v &&& (v - 1)) (n + 1)
def f_bitsM (v : Int32) : Int32 := f_bitsL v.toBitVec.toNat v 0
theorem f_within_01 (v a b : Int32) : f_within v a b = 0 ∨ f_within v a b = 1 := by
  unfold f_within
  split
  · exact Or.inl rfl
  · split
    · exact Or.inl rfl
    · exact Or.inr rfl
theorem xs_mmax {own : String} {cc : ByteArray} {nL : Nat} {rt : Option FieldType} {mL pc index : Nat} (h1 : Cond.methodLink own index Lib.Math.max.name ∈ gTs) (h2 : Cond.static Lib.Math.max.name ∈ gTs) (h3 : Cond.initialized "java/lang/Math" ∈ gTs) (h4 : Cond.code Lib.Math.max.name Lib.Math.max.code 2 (some .int) ∈ gTs) (hdg : decode cc pc = .ok (.invokestatic index, 3)) : XSnd own cc nL rt mL pc (xo_p2 f_max (pc + 3)) := by
  intro E Lv n0 Q X hLv hX lv st σ h
  obtain ⟨b, st, rfl, h1'⟩ := pI_e h
  obtain ⟨a, st, rfl, h2'⟩ := pI_e h1'
  cases hsm : smal st with
  | false => simp only [hsm] at h2'
  | true =>
    simp only [hsm] at h2'
    intro p e R s m args below meth c H locs cells slots Z D cA ad A ls hC hR hl hw hE
    have hsum := smal_e (ad := ad) hsm
    exact va_mmax hC.1 hC.2.1 (hC.2.2.1.trans hl.1.symm) hC.2.2.2.1 (hC.2.2.2.2 _ h1) (hC.2.2.2.2 _ h2) (hC.2.2.2.2 _ h3) (hC.2.2.2.2 _ h4) (by have := hR.1; omega) (by have := hR.2.1; omega) hR.2.2.1 hR.2.2.2 hdg (hX _ _ _ _ h2' p e R s m args below meth c H locs cells slots Z D cA ad A ls hC hR hl hw hE)
theorem xs_mmin {own : String} {cc : ByteArray} {nL : Nat} {rt : Option FieldType} {mL pc index : Nat} (h1 : Cond.methodLink own index Lib.Math.min.name ∈ gTs) (h2 : Cond.static Lib.Math.min.name ∈ gTs) (h3 : Cond.initialized "java/lang/Math" ∈ gTs) (h4 : Cond.code Lib.Math.min.name Lib.Math.min.code 2 (some .int) ∈ gTs) (hdg : decode cc pc = .ok (.invokestatic index, 3)) : XSnd own cc nL rt mL pc (xo_p2 f_min (pc + 3)) := by
  intro E Lv n0 Q X hLv hX lv st σ h
  obtain ⟨b, st, rfl, h1'⟩ := pI_e h
  obtain ⟨a, st, rfl, h2'⟩ := pI_e h1'
  cases hsm : smal st with
  | false => simp only [hsm] at h2'
  | true =>
    simp only [hsm] at h2'
    intro p e R s m args below meth c H locs cells slots Z D cA ad A ls hC hR hl hw hE
    have hsum := smal_e (ad := ad) hsm
    exact va_mmin hC.1 hC.2.1 (hC.2.2.1.trans hl.1.symm) hC.2.2.2.1 (hC.2.2.2.2 _ h1) (hC.2.2.2.2 _ h2) (hC.2.2.2.2 _ h3) (hC.2.2.2.2 _ h4) (by have := hR.1; omega) (by have := hR.2.1; omega) hR.2.2.1 hR.2.2.2 hdg (hX _ _ _ _ h2' p e R s m args below meth c H locs cells slots Z D cA ad A ls hC hR hl hw hE)
def pX4_within : List (Nat × XOp) := [(0, xo_il 0 1), (1, xo_il 1 2), (2, xo_ic_lt 14 5), (5, xo_il 0 6), (6, xo_il 2 7), (7, xo_ic_gt 14 10), (10, xo_ic 1 11), (11, xo_goto 15), (14, xo_ic 0 15), (15, xo_zret)]
theorem sX4_within : XPr RX4 cX4_within 3 (some .boolean) 0 pX4_within :=
  XPr.cons (xs_iload_n dX4_within_0 rfl) <|
  XPr.cons (xs_iload_n dX4_within_1 rfl) <|
  XPr.cons (xs_ic_lt dX4_within_2 (by decide +kernel)) <|
  XPr.cons (xs_iload_n dX4_within_5 rfl) <|
  XPr.cons (xs_iload_n dX4_within_6 rfl) <|
  XPr.cons (xs_ic_gt dX4_within_7 (by decide +kernel)) <|
  XPr.cons (xs_iconst dX4_within_10 (by decide +kernel)) <|
  XPr.cons (xs_goto dX4_within_11 (by decide +kernel)) <|
  XPr.cons (xs_iconst dX4_within_14 (by decide +kernel)) <|
  XPr.cons (xs_zret rfl dX4_within_15) <|
  XPr.nil
set_option maxRecDepth 20000 in
theorem c_X4_within (E : XEnv) (a b c : Int32) : XCall E 0 yX4_within cX4_within 3 (some .boolean) [.int a, .int b, .int c] [] (fun r _ => r = some (.int (f_within a b c))) := by
  refine XCall.of (by decide +kernel) (Nat.le_of_ble_eq_true rfl) (xgo sX4_within [] 60 (Nat.le_refl _) ?_)
  refine ⟨fun h1 => ?_, fun h1 => ⟨fun h2 => ?_, fun h2 => ?_⟩⟩
  · exact ⟨Or.inl rfl, congrArg (fun x => some (Value.int x)) (by simp [f_within, h1])⟩
  · exact ⟨Or.inl rfl, congrArg (fun x => some (Value.int x)) (by simp [f_within, h1, h2])⟩
  · exact ⟨Or.inr rfl, congrArg (fun x => some (Value.int x)) (by simp [f_within, h1, h2])⟩
def pX4_isPart : List (Nat × XOp) := [(0, xo_il 0 1), (1, xo_ic 0 2), (2, xo_ic 9 4), (4, xo_p3 f_within 7), (7, xo_zret)]
theorem sX4_isPart : XPr RX4 cX4_isPart 1 (some .boolean) 1 pX4_isPart :=
  XPr.cons (xs_iload_n dX4_isPart_0 rfl) <|
  XPr.cons (xs_iconst dX4_isPart_1 (by decide +kernel)) <|
  XPr.cons (xs_bipush dX4_isPart_2 (by decide +kernel)) <|
  XPr.cons (xs_p3 (xs_callS gw_258 gw_259 gw_72 gw_260 (by decide +kernel) (Nat.le_of_ble_eq_true rfl) dX4_isPart_4) c_X4_within (Nat.le_of_ble_eq_true rfl)) <|
  XPr.cons (xs_zret rfl dX4_isPart_7) <|
  XPr.nil
set_option maxRecDepth 20000 in
theorem c_X4_isPart (E : XEnv) (a : Int32) : XCall E 1 yX4_isPart cX4_isPart 1 (some .boolean) [.int a] [] (fun r _ => r = some (.int (f_isPart a))) := by
  refine XCall.of (by decide +kernel) (Nat.le_of_ble_eq_true rfl) (xgo sX4_isPart [] 60 (Nat.le_refl _) ?_)
  exact ⟨f_within_01 _ _ _, rfl⟩
def pX4_isSheet : List (Nat × XOp) := [(0, xo_il 0 1), (1, xo_ic 0 2), (2, xo_ic 3 3), (3, xo_p3 f_within 6), (6, xo_zret)]
theorem sX4_isSheet : XPr RX4 cX4_isSheet 1 (some .boolean) 1 pX4_isSheet :=
  XPr.cons (xs_iload_n dX4_isSheet_0 rfl) <|
  XPr.cons (xs_iconst dX4_isSheet_1 (by decide +kernel)) <|
  XPr.cons (xs_iconst dX4_isSheet_2 (by decide +kernel)) <|
  XPr.cons (xs_p3 (xs_callS gw_258 gw_259 gw_72 gw_260 (by decide +kernel) (Nat.le_of_ble_eq_true rfl) dX4_isSheet_3) c_X4_within (Nat.le_of_ble_eq_true rfl)) <|
  XPr.cons (xs_zret rfl dX4_isSheet_6) <|
  XPr.nil
set_option maxRecDepth 20000 in
theorem c_X4_isSheet (E : XEnv) (a : Int32) : XCall E 1 yX4_isSheet cX4_isSheet 1 (some .boolean) [.int a] [] (fun r _ => r = some (.int (f_isSheet a))) := by
  refine XCall.of (by decide +kernel) (Nat.le_of_ble_eq_true rfl) (xgo sX4_isSheet [] 60 (Nat.le_refl _) ?_)
  exact ⟨f_within_01 _ _ _, rfl⟩
def pX4_isUnder : List (Nat × XOp) := [(0, xo_il 0 1), (1, xo_ic 2 2), (2, xo_irem 3), (3, xo_if_ne 10 6), (6, xo_ic 1 7), (7, xo_goto 11), (10, xo_ic 0 11), (11, xo_zret)]
theorem sX4_isUnder : XPr RX4 cX4_isUnder 1 (some .boolean) 0 pX4_isUnder :=
  XPr.cons (xs_iload_n dX4_isUnder_0 rfl) <|
  XPr.cons (xs_iconst dX4_isUnder_1 (by decide +kernel)) <|
  XPr.cons (xs_irem dX4_isUnder_2) <|
  XPr.cons (xs_if_ne dX4_isUnder_3 (by decide +kernel)) <|
  XPr.cons (xs_iconst dX4_isUnder_6 (by decide +kernel)) <|
  XPr.cons (xs_goto dX4_isUnder_7 (by decide +kernel)) <|
  XPr.cons (xs_iconst dX4_isUnder_10 (by decide +kernel)) <|
  XPr.cons (xs_zret rfl dX4_isUnder_11) <|
  XPr.nil
set_option maxRecDepth 20000 in
theorem c_X4_isUnder (E : XEnv) (a : Int32) : XCall E 0 yX4_isUnder cX4_isUnder 1 (some .boolean) [.int a] [] (fun r _ => r = some (.int (f_isUnder a))) := by
  refine XCall.of (by decide +kernel) (Nat.le_of_ble_eq_true rfl) (xgo sX4_isUnder [] 60 (Nat.le_refl _) ?_)
  refine ⟨by decide, ⟨fun h1 => ?_, fun h1 => ?_⟩⟩
  · exact ⟨Or.inl rfl, congrArg (fun x => some (Value.int x)) (by simp [f_isUnder, h1])⟩
  · exact ⟨Or.inr rfl, congrArg (fun x => some (Value.int x)) (by simp [f_isUnder, h1])⟩
def pJ6_bitCount_0f7a4_0 : List (Nat × XOp) := [(0, xo_il 0 1), (1, xo_il 0 2), (2, xo_ic 1 3), (3, xo_iushr 4), (4, xo_ic 1431655765 7), (7, xo_iand 8), (8, xo_isub 9), (9, xo_is 0 10), (10, xo_il 0 11), (11, xo_ic 858993459 14), (14, xo_iand 15), (15, xo_il 0 16), (16, xo_ic 2 17), (17, xo_iushr 18), (18, xo_ic 858993459 21), (21, xo_iand 22), (22, xo_iadd 23), (23, xo_is 0 24), (24, xo_il 0 25), (25, xo_il 0 26), (26, xo_ic 4 27), (27, xo_iushr 28), (28, xo_iadd 29), (29, xo_ic 252645135 32), (32, xo_iand 33), (33, xo_is 0 34), (34, xo_il 0 35), (35, xo_il 0 36), (36, xo_ic 8 38), (38, xo_iushr 39), (39, xo_iadd 40), (40, xo_is 0 41), (41, xo_il 0 42), (42, xo_il 0 43), (43, xo_ic 16 45), (45, xo_iushr 46), (46, xo_iadd 47), (47, xo_is 0 48), (48, xo_il 0 49), (49, xo_ic 63 51)]
theorem sJ6_bitCount_0f7a4_0 : XPr RJ6 cJ6_bitCount_0f7a4 1 (some .int) 0 pJ6_bitCount_0f7a4_0 :=
  XPr.cons (xs_iload_n dJ6_bitCount_0f7a4_0 rfl) <|
  XPr.cons (xs_iload_n dJ6_bitCount_0f7a4_1 rfl) <|
  XPr.cons (xs_iconst dJ6_bitCount_0f7a4_2 (by decide +kernel)) <|
  XPr.cons (xs_iushr dJ6_bitCount_0f7a4_3) <|
  XPr.cons (xs_ldc_w gw_325 dJ6_bitCount_0f7a4_4) <|
  XPr.cons (xs_iand dJ6_bitCount_0f7a4_7) <|
  XPr.cons (xs_isub dJ6_bitCount_0f7a4_8) <|
  XPr.cons (xs_istore_n dJ6_bitCount_0f7a4_9 rfl (Nat.le_of_ble_eq_true rfl)) <|
  XPr.cons (xs_iload_n dJ6_bitCount_0f7a4_10 rfl) <|
  XPr.cons (xs_ldc_w gw_326 dJ6_bitCount_0f7a4_11) <|
  XPr.cons (xs_iand dJ6_bitCount_0f7a4_14) <|
  XPr.cons (xs_iload_n dJ6_bitCount_0f7a4_15 rfl) <|
  XPr.cons (xs_iconst dJ6_bitCount_0f7a4_16 (by decide +kernel)) <|
  XPr.cons (xs_iushr dJ6_bitCount_0f7a4_17) <|
  XPr.cons (xs_ldc_w gw_326 dJ6_bitCount_0f7a4_18) <|
  XPr.cons (xs_iand dJ6_bitCount_0f7a4_21) <|
  XPr.cons (xs_iadd dJ6_bitCount_0f7a4_22) <|
  XPr.cons (xs_istore_n dJ6_bitCount_0f7a4_23 rfl (Nat.le_of_ble_eq_true rfl)) <|
  XPr.cons (xs_iload_n dJ6_bitCount_0f7a4_24 rfl) <|
  XPr.cons (xs_iload_n dJ6_bitCount_0f7a4_25 rfl) <|
  XPr.cons (xs_iconst dJ6_bitCount_0f7a4_26 (by decide +kernel)) <|
  XPr.cons (xs_iushr dJ6_bitCount_0f7a4_27) <|
  XPr.cons (xs_iadd dJ6_bitCount_0f7a4_28) <|
  XPr.cons (xs_ldc_w gw_327 dJ6_bitCount_0f7a4_29) <|
  XPr.cons (xs_iand dJ6_bitCount_0f7a4_32) <|
  XPr.cons (xs_istore_n dJ6_bitCount_0f7a4_33 rfl (Nat.le_of_ble_eq_true rfl)) <|
  XPr.cons (xs_iload_n dJ6_bitCount_0f7a4_34 rfl) <|
  XPr.cons (xs_iload_n dJ6_bitCount_0f7a4_35 rfl) <|
  XPr.cons (xs_bipush dJ6_bitCount_0f7a4_36 (by decide +kernel)) <|
  XPr.cons (xs_iushr dJ6_bitCount_0f7a4_38) <|
  XPr.cons (xs_iadd dJ6_bitCount_0f7a4_39) <|
  XPr.cons (xs_istore_n dJ6_bitCount_0f7a4_40 rfl (Nat.le_of_ble_eq_true rfl)) <|
  XPr.cons (xs_iload_n dJ6_bitCount_0f7a4_41 rfl) <|
  XPr.cons (xs_iload_n dJ6_bitCount_0f7a4_42 rfl) <|
  XPr.cons (xs_bipush dJ6_bitCount_0f7a4_43 (by decide +kernel)) <|
  XPr.cons (xs_iushr dJ6_bitCount_0f7a4_45) <|
  XPr.cons (xs_iadd dJ6_bitCount_0f7a4_46) <|
  XPr.cons (xs_istore_n dJ6_bitCount_0f7a4_47 rfl (Nat.le_of_ble_eq_true rfl)) <|
  XPr.cons (xs_iload_n dJ6_bitCount_0f7a4_48 rfl) <|
  XPr.cons (xs_bipush dJ6_bitCount_0f7a4_49 (by decide +kernel)) <|
  XPr.nil
def pJ6_bitCount_0f7a4_1 : List (Nat × XOp) := [(51, xo_iand 52), (52, xo_iret)]
theorem sJ6_bitCount_0f7a4_1 : XPr RJ6 cJ6_bitCount_0f7a4 1 (some .int) 0 pJ6_bitCount_0f7a4_1 :=
  XPr.cons (xs_iand dJ6_bitCount_0f7a4_51) <|
  XPr.cons (xs_iret rfl dJ6_bitCount_0f7a4_52) <|
  XPr.nil
def pJ6_bitCount_0f7a4 : List (Nat × XOp) := pJ6_bitCount_0f7a4_0 ++ pJ6_bitCount_0f7a4_1
theorem sJ6_bitCount_0f7a4 : XPr RJ6 cJ6_bitCount_0f7a4 1 (some .int) 0 pJ6_bitCount_0f7a4 := (sJ6_bitCount_0f7a4_0).app sJ6_bitCount_0f7a4_1
set_option maxRecDepth 20000 in
theorem c_J6_bitCount_0f7a4 (E : XEnv) (a : Int32) : XCall E 0 yJ6_bitCount_0f7a4 cJ6_bitCount_0f7a4 1 (some .int) [.int a] [] (fun r _ => r = some (.int (f_bits a))) := by
  refine XCall.of (by decide +kernel) (Nat.le_of_ble_eq_true rfl) (xgo sJ6_bitCount_0f7a4 [] 60 (Nat.le_refl _) ?_)
  exact rfl
def pX2_bounded : List (Nat × XOp) := [(0, xo_ic 0 1), (1, xo_ic 99 3), (3, xo_il 0 4), (4, xo_p2 f_min 7), (7, xo_p2 f_max 10), (10, xo_iret)]
theorem sX2_bounded : XPr RX2 cX2_bounded 1 (some .int) 1 pX2_bounded :=
  XPr.cons (xs_iconst dX2_bounded_0 (by decide +kernel)) <|
  XPr.cons (xs_bipush dX2_bounded_1 (by decide +kernel)) <|
  XPr.cons (xs_iload_n dX2_bounded_3 rfl) <|
  XPr.cons (xs_mmin gw_315 gw_316 gw_78 gw_317 dX2_bounded_4) <|
  XPr.cons (xs_mmax gw_276 gw_277 gw_78 gw_278 dX2_bounded_7) <|
  XPr.cons (xs_iret rfl dX2_bounded_10) <|
  XPr.nil
set_option maxRecDepth 20000 in
theorem c_X2_bounded (E : XEnv) (a : Int32) : XCall E 1 yX2_bounded cX2_bounded 1 (some .int) [.int a] [] (fun r _ => r = some (.int (f_bound a))) := by
  refine XCall.of (by decide +kernel) (Nat.le_of_ble_eq_true rfl) (xgo sX2_bounded [] 60 (Nat.le_refl _) ?_)
  exact rfl
def pX0_isSign : List (Nat × XOp) := [(0, xo_il 0 1), (1, xo_ic 40 3), (3, xo_ic 43 5), (5, xo_p3 f_within 8), (8, xo_if_ne 28 11), (11, xo_il 0 12), (12, xo_ic 45 14), (14, xo_ic_eq 28 17), (17, xo_il 0 18), (18, xo_ic 59 20), (20, xo_ic 61 22), (22, xo_p3 f_within 25), (25, xo_if_eq 32 28), (28, xo_ic 1 29), (29, xo_goto 33), (32, xo_ic 0 33), (33, xo_zret)]
theorem sX0_isSign : XPr RX0 cX0_isSign 1 (some .boolean) 1 pX0_isSign :=
  XPr.cons (xs_iload_n dX0_isSign_0 rfl) <|
  XPr.cons (xs_bipush dX0_isSign_1 (by decide +kernel)) <|
  XPr.cons (xs_bipush dX0_isSign_3 (by decide +kernel)) <|
  XPr.cons (xs_p3 (xs_callN (host := RX4) (by decide +kernel) gw_259 gw_72 gw_260 (by decide +kernel) (Nat.le_of_ble_eq_true rfl) dX0_isSign_5) c_X4_within (Nat.le_of_ble_eq_true rfl)) <|
  XPr.cons (xs_if_ne dX0_isSign_8 (by decide +kernel)) <|
  XPr.cons (xs_iload_n dX0_isSign_11 rfl) <|
  XPr.cons (xs_bipush dX0_isSign_12 (by decide +kernel)) <|
  XPr.cons (xs_ic_eq dX0_isSign_14 (by decide +kernel)) <|
  XPr.cons (xs_iload_n dX0_isSign_17 rfl) <|
  XPr.cons (xs_bipush dX0_isSign_18 (by decide +kernel)) <|
  XPr.cons (xs_bipush dX0_isSign_20 (by decide +kernel)) <|
  XPr.cons (xs_p3 (xs_callN (host := RX4) (by decide +kernel) gw_259 gw_72 gw_260 (by decide +kernel) (Nat.le_of_ble_eq_true rfl) dX0_isSign_22) c_X4_within (Nat.le_of_ble_eq_true rfl)) <|
  XPr.cons (xs_if_eq dX0_isSign_25 (by decide +kernel)) <|
  XPr.cons (xs_iconst dX0_isSign_28 (by decide +kernel)) <|
  XPr.cons (xs_goto dX0_isSign_29 (by decide +kernel)) <|
  XPr.cons (xs_iconst dX0_isSign_32 (by decide +kernel)) <|
  XPr.cons (xs_zret rfl dX0_isSign_33) <|
  XPr.nil
set_option maxRecDepth 20000 in
theorem c_X0_isSign (E : XEnv) (a : Int32) : XCall E 1 yX0_isSign cX0_isSign 1 (some .boolean) [.int a] [] (fun r _ => r = some (.int (f_sign a))) := by
  refine XCall.of (by decide +kernel) (Nat.le_of_ble_eq_true rfl) (xgo sX0_isSign [] 60 (Nat.le_refl _) ?_)
  refine ⟨fun h1 => ?_, fun h1 => ⟨fun h2 => ?_, fun h2 => ⟨fun h3 => ?_, fun h3 => ?_⟩⟩⟩
  · exact ⟨Or.inr rfl, congrArg (fun x => some (Value.int x)) (by simp [f_sign, h1])⟩
  · exact ⟨Or.inr rfl, congrArg (fun x => some (Value.int x)) (by simp [f_sign, h1, h2])⟩
  · exact ⟨Or.inl rfl, congrArg (fun x => some (Value.int x)) (by simp [f_sign, h1, h2, h3])⟩
  · exact ⟨Or.inr rfl, congrArg (fun x => some (Value.int x)) (by simp [f_sign, h1, h2, h3])⟩
def pX3_joined_0 : List (Nat × XOp) := [(0, xo_il 0 1), (1, xo_sw [((-12), 94), ((-11), 90), ((-10), 79), ((-9), 68), ((-8), 54), ((-7), 40)] 98), (40, xo_il 1 41), (41, xo_if_ne 48 44), (44, xo_il 2 45), (45, xo_if_eq 52 48), (48, xo_ic 1 49), (49, xo_goto 53), (52, xo_ic 0 53), (53, xo_iret), (54, xo_il 1 55), (55, xo_if_eq 66 58), (58, xo_il 2 59), (59, xo_if_eq 66 62), (62, xo_ic 1 63), (63, xo_goto 67), (66, xo_ic 0 67), (67, xo_iret), (68, xo_il 1 69), (69, xo_il 2 70), (70, xo_ic_ge 77 73), (73, xo_ic 1 74), (74, xo_goto 78), (77, xo_ic 0 78), (78, xo_iret), (79, xo_il 1 80), (80, xo_il 2 81), (81, xo_ic_ne 88 84), (84, xo_ic 1 85), (85, xo_goto 89), (88, xo_ic 0 89), (89, xo_iret), (90, xo_il 1 91), (91, xo_il 2 92), (92, xo_iadd 93), (93, xo_iret), (94, xo_il 1 95), (95, xo_il 2 96), (96, xo_isub 97), (97, xo_iret)]
theorem sX3_joined_0 : XPr RX3 cX3_joined 3 (some .int) 0 pX3_joined_0 :=
  XPr.cons (xs_iload_n dX3_joined_0 rfl) <|
  XPr.cons (xs_table (ts := [94, 90, 79, 68, 54, 40]) dX3_joined_1 (by decide +kernel) (by decide +kernel) (by decide +kernel) (by decide +kernel)) <|
  XPr.cons (xs_iload_n dX3_joined_40 rfl) <|
  XPr.cons (xs_if_ne dX3_joined_41 (by decide +kernel)) <|
  XPr.cons (xs_iload_n dX3_joined_44 rfl) <|
  XPr.cons (xs_if_eq dX3_joined_45 (by decide +kernel)) <|
  XPr.cons (xs_iconst dX3_joined_48 (by decide +kernel)) <|
  XPr.cons (xs_goto dX3_joined_49 (by decide +kernel)) <|
  XPr.cons (xs_iconst dX3_joined_52 (by decide +kernel)) <|
  XPr.cons (xs_iret rfl dX3_joined_53) <|
  XPr.cons (xs_iload_n dX3_joined_54 rfl) <|
  XPr.cons (xs_if_eq dX3_joined_55 (by decide +kernel)) <|
  XPr.cons (xs_iload_n dX3_joined_58 rfl) <|
  XPr.cons (xs_if_eq dX3_joined_59 (by decide +kernel)) <|
  XPr.cons (xs_iconst dX3_joined_62 (by decide +kernel)) <|
  XPr.cons (xs_goto dX3_joined_63 (by decide +kernel)) <|
  XPr.cons (xs_iconst dX3_joined_66 (by decide +kernel)) <|
  XPr.cons (xs_iret rfl dX3_joined_67) <|
  XPr.cons (xs_iload_n dX3_joined_68 rfl) <|
  XPr.cons (xs_iload_n dX3_joined_69 rfl) <|
  XPr.cons (xs_ic_ge dX3_joined_70 (by decide +kernel)) <|
  XPr.cons (xs_iconst dX3_joined_73 (by decide +kernel)) <|
  XPr.cons (xs_goto dX3_joined_74 (by decide +kernel)) <|
  XPr.cons (xs_iconst dX3_joined_77 (by decide +kernel)) <|
  XPr.cons (xs_iret rfl dX3_joined_78) <|
  XPr.cons (xs_iload_n dX3_joined_79 rfl) <|
  XPr.cons (xs_iload_n dX3_joined_80 rfl) <|
  XPr.cons (xs_ic_ne dX3_joined_81 (by decide +kernel)) <|
  XPr.cons (xs_iconst dX3_joined_84 (by decide +kernel)) <|
  XPr.cons (xs_goto dX3_joined_85 (by decide +kernel)) <|
  XPr.cons (xs_iconst dX3_joined_88 (by decide +kernel)) <|
  XPr.cons (xs_iret rfl dX3_joined_89) <|
  XPr.cons (xs_iload_n dX3_joined_90 rfl) <|
  XPr.cons (xs_iload_n dX3_joined_91 rfl) <|
  XPr.cons (xs_iadd dX3_joined_92) <|
  XPr.cons (xs_iret rfl dX3_joined_93) <|
  XPr.cons (xs_iload_n dX3_joined_94 rfl) <|
  XPr.cons (xs_iload_n dX3_joined_95 rfl) <|
  XPr.cons (xs_isub dX3_joined_96) <|
  XPr.cons (xs_iret rfl dX3_joined_97) <|
  XPr.nil
def pX3_joined_1 : List (Nat × XOp) := [(98, xo_il 1 99), (99, xo_il 2 100), (100, xo_imul 101), (101, xo_iret)]
theorem sX3_joined_1 : XPr RX3 cX3_joined 3 (some .int) 0 pX3_joined_1 :=
  XPr.cons (xs_iload_n dX3_joined_98 rfl) <|
  XPr.cons (xs_iload_n dX3_joined_99 rfl) <|
  XPr.cons (xs_imul dX3_joined_100) <|
  XPr.cons (xs_iret rfl dX3_joined_101) <|
  XPr.nil
def pX3_joined : List (Nat × XOp) := pX3_joined_0 ++ pX3_joined_1
theorem sX3_joined : XPr RX3 cX3_joined 3 (some .int) 0 pX3_joined := (sX3_joined_0).app sX3_joined_1
set_option maxRecDepth 20000 in
theorem c_X3_joined (E : XEnv) (a b c : Int32) : XCall E 0 yX3_joined cX3_joined 3 (some .int) [.int a, .int b, .int c] [] (fun r _ => r = some (.int (f_join a b c))) := by
  refine XCall.of (by decide +kernel) (Nat.le_of_ble_eq_true rfl) (xgo sX3_joined [] 60 (Nat.le_refl _) ?_)
  refine ⟨fun h1 => ?_, fun n1 => ⟨fun h1 => ?_, fun n2 => ⟨fun h1 => ?_, fun n3 => ⟨fun h1 => ?_, fun n4 => ⟨fun h1 => ?_, fun n5 => ⟨fun h1 => ?_, fun n6 => ?_⟩⟩⟩⟩⟩⟩
  · exact congrArg (fun x => some (Value.int x)) (by simp [f_join, h1])
  · exact congrArg (fun x => some (Value.int x)) (by simp [f_join, h1])
  · refine ⟨fun h2 => ?_, fun h2 => ?_⟩
    · exact congrArg (fun x => some (Value.int x)) (by simp [f_join, h1, h2])
    · exact congrArg (fun x => some (Value.int x)) (by simp [f_join, h1, h2])
  · refine ⟨fun h2 => ?_, fun h2 => ?_⟩
    · exact congrArg (fun x => some (Value.int x)) (by simp [f_join, h1, h2])
    · exact congrArg (fun x => some (Value.int x)) (by simp [f_join, h1, h2])
  · refine ⟨fun h2 => ?_, fun h2 => ⟨fun h3 => ?_, fun h3 => ?_⟩⟩
    · exact congrArg (fun x => some (Value.int x)) (by simp [f_join, h1, h2])
    · exact congrArg (fun x => some (Value.int x)) (by simp [f_join, h1, h2, h3])
    · exact congrArg (fun x => some (Value.int x)) (by simp [f_join, h1, h2, h3])
  · refine ⟨fun h2 => ?_, fun h2 => ⟨fun h3 => ?_, fun h3 => ?_⟩⟩
    · exact congrArg (fun x => some (Value.int x)) (by simp [f_join, h1, h2])
    · exact congrArg (fun x => some (Value.int x)) (by simp [f_join, h1, h2, h3])
    · exact congrArg (fun x => some (Value.int x)) (by simp [f_join, h1, h2, h3])
  · exact congrArg (fun x => some (Value.int x)) (by simp [f_join, n1, n2, n3, n4, n5, n6])
def pX5_in : List (Nat × XOp) := [(0, xo_ll 0 1), (1, xo_ll 2 2), (2, xo_lcmp 3), (3, xo_if_lt 17 6), (6, xo_ll 0 7), (7, xo_ll 4 9), (9, xo_lcmp 10), (10, xo_if_gt 17 13), (13, xo_ic 1 14), (14, xo_goto 18), (17, xo_ic 0 18), (18, xo_zret)]
theorem sX5_in : XPr RX5 cX5_in 6 (some .boolean) 0 pX5_in :=
  XPr.cons (xs_lload_n dX5_in_0 rfl) <|
  XPr.cons (xs_lload_n dX5_in_1 rfl) <|
  XPr.cons (xs_lcmp dX5_in_2) <|
  XPr.cons (xs_if_lt dX5_in_3 (by decide +kernel)) <|
  XPr.cons (xs_lload_n dX5_in_6 rfl) <|
  XPr.cons (xs_lload dX5_in_7) <|
  XPr.cons (xs_lcmp dX5_in_9) <|
  XPr.cons (xs_if_gt dX5_in_10 (by decide +kernel)) <|
  XPr.cons (xs_iconst dX5_in_13 (by decide +kernel)) <|
  XPr.cons (xs_goto dX5_in_14 (by decide +kernel)) <|
  XPr.cons (xs_iconst dX5_in_17 (by decide +kernel)) <|
  XPr.cons (xs_zret rfl dX5_in_18) <|
  XPr.nil
set_option maxRecDepth 20000 in
theorem c_X5_in (E : XEnv) (a b c : Int64) : XCall E 0 yX5_in cX5_in 6 (some .boolean) [.long a, .long b, .long c] [] (fun r _ => r = some (.int (f_in a b c))) := by
  refine XCall.of (by decide +kernel) (Nat.le_of_ble_eq_true rfl) (xgo sX5_in [] 60 (Nat.le_refl _) ?_)
  refine ⟨fun h1 => ?_, fun h1 => ⟨fun h2 => ?_, fun h2 => ?_⟩⟩
  · exact ⟨Or.inl rfl, congrArg (fun x => some (Value.int x)) (by simp [f_in, h1])⟩
  · exact ⟨Or.inl rfl, congrArg (fun x => some (Value.int x)) (by simp [f_in, h1, h2])⟩
  · exact ⟨Or.inr rfl, congrArg (fun x => some (Value.int x)) (by simp [f_in, h1, h2])⟩
def pX5_within : List (Nat × XOp) := [(0, xo_il 0 1), (1, xo_il 1 2), (2, xo_ic_ge 9 5), (5, xo_il 1 6), (6, xo_goto 19), (9, xo_il 0 10), (10, xo_il 2 11), (11, xo_ic_le 18 14), (14, xo_il 2 15), (15, xo_goto 19), (18, xo_il 0 19), (19, xo_iret)]
theorem sX5_within : XPr RX5 cX5_within 3 (some .int) 0 pX5_within :=
  XPr.cons (xs_iload_n dX5_within_0 rfl) <|
  XPr.cons (xs_iload_n dX5_within_1 rfl) <|
  XPr.cons (xs_ic_ge dX5_within_2 (by decide +kernel)) <|
  XPr.cons (xs_iload_n dX5_within_5 rfl) <|
  XPr.cons (xs_goto dX5_within_6 (by decide +kernel)) <|
  XPr.cons (xs_iload_n dX5_within_9 rfl) <|
  XPr.cons (xs_iload_n dX5_within_10 rfl) <|
  XPr.cons (xs_ic_le dX5_within_11 (by decide +kernel)) <|
  XPr.cons (xs_iload_n dX5_within_14 rfl) <|
  XPr.cons (xs_goto dX5_within_15 (by decide +kernel)) <|
  XPr.cons (xs_iload_n dX5_within_18 rfl) <|
  XPr.cons (xs_iret rfl dX5_within_19) <|
  XPr.nil
set_option maxRecDepth 20000 in
theorem c_X5_within (E : XEnv) (a b c : Int32) : XCall E 0 yX5_within cX5_within 3 (some .int) [.int a, .int b, .int c] [] (fun r _ => r = some (.int (f_clamp a b c))) := by
  refine XCall.of (by decide +kernel) (Nat.le_of_ble_eq_true rfl) (xgo sX5_within [] 60 (Nat.le_refl _) ?_)
  refine ⟨fun h1 => ⟨fun h2 => ?_, fun h2 => ?_⟩, fun h1 => ?_⟩
  · exact congrArg (fun x => some (Value.int x)) (by simp [f_clamp, h1, h2])
  · exact congrArg (fun x => some (Value.int x)) (by simp [f_clamp, h1, h2])
  · exact congrArg (fun x => some (Value.int x)) (by simp [f_clamp, h1])
def pX5_isUnder : List (Nat × XOp) := [(0, xo_il 0 1), (1, xo_ic 2 2), (2, xo_irem 3), (3, xo_if_ne 10 6), (6, xo_ic 1 7), (7, xo_goto 11), (10, xo_ic 0 11), (11, xo_zret)]
theorem sX5_isUnder : XPr RX5 cX5_isUnder 1 (some .boolean) 0 pX5_isUnder :=
  XPr.cons (xs_iload_n dX5_isUnder_0 rfl) <|
  XPr.cons (xs_iconst dX5_isUnder_1 (by decide +kernel)) <|
  XPr.cons (xs_irem dX5_isUnder_2) <|
  XPr.cons (xs_if_ne dX5_isUnder_3 (by decide +kernel)) <|
  XPr.cons (xs_iconst dX5_isUnder_6 (by decide +kernel)) <|
  XPr.cons (xs_goto dX5_isUnder_7 (by decide +kernel)) <|
  XPr.cons (xs_iconst dX5_isUnder_10 (by decide +kernel)) <|
  XPr.cons (xs_zret rfl dX5_isUnder_11) <|
  XPr.nil
set_option maxRecDepth 20000 in
theorem c_X5_isUnder (E : XEnv) (a : Int32) : XCall E 0 yX5_isUnder cX5_isUnder 1 (some .boolean) [.int a] [] (fun r _ => r = some (.int (f_isUnder a))) := by
  refine XCall.of (by decide +kernel) (Nat.le_of_ble_eq_true rfl) (xgo sX5_isUnder [] 60 (Nat.le_refl _) ?_)
  refine ⟨by decide, ⟨fun h1 => ?_, fun h1 => ?_⟩⟩
  · exact ⟨Or.inl rfl, congrArg (fun x => some (Value.int x)) (by simp [f_isUnder, h1])⟩
  · exact ⟨Or.inr rfl, congrArg (fun x => some (Value.int x)) (by simp [f_isUnder, h1])⟩
end
