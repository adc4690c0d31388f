section
/-- a private method of a class that the tables say can be made, by its rows of tables_1 -/
def lw_okq (q : MethodName × Nat) : Prop := (q.1.cls ≠ "java/lang/invoke/MethodHandle" ∧ q.1.cls ≠ "java/lang/invoke/VarHandle") ∧ Cond.instantiable q.1.cls q.2 ∈ tables_1 ∧ Cond.privateMethod q.1 ∈ tables_1 ∧ Cond.instanceMethod q.1 ∈ tables_1
theorem lw_p0 : lw_okq (⟨"WindowCopies$History", "slotOf", "(I)I"⟩, 3) := ⟨⟨by decide +kernel, by decide +kernel⟩, List.mem_of_getElem? (i := 45) (by decide +kernel), List.mem_of_getElem? (i := 231) (by decide +kernel), List.mem_of_getElem? (i := 232) (by decide +kernel)⟩
theorem lw_p1 : lw_okq (⟨"WindowCopies$History", "stateAt", "(I)LWindowCopies$State;"⟩, 3) := ⟨⟨by decide +kernel, by decide +kernel⟩, List.mem_of_getElem? (i := 45) (by decide +kernel), List.mem_of_getElem? (i := 235) (by decide +kernel), List.mem_of_getElem? (i := 236) (by decide +kernel)⟩
theorem lw_p2 : lw_okq (⟨"WindowCopies$Candidates", "takeIn", "(II)V"⟩, 6) := ⟨⟨by decide +kernel, by decide +kernel⟩, List.mem_of_getElem? (i := 64) (by decide +kernel), List.mem_of_getElem? (i := 328) (by decide +kernel), List.mem_of_getElem? (i := 329) (by decide +kernel)⟩
theorem lw_p3 : lw_okq (⟨"WindowCopies$Plan", "planFound", "(I)V"⟩, 11) := ⟨⟨by decide +kernel, by decide +kernel⟩, List.mem_of_getElem? (i := 89) (by decide +kernel), List.mem_of_getElem? (i := 385) (by decide +kernel), List.mem_of_getElem? (i := 386) (by decide +kernel)⟩
theorem lw_p4 : lw_okq (⟨"WindowCopies$Plan", "planLetter", "(II)V"⟩, 11) := ⟨⟨by decide +kernel, by decide +kernel⟩, List.mem_of_getElem? (i := 89) (by decide +kernel), List.mem_of_getElem? (i := 390) (by decide +kernel), List.mem_of_getElem? (i := 391) (by decide +kernel)⟩
theorem lw_p5 : lw_okq (⟨"WindowCopies$Plan", "planPart", "(IIII)V"⟩, 11) := ⟨⟨by decide +kernel, by decide +kernel⟩, List.mem_of_getElem? (i := 89) (by decide +kernel), List.mem_of_getElem? (i := 394) (by decide +kernel), List.mem_of_getElem? (i := 395) (by decide +kernel)⟩
theorem lw_p6 : lw_okq (⟨"WindowCopies$Plan", "planWeighed", "(I)V"⟩, 11) := ⟨⟨by decide +kernel, by decide +kernel⟩, List.mem_of_getElem? (i := 89) (by decide +kernel), List.mem_of_getElem? (i := 401) (by decide +kernel), List.mem_of_getElem? (i := 402) (by decide +kernel)⟩
theorem lw_p7 : lw_okq (⟨"WindowCopies$Plan", "planCheapest", "(I)V"⟩, 11) := ⟨⟨by decide +kernel, by decide +kernel⟩, List.mem_of_getElem? (i := 89) (by decide +kernel), List.mem_of_getElem? (i := 414) (by decide +kernel), List.mem_of_getElem? (i := 415) (by decide +kernel)⟩
theorem lw_p8 : lw_okq (⟨"WindowCopies$Plan", "countCopy", "(I)V"⟩, 11) := ⟨⟨by decide +kernel, by decide +kernel⟩, List.mem_of_getElem? (i := 89) (by decide +kernel), List.mem_of_getElem? (i := 425) (by decide +kernel), List.mem_of_getElem? (i := 426) (by decide +kernel)⟩
theorem lw_p9 : lw_okq (⟨"WindowCopies$State", "holds", "(I)Z"⟩, 3) := ⟨⟨by decide +kernel, by decide +kernel⟩, List.mem_of_getElem? (i := 20) (by decide +kernel), List.mem_of_getElem? (i := 506) (by decide +kernel), List.mem_of_getElem? (i := 507) (by decide +kernel)⟩
theorem lw_p10 : lw_okq (⟨"WindowCopies", "cheapestWay", "()I"⟩, 9) := ⟨⟨by decide +kernel, by decide +kernel⟩, List.mem_of_getElem? (i := 12) (by decide +kernel), List.mem_of_getElem? (i := 510) (by decide +kernel), List.mem_of_getElem? (i := 511) (by decide +kernel)⟩
theorem lw_p11 : lw_okq (⟨"WindowCopies", "settingCount", "(I)I"⟩, 9) := ⟨⟨by decide +kernel, by decide +kernel⟩, List.mem_of_getElem? (i := 12) (by decide +kernel), List.mem_of_getElem? (i := 522) (by decide +kernel), List.mem_of_getElem? (i := 523) (by decide +kernel)⟩
theorem lw_p12 : lw_okq (⟨"WindowCopies", "charactersOf", "(I)I"⟩, 9) := ⟨⟨by decide +kernel, by decide +kernel⟩, List.mem_of_getElem? (i := 12) (by decide +kernel), List.mem_of_getElem? (i := 564) (by decide +kernel), List.mem_of_getElem? (i := 565) (by decide +kernel)⟩
theorem lw_p13 : lw_okq (⟨"WindowCopies$Text", "appendNumber", "(I)V"⟩, 2) := ⟨⟨by decide +kernel, by decide +kernel⟩, List.mem_of_getElem? (i := 145) (by decide +kernel), List.mem_of_getElem? (i := 579) (by decide +kernel), List.mem_of_getElem? (i := 580) (by decide +kernel)⟩
theorem lw_p14 : lw_okq (⟨"WindowCopies$TextReader", "takeCopy", "()V"⟩, 6) := ⟨⟨by decide +kernel, by decide +kernel⟩, List.mem_of_getElem? (i := 158) (by decide +kernel), List.mem_of_getElem? (i := 603) (by decide +kernel), List.mem_of_getElem? (i := 604) (by decide +kernel)⟩
theorem lw_p15 : lw_okq (⟨"WindowCopies$TextReader", "takeNumber", "()I"⟩, 6) := ⟨⟨by decide +kernel, by decide +kernel⟩, List.mem_of_getElem? (i := 158) (by decide +kernel), List.mem_of_getElem? (i := 607) (by decide +kernel), List.mem_of_getElem? (i := 608) (by decide +kernel)⟩
def lw_privs_1 : List (MethodName × Nat) := [(⟨"WindowCopies$History", "slotOf", "(I)I"⟩, 3), (⟨"WindowCopies$History", "stateAt", "(I)LWindowCopies$State;"⟩, 3), (⟨"WindowCopies$Candidates", "takeIn", "(II)V"⟩, 6), (⟨"WindowCopies$Plan", "planFound", "(I)V"⟩, 11), (⟨"WindowCopies$Plan", "planLetter", "(II)V"⟩, 11), (⟨"WindowCopies$Plan", "planPart", "(IIII)V"⟩, 11), (⟨"WindowCopies$Plan", "planWeighed", "(I)V"⟩, 11), (⟨"WindowCopies$Plan", "planCheapest", "(I)V"⟩, 11), (⟨"WindowCopies$Plan", "countCopy", "(I)V"⟩, 11), (⟨"WindowCopies$State", "holds", "(I)Z"⟩, 3), (⟨"WindowCopies", "cheapestWay", "()I"⟩, 9), (⟨"WindowCopies", "settingCount", "(I)I"⟩, 9), (⟨"WindowCopies", "charactersOf", "(I)I"⟩, 9), (⟨"WindowCopies$Text", "appendNumber", "(I)V"⟩, 2), (⟨"WindowCopies$TextReader", "takeCopy", "()V"⟩, 6), (⟨"WindowCopies$TextReader", "takeNumber", "()I"⟩, 6)]
theorem lw_r1 : ∀ q ∈ lw_privs_1, lw_okq q := List.forall_mem_cons.mpr ⟨lw_p0, List.forall_mem_cons.mpr ⟨lw_p1, List.forall_mem_cons.mpr ⟨lw_p2, List.forall_mem_cons.mpr ⟨lw_p3, List.forall_mem_cons.mpr ⟨lw_p4, List.forall_mem_cons.mpr ⟨lw_p5, List.forall_mem_cons.mpr ⟨lw_p6, List.forall_mem_cons.mpr ⟨lw_p7, List.forall_mem_cons.mpr ⟨lw_p8, List.forall_mem_cons.mpr ⟨lw_p9, List.forall_mem_cons.mpr ⟨lw_p10, List.forall_mem_cons.mpr ⟨lw_p11, List.forall_mem_cons.mpr ⟨lw_p12, List.forall_mem_cons.mpr ⟨lw_p13, List.forall_mem_cons.mpr ⟨lw_p14, List.forall_mem_cons.mpr ⟨lw_p15, fun _ h => absurd h List.not_mem_nil⟩⟩⟩⟩⟩⟩⟩⟩⟩⟩⟩⟩⟩⟩⟩⟩
theorem lw_p16 : lw_okq (⟨"WindowCopies$TextReader", "digitAt", "(I)I"⟩, 6) := ⟨⟨by decide +kernel, by decide +kernel⟩, List.mem_of_getElem? (i := 158) (by decide +kernel), List.mem_of_getElem? (i := 611) (by decide +kernel), List.mem_of_getElem? (i := 612) (by decide +kernel)⟩
theorem lw_p17 : lw_okq (⟨"WindowCopies$TextReader", "blame", "(II)V"⟩, 6) := ⟨⟨by decide +kernel, by decide +kernel⟩, List.mem_of_getElem? (i := 158) (by decide +kernel), List.mem_of_getElem? (i := 616) (by decide +kernel), List.mem_of_getElem? (i := 617) (by decide +kernel)⟩
theorem lw_p18 : lw_okq (⟨"WindowCopies$TextReader", "takeSign", "(I)V"⟩, 6) := ⟨⟨by decide +kernel, by decide +kernel⟩, List.mem_of_getElem? (i := 158) (by decide +kernel), List.mem_of_getElem? (i := 620) (by decide +kernel), List.mem_of_getElem? (i := 621) (by decide +kernel)⟩
theorem lw_p19 : lw_okq (⟨"WindowCopies$TextReader", "reasonAgainst", "(II)I"⟩, 6) := ⟨⟨by decide +kernel, by decide +kernel⟩, List.mem_of_getElem? (i := 158) (by decide +kernel), List.mem_of_getElem? (i := 624) (by decide +kernel), List.mem_of_getElem? (i := 625) (by decide +kernel)⟩
theorem lw_p20 : lw_okq (⟨"WindowCopies$TextReader", "takeLetter", "(I)V"⟩, 6) := ⟨⟨by decide +kernel, by decide +kernel⟩, List.mem_of_getElem? (i := 158) (by decide +kernel), List.mem_of_getElem? (i := 635) (by decide +kernel), List.mem_of_getElem? (i := 636) (by decide +kernel)⟩
theorem lw_p21 : lw_okq (⟨"WindowCopiesModel", "changes", "()V"⟩, 21) := ⟨⟨by decide +kernel, by decide +kernel⟩, List.mem_of_getElem? (i := 659) (by decide +kernel), List.mem_of_getElem? (i := 736) (by decide +kernel), List.mem_of_getElem? (i := 737) (by decide +kernel)⟩
theorem lw_p22 : lw_okq (⟨"WindowCopiesModel", "isPlace", "(I)Z"⟩, 21) := ⟨⟨by decide +kernel, by decide +kernel⟩, List.mem_of_getElem? (i := 659) (by decide +kernel), List.mem_of_getElem? (i := 748) (by decide +kernel), List.mem_of_getElem? (i := 749) (by decide +kernel)⟩
theorem lw_p23 : lw_okq (⟨"WindowCopiesModel", "distance", "(II)I"⟩, 21) := ⟨⟨by decide +kernel, by decide +kernel⟩, List.mem_of_getElem? (i := 659) (by decide +kernel), List.mem_of_getElem? (i := 770) (by decide +kernel), List.mem_of_getElem? (i := 771) (by decide +kernel)⟩
theorem lw_p24 : lw_okq (⟨"WindowCopiesModel", "isCandidate", "(II)Z"⟩, 21) := ⟨⟨by decide +kernel, by decide +kernel⟩, List.mem_of_getElem? (i := 659) (by decide +kernel), List.mem_of_getElem? (i := 774) (by decide +kernel), List.mem_of_getElem? (i := 775) (by decide +kernel)⟩
theorem lw_p25 : lw_okq (⟨"WindowCopiesModel", "reach", "(II)I"⟩, 21) := ⟨⟨by decide +kernel, by decide +kernel⟩, List.mem_of_getElem? (i := 659) (by decide +kernel), List.mem_of_getElem? (i := 778) (by decide +kernel), List.mem_of_getElem? (i := 779) (by decide +kernel)⟩
theorem lw_p26 : lw_okq (⟨"WindowCopiesModel", "candidates", "(I)I"⟩, 21) := ⟨⟨by decide +kernel, by decide +kernel⟩, List.mem_of_getElem? (i := 659) (by decide +kernel), List.mem_of_getElem? (i := 786) (by decide +kernel), List.mem_of_getElem? (i := 787) (by decide +kernel)⟩
theorem lw_p27 : lw_okq (⟨"WindowCopiesModel", "best", "(I)I"⟩, 21) := ⟨⟨by decide +kernel, by decide +kernel⟩, List.mem_of_getElem? (i := 659) (by decide +kernel), List.mem_of_getElem? (i := 790) (by decide +kernel), List.mem_of_getElem? (i := 791) (by decide +kernel)⟩
theorem lw_p28 : lw_okq (⟨"WindowCopiesModel", "saves", "(I)I"⟩, 21) := ⟨⟨by decide +kernel, by decide +kernel⟩, List.mem_of_getElem? (i := 659) (by decide +kernel), List.mem_of_getElem? (i := 794) (by decide +kernel), List.mem_of_getElem? (i := 795) (by decide +kernel)⟩
theorem lw_p29 : lw_okq (⟨"WindowCopiesModel", "lays", "(I)V"⟩, 21) := ⟨⟨by decide +kernel, by decide +kernel⟩, List.mem_of_getElem? (i := 659) (by decide +kernel), List.mem_of_getElem? (i := 806) (by decide +kernel), List.mem_of_getElem? (i := 807) (by decide +kernel)⟩
theorem lw_p30 : lw_okq (⟨"WindowCopiesModel", "weighs", "(I)V"⟩, 21) := ⟨⟨by decide +kernel, by decide +kernel⟩, List.mem_of_getElem? (i := 659) (by decide +kernel), List.mem_of_getElem? (i := 810) (by decide +kernel), List.mem_of_getElem? (i := 811) (by decide +kernel)⟩
theorem lw_p31 : lw_okq (⟨"WindowCopiesModel", "takes", "(II)Z"⟩, 21) := ⟨⟨by decide +kernel, by decide +kernel⟩, List.mem_of_getElem? (i := 659) (by decide +kernel), List.mem_of_getElem? (i := 814) (by decide +kernel), List.mem_of_getElem? (i := 815) (by decide +kernel)⟩
def lw_privs_2 : List (MethodName × Nat) := [(⟨"WindowCopies$TextReader", "digitAt", "(I)I"⟩, 6), (⟨"WindowCopies$TextReader", "blame", "(II)V"⟩, 6), (⟨"WindowCopies$TextReader", "takeSign", "(I)V"⟩, 6), (⟨"WindowCopies$TextReader", "reasonAgainst", "(II)I"⟩, 6), (⟨"WindowCopies$TextReader", "takeLetter", "(I)V"⟩, 6), (⟨"WindowCopiesModel", "changes", "()V"⟩, 21), (⟨"WindowCopiesModel", "isPlace", "(I)Z"⟩, 21), (⟨"WindowCopiesModel", "distance", "(II)I"⟩, 21), (⟨"WindowCopiesModel", "isCandidate", "(II)Z"⟩, 21), (⟨"WindowCopiesModel", "reach", "(II)I"⟩, 21), (⟨"WindowCopiesModel", "candidates", "(I)I"⟩, 21), (⟨"WindowCopiesModel", "best", "(I)I"⟩, 21), (⟨"WindowCopiesModel", "saves", "(I)I"⟩, 21), (⟨"WindowCopiesModel", "lays", "(I)V"⟩, 21), (⟨"WindowCopiesModel", "weighs", "(I)V"⟩, 21), (⟨"WindowCopiesModel", "takes", "(II)Z"⟩, 21)]
theorem lw_r2 : ∀ q ∈ lw_privs_2, lw_okq q := List.forall_mem_cons.mpr ⟨lw_p16, List.forall_mem_cons.mpr ⟨lw_p17, List.forall_mem_cons.mpr ⟨lw_p18, List.forall_mem_cons.mpr ⟨lw_p19, List.forall_mem_cons.mpr ⟨lw_p20, List.forall_mem_cons.mpr ⟨lw_p21, List.forall_mem_cons.mpr ⟨lw_p22, List.forall_mem_cons.mpr ⟨lw_p23, List.forall_mem_cons.mpr ⟨lw_p24, List.forall_mem_cons.mpr ⟨lw_p25, List.forall_mem_cons.mpr ⟨lw_p26, List.forall_mem_cons.mpr ⟨lw_p27, List.forall_mem_cons.mpr ⟨lw_p28, List.forall_mem_cons.mpr ⟨lw_p29, List.forall_mem_cons.mpr ⟨lw_p30, List.forall_mem_cons.mpr ⟨lw_p31, fun _ h => absurd h List.not_mem_nil⟩⟩⟩⟩⟩⟩⟩⟩⟩⟩⟩⟩⟩⟩⟩⟩
theorem lw_p32 : lw_okq (⟨"WindowCopiesModel", "savesMore", "(II)Z"⟩, 21) := ⟨⟨by decide +kernel, by decide +kernel⟩, List.mem_of_getElem? (i := 659) (by decide +kernel), List.mem_of_getElem? (i := 818) (by decide +kernel), List.mem_of_getElem? (i := 819) (by decide +kernel)⟩
theorem lw_p33 : lw_okq (⟨"WindowCopiesModel", "cost", "(I)I"⟩, 21) := ⟨⟨by decide +kernel, by decide +kernel⟩, List.mem_of_getElem? (i := 659) (by decide +kernel), List.mem_of_getElem? (i := 822) (by decide +kernel), List.mem_of_getElem? (i := 823) (by decide +kernel)⟩
theorem lw_p34 : lw_okq (⟨"WindowCopiesModel", "costAll", "(I)I"⟩, 21) := ⟨⟨by decide +kernel, by decide +kernel⟩, List.mem_of_getElem? (i := 659) (by decide +kernel), List.mem_of_getElem? (i := 830) (by decide +kernel), List.mem_of_getElem? (i := 831) (by decide +kernel)⟩
theorem lw_p35 : lw_okq (⟨"WindowCopiesModel", "stretch", "(II)I"⟩, 21) := ⟨⟨by decide +kernel, by decide +kernel⟩, List.mem_of_getElem? (i := 659) (by decide +kernel), List.mem_of_getElem? (i := 846) (by decide +kernel), List.mem_of_getElem? (i := 847) (by decide +kernel)⟩
theorem lw_p36 : lw_okq (⟨"WindowCopiesModel", "unlike", "()I"⟩, 21) := ⟨⟨by decide +kernel, by decide +kernel⟩, List.mem_of_getElem? (i := 659) (by decide +kernel), List.mem_of_getElem? (i := 854) (by decide +kernel), List.mem_of_getElem? (i := 855) (by decide +kernel)⟩
theorem lw_p37 : lw_okq (⟨"WindowCopiesModel", "cheapest", "()I"⟩, 21) := ⟨⟨by decide +kernel, by decide +kernel⟩, List.mem_of_getElem? (i := 659) (by decide +kernel), List.mem_of_getElem? (i := 858) (by decide +kernel), List.mem_of_getElem? (i := 859) (by decide +kernel)⟩
theorem lw_p38 : lw_okq (⟨"WindowCopiesModel", "writesSign", "(I)V"⟩, 21) := ⟨⟨by decide +kernel, by decide +kernel⟩, List.mem_of_getElem? (i := 659) (by decide +kernel), List.mem_of_getElem? (i := 892) (by decide +kernel), List.mem_of_getElem? (i := 893) (by decide +kernel)⟩
theorem lw_p39 : lw_okq (⟨"WindowCopiesModel", "writesNumber", "(I)V"⟩, 21) := ⟨⟨by decide +kernel, by decide +kernel⟩, List.mem_of_getElem? (i := 659) (by decide +kernel), List.mem_of_getElem? (i := 896) (by decide +kernel), List.mem_of_getElem? (i := 897) (by decide +kernel)⟩
theorem lw_p40 : lw_okq (⟨"WindowCopiesModel", "isRight", "()Z"⟩, 21) := ⟨⟨by decide +kernel, by decide +kernel⟩, List.mem_of_getElem? (i := 659) (by decide +kernel), List.mem_of_getElem? (i := 904) (by decide +kernel), List.mem_of_getElem? (i := 905) (by decide +kernel)⟩
theorem lw_p41 : lw_okq (⟨"WindowCopiesModel", "isAt", "(II)Z"⟩, 21) := ⟨⟨by decide +kernel, by decide +kernel⟩, List.mem_of_getElem? (i := 659) (by decide +kernel), List.mem_of_getElem? (i := 908) (by decide +kernel), List.mem_of_getElem? (i := 909) (by decide +kernel)⟩
theorem lw_p42 : lw_okq (⟨"WindowCopiesModel", "readsCopy", "()Z"⟩, 21) := ⟨⟨by decide +kernel, by decide +kernel⟩, List.mem_of_getElem? (i := 659) (by decide +kernel), List.mem_of_getElem? (i := 912) (by decide +kernel), List.mem_of_getElem? (i := 913) (by decide +kernel)⟩
theorem lw_p43 : lw_okq (⟨"WindowCopiesModel", "numbered", "()Z"⟩, 21) := ⟨⟨by decide +kernel, by decide +kernel⟩, List.mem_of_getElem? (i := 659) (by decide +kernel), List.mem_of_getElem? (i := 916) (by decide +kernel), List.mem_of_getElem? (i := 917) (by decide +kernel)⟩
theorem lw_p44 : lw_okq (⟨"WindowCopiesModel", "fails", "(I)Z"⟩, 21) := ⟨⟨by decide +kernel, by decide +kernel⟩, List.mem_of_getElem? (i := 659) (by decide +kernel), List.mem_of_getElem? (i := 920) (by decide +kernel), List.mem_of_getElem? (i := 921) (by decide +kernel)⟩
theorem lw_p45 : lw_okq (⟨"WindowCopiesModel", "sign", "(I)Z"⟩, 21) := ⟨⟨by decide +kernel, by decide +kernel⟩, List.mem_of_getElem? (i := 659) (by decide +kernel), List.mem_of_getElem? (i := 924) (by decide +kernel), List.mem_of_getElem? (i := 925) (by decide +kernel)⟩
theorem lw_p46 : lw_okq (⟨"WindowCopiesModel", "wrong", "(II)I"⟩, 21) := ⟨⟨by decide +kernel, by decide +kernel⟩, List.mem_of_getElem? (i := 659) (by decide +kernel), List.mem_of_getElem? (i := 928) (by decide +kernel), List.mem_of_getElem? (i := 929) (by decide +kernel)⟩
theorem lw_p47 : lw_okq (⟨"WindowCopiesModel", "readsLetter", "()Z"⟩, 21) := ⟨⟨by decide +kernel, by decide +kernel⟩, List.mem_of_getElem? (i := 659) (by decide +kernel), List.mem_of_getElem? (i := 932) (by decide +kernel), List.mem_of_getElem? (i := 933) (by decide +kernel)⟩
def lw_privs_3 : List (MethodName × Nat) := [(⟨"WindowCopiesModel", "savesMore", "(II)Z"⟩, 21), (⟨"WindowCopiesModel", "cost", "(I)I"⟩, 21), (⟨"WindowCopiesModel", "costAll", "(I)I"⟩, 21), (⟨"WindowCopiesModel", "stretch", "(II)I"⟩, 21), (⟨"WindowCopiesModel", "unlike", "()I"⟩, 21), (⟨"WindowCopiesModel", "cheapest", "()I"⟩, 21), (⟨"WindowCopiesModel", "writesSign", "(I)V"⟩, 21), (⟨"WindowCopiesModel", "writesNumber", "(I)V"⟩, 21), (⟨"WindowCopiesModel", "isRight", "()Z"⟩, 21), (⟨"WindowCopiesModel", "isAt", "(II)Z"⟩, 21), (⟨"WindowCopiesModel", "readsCopy", "()Z"⟩, 21), (⟨"WindowCopiesModel", "numbered", "()Z"⟩, 21), (⟨"WindowCopiesModel", "fails", "(I)Z"⟩, 21), (⟨"WindowCopiesModel", "sign", "(I)Z"⟩, 21), (⟨"WindowCopiesModel", "wrong", "(II)I"⟩, 21), (⟨"WindowCopiesModel", "readsLetter", "()Z"⟩, 21)]
theorem lw_r3 : ∀ q ∈ lw_privs_3, lw_okq q := List.forall_mem_cons.mpr ⟨lw_p32, List.forall_mem_cons.mpr ⟨lw_p33, List.forall_mem_cons.mpr ⟨lw_p34, List.forall_mem_cons.mpr ⟨lw_p35, List.forall_mem_cons.mpr ⟨lw_p36, List.forall_mem_cons.mpr ⟨lw_p37, List.forall_mem_cons.mpr ⟨lw_p38, List.forall_mem_cons.mpr ⟨lw_p39, List.forall_mem_cons.mpr ⟨lw_p40, List.forall_mem_cons.mpr ⟨lw_p41, List.forall_mem_cons.mpr ⟨lw_p42, List.forall_mem_cons.mpr ⟨lw_p43, List.forall_mem_cons.mpr ⟨lw_p44, List.forall_mem_cons.mpr ⟨lw_p45, List.forall_mem_cons.mpr ⟨lw_p46, List.forall_mem_cons.mpr ⟨lw_p47, fun _ h => absurd h List.not_mem_nil⟩⟩⟩⟩⟩⟩⟩⟩⟩⟩⟩⟩⟩⟩⟩⟩
def lw_privs : List (MethodName × Nat) := lw_privs_1 ++ (lw_privs_2 ++ (lw_privs_3))
def lw_tbl : List Cond := k2_sels lw_privs ++ tables_1
theorem lw_privs_ok : ∀ q ∈ lw_privs, lw_okq q := by
  show ∀ q ∈ lw_privs_1 ++ (lw_privs_2 ++ (lw_privs_3)), lw_okq q
  exact List.forall_mem_append.mpr ⟨lw_r1, List.forall_mem_append.mpr ⟨lw_r2, lw_r3⟩⟩
/-! the words that every method of mine asks: those of lw_tbl that stay under warmer tables -/
def gT : List Cond := lw_tbl.filter goodWord
theorem gT_of {w : Cond} (h : w ∈ lw_tbl) (hg : goodWord w = true) : w ∈ gT := List.mem_filter.mpr ⟨h, hg⟩
theorem gT_t {w : Cond} (i : Nat) (h : tables_1[i]? = some w) (hg : goodWord w = true) : w ∈ gT := gT_of (List.mem_append_right _ (List.mem_of_getElem? h)) hg
theorem gT_p {q : MethodName × Nat} (i : Nat) (h : lw_privs[i]? = some q) : Cond.selects q.1.cls q.1 q.1 ∈ gT := gT_of (List.mem_append_left _ (List.mem_map.mpr ⟨q, List.mem_of_getElem? h, rfl⟩)) rfl
theorem gT_good {w : Cond} (h : w ∈ gT) : (w.onTables && w.keeps) = true ∨ ∃ ty, w = .arrayClass ty := good_of_word (List.mem_filter.mp h).2
theorem gT_in {w : Cond} (h : w ∈ gT) : w ∈ lw_tbl := (List.mem_filter.mp h).1
abbrev y_WC_init : MethodName := ⟨"WindowCopies", "<init>", "()V"⟩
abbrev i_WC_init : MethodName × ByteArray × Nat × Option FieldType × Nat × Nat := (y_WC_init, prog_1_method_1_code, 1, none, 0, 3)
abbrev y_WC_put : MethodName := ⟨"WindowCopies", "put", "(I)I"⟩
abbrev i_WC_put : MethodName × ByteArray × Nat × Option FieldType × Nat × Nat := (y_WC_put, prog_1_method_2_code, 2, (some .int), 1, 5)
abbrev y_WC_drop : MethodName := ⟨"WindowCopies", "drop", "(I)I"⟩
abbrev i_WC_drop : MethodName × ByteArray × Nat × Option FieldType × Nat × Nat := (y_WC_drop, prog_1_method_3_code, 2, (some .int), 1, 5)
abbrev y_WC_mend : MethodName := ⟨"WindowCopies", "mend", "(II)I"⟩
abbrev i_WC_mend : MethodName × ByteArray × Nat × Option FieldType × Nat × Nat := (y_WC_mend, prog_1_method_4_code, 4, (some .int), 2, 5)
abbrev y_WC_set : MethodName := ⟨"WindowCopies", "set", "(II)I"⟩
abbrev i_WC_set : MethodName × ByteArray × Nat × Option FieldType × Nat × Nat := (y_WC_set, prog_1_method_5_code, 4, (some .int), 2, 5)
abbrev y_WC_letter : MethodName := ⟨"WindowCopies", "letter", "(I)I"⟩
abbrev i_WC_letter : MethodName × ByteArray × Nat × Option FieldType × Nat × Nat := (y_WC_letter, prog_1_method_6_code, 2, (some .int), 1, 2)
abbrev y_WC_candidate : MethodName := ⟨"WindowCopies", "candidate", "(III)I"⟩
abbrev i_WC_candidate : MethodName × ByteArray × Nat × Option FieldType × Nat × Nat := (y_WC_candidate, prog_1_method_7_code, 4, (some .int), 3, 4)
abbrev y_WC_found : MethodName := ⟨"WindowCopies", "found", "(II)I"⟩
abbrev i_WC_found : MethodName × ByteArray × Nat × Option FieldType × Nat × Nat := (y_WC_found, prog_1_method_8_code, 4, (some .int), 2, 4)
abbrev y_WC_isCopy : MethodName := ⟨"WindowCopies", "isCopy", "(III)I"⟩
abbrev i_WC_isCopy : MethodName × ByteArray × Nat × Option FieldType × Nat × Nat := (y_WC_isCopy, prog_1_method_9_code, 6, (some .int), 3, 3)
abbrev y_WC_part : MethodName := ⟨"WindowCopies", "part", "(III)I"⟩
abbrev i_WC_part : MethodName × ByteArray × Nat × Option FieldType × Nat × Nat := (y_WC_part, prog_1_method_10_code, 5, (some .int), 3, 5)
abbrev y_WC_total : MethodName := ⟨"WindowCopies", "total", "(II)I"⟩
abbrev i_WC_total : MethodName × ByteArray × Nat × Option FieldType × Nat × Nat := (y_WC_total, prog_1_method_11_code, 3, (some .int), 2, 5)
abbrev y_WC_partAt : MethodName := ⟨"WindowCopies", "partAt", "(II)I"⟩
abbrev i_WC_partAt : MethodName × ByteArray × Nat × Option FieldType × Nat × Nat := (y_WC_partAt, prog_1_method_12_code, 3, (some .int), 2, 5)
abbrev y_WC_parting : MethodName := ⟨"WindowCopies", "parting", "(II)I"⟩
abbrev i_WC_parting : MethodName × ByteArray × Nat × Option FieldType × Nat × Nat := (y_WC_parting, prog_1_method_13_code, 4, (some .int), 2, 5)
abbrev y_WC_repeat : MethodName := ⟨"WindowCopies", "repeat", "(I)I"⟩
abbrev i_WC_repeat : MethodName × ByteArray × Nat × Option FieldType × Nat × Nat := (y_WC_repeat, prog_1_method_14_code, 2, (some .int), 1, 4)
abbrev y_WC_count : MethodName := ⟨"WindowCopies", "count", "(I)I"⟩
abbrev i_WC_count : MethodName × ByteArray × Nat × Option FieldType × Nat × Nat := (y_WC_count, prog_1_method_15_code, 2, (some .int), 1, 6)
abbrev y_WC_settingCount : MethodName := ⟨"WindowCopies", "settingCount", "(I)I"⟩
abbrev i_WC_settingCount : MethodName × ByteArray × Nat × Option FieldType × Nat × Nat := (y_WC_settingCount, prog_1_method_16_code, 2, (some .int), 1, 2)
abbrev y_WC_cheapestWay : MethodName := ⟨"WindowCopies", "cheapestWay", "()I"⟩
abbrev i_WC_cheapestWay : MethodName × ByteArray × Nat × Option FieldType × Nat × Nat := (y_WC_cheapestWay, prog_1_method_17_code, 4, (some .int), 0, 5)
abbrev y_WC_keep : MethodName := ⟨"WindowCopies", "keep", "()I"⟩
abbrev i_WC_keep : MethodName × ByteArray × Nat × Option FieldType × Nat × Nat := (y_WC_keep, prog_1_method_18_code, 1, (some .int), 0, 4)
abbrev y_WC_restore : MethodName := ⟨"WindowCopies", "restore", "()I"⟩
abbrev i_WC_restore : MethodName × ByteArray × Nat × Option FieldType × Nat × Nat := (y_WC_restore, prog_1_method_19_code, 1, (some .int), 0, 5)
abbrev y_WC_undo : MethodName := ⟨"WindowCopies", "undo", "()I"⟩
abbrev i_WC_undo : MethodName × ByteArray × Nat × Option FieldType × Nat × Nat := (y_WC_undo, prog_1_method_20_code, 1, (some .int), 0, 5)
abbrev y_WC_type : MethodName := ⟨"WindowCopies", "type", "(I)I"⟩
abbrev i_WC_type : MethodName × ByteArray × Nat × Option FieldType × Nat × Nat := (y_WC_type, prog_1_method_21_code, 2, (some .int), 1, 2)
abbrev y_WC_clearText : MethodName := ⟨"WindowCopies", "clearText", "()I"⟩
abbrev i_WC_clearText : MethodName × ByteArray × Nat × Option FieldType × Nat × Nat := (y_WC_clearText, prog_1_method_22_code, 2, (some .int), 0, 1)
abbrev y_WC_write : MethodName := ⟨"WindowCopies", "write", "(I)I"⟩
abbrev i_WC_write : MethodName × ByteArray × Nat × Option FieldType × Nat × Nat := (y_WC_write, prog_1_method_23_code, 5, (some .int), 1, 5)
abbrev y_WC_charactersOf : MethodName := ⟨"WindowCopies", "charactersOf", "(I)I"⟩
abbrev i_WC_charactersOf : MethodName × ByteArray × Nat × Option FieldType × Nat × Nat := (y_WC_charactersOf, prog_1_method_24_code, 6, (some .int), 1, 2)
abbrev y_WC_fault : MethodName := ⟨"WindowCopies", "fault", "(I)I"⟩
abbrev i_WC_fault : MethodName × ByteArray × Nat × Option FieldType × Nat × Nat := (y_WC_fault, prog_1_method_25_code, 2, (some .int), 1, 6)
abbrev y_WC_read : MethodName := ⟨"WindowCopies", "read", "()I"⟩
abbrev i_WC_read : MethodName × ByteArray × Nat × Option FieldType × Nat × Nat := (y_WC_read, prog_1_method_26_code, 1, (some .int), 0, 6)
abbrev y_WC_isIn : MethodName := ⟨"WindowCopies", "isIn", "(III)Z"⟩
abbrev i_WC_isIn : MethodName × ByteArray × Nat × Option FieldType × Nat × Nat := (y_WC_isIn, prog_1_method_27_code, 3, (some .boolean), 3, 0)
abbrev y_WC_isLetter : MethodName := ⟨"WindowCopies", "isLetter", "(I)Z"⟩
abbrev i_WC_isLetter : MethodName × ByteArray × Nat × Option FieldType × Nat × Nat := (y_WC_isLetter, prog_1_method_28_code, 1, (some .boolean), 1, 1)
abbrev y_WC_isWay : MethodName := ⟨"WindowCopies", "isWay", "(I)Z"⟩
abbrev i_WC_isWay : MethodName × ByteArray × Nat × Option FieldType × Nat × Nat := (y_WC_isWay, prog_1_method_29_code, 1, (some .boolean), 1, 1)
abbrev y_WC_at : MethodName := ⟨"WindowCopies", "at", "([II)I"⟩
abbrev i_WC_at : MethodName × ByteArray × Nat × Option FieldType × Nat × Nat := (y_WC_at, prog_1_method_30_code, 2, (some .int), 2, 0)
abbrev y_WC_store : MethodName := ⟨"WindowCopies", "store", "([III)V"⟩
abbrev i_WC_store : MethodName × ByteArray × Nat × Option FieldType × Nat × Nat := (y_WC_store, prog_1_method_31_code, 3, none, 3, 0)
abbrev y_Mo_init : MethodName := ⟨"WindowCopiesModel", "<init>", "()V"⟩
abbrev i_Mo_init : MethodName × ByteArray × Nat × Option FieldType × Nat × Nat := (y_Mo_init, prog_10_method_1_code, 1, none, 0, 1)
abbrev y_Mo_in : MethodName := ⟨"WindowCopiesModel", "in", "(III)Z"⟩
abbrev i_Mo_in : MethodName × ByteArray × Nat × Option FieldType × Nat × Nat := (y_Mo_in, prog_10_method_3_code, 3, (some .boolean), 3, 0)
abbrev y_Mo_copies : MethodName := ⟨"WindowCopiesModel", "copies", "([I[I)V"⟩
abbrev i_Mo_copies : MethodName × ByteArray × Nat × Option FieldType × Nat × Nat := (y_Mo_copies, prog_10_method_4_code, 3, none, 2, 0)
abbrev y_Mo_changes : MethodName := ⟨"WindowCopiesModel", "changes", "()V"⟩
abbrev i_Mo_changes : MethodName × ByteArray × Nat × Option FieldType × Nat × Nat := (y_Mo_changes, prog_10_method_5_code, 2, none, 0, 0)
abbrev y_Mo_isPlace : MethodName := ⟨"WindowCopiesModel", "isPlace", "(I)Z"⟩
abbrev i_Mo_isPlace : MethodName × ByteArray × Nat × Option FieldType × Nat × Nat := (y_Mo_isPlace, prog_10_method_6_code, 2, (some .boolean), 1, 0)
abbrev y_Mo_put : MethodName := ⟨"WindowCopiesModel", "put", "(I)I"⟩
abbrev i_Mo_put : MethodName × ByteArray × Nat × Option FieldType × Nat × Nat := (y_Mo_put, prog_10_method_7_code, 2, (some .int), 1, 1)
abbrev y_Mo_drop : MethodName := ⟨"WindowCopiesModel", "drop", "(I)I"⟩
abbrev i_Mo_drop : MethodName × ByteArray × Nat × Option FieldType × Nat × Nat := (y_Mo_drop, prog_10_method_8_code, 2, (some .int), 1, 1)
abbrev y_Mo_mend : MethodName := ⟨"WindowCopiesModel", "mend", "(II)I"⟩
abbrev i_Mo_mend : MethodName × ByteArray × Nat × Option FieldType × Nat × Nat := (y_Mo_mend, prog_10_method_9_code, 4, (some .int), 2, 1)
abbrev y_Mo_least : MethodName := ⟨"WindowCopiesModel", "least", "(I)I"⟩
abbrev i_Mo_least : MethodName × ByteArray × Nat × Option FieldType × Nat × Nat := (y_Mo_least, prog_10_method_10_code, 1, (some .int), 1, 0)
abbrev y_Mo_most : MethodName := ⟨"WindowCopiesModel", "most", "(I)I"⟩
abbrev i_Mo_most : MethodName × ByteArray × Nat × Option FieldType × Nat × Nat := (y_Mo_most, prog_10_method_11_code, 1, (some .int), 1, 0)
abbrev y_Mo_set : MethodName := ⟨"WindowCopiesModel", "set", "(II)I"⟩
abbrev i_Mo_set : MethodName × ByteArray × Nat × Option FieldType × Nat × Nat := (y_Mo_set, prog_10_method_12_code, 4, (some .int), 2, 1)
abbrev y_Mo_letter : MethodName := ⟨"WindowCopiesModel", "letter", "(I)I"⟩
abbrev i_Mo_letter : MethodName × ByteArray × Nat × Option FieldType × Nat × Nat := (y_Mo_letter, prog_10_method_13_code, 2, (some .int), 1, 1)
abbrev y_Mo_reach : MethodName := ⟨"WindowCopiesModel", "reach", "(II)I"⟩
abbrev i_Mo_reach : MethodName × ByteArray × Nat × Option FieldType × Nat × Nat := (y_Mo_reach, prog_10_method_14_code, 4, (some .int), 2, 0)
abbrev y_Mo_isCandidate : MethodName := ⟨"WindowCopiesModel", "isCandidate", "(II)Z"⟩
abbrev i_Mo_isCandidate : MethodName × ByteArray × Nat × Option FieldType × Nat × Nat := (y_Mo_isCandidate, prog_10_method_15_code, 3, (some .boolean), 2, 1)
abbrev y_Mo_candidates : MethodName := ⟨"WindowCopiesModel", "candidates", "(I)I"⟩
abbrev i_Mo_candidates : MethodName × ByteArray × Nat × Option FieldType × Nat × Nat := (y_Mo_candidates, prog_10_method_16_code, 4, (some .int), 1, 2)
abbrev y_Mo_distance : MethodName := ⟨"WindowCopiesModel", "distance", "(II)I"⟩
abbrev i_Mo_distance : MethodName × ByteArray × Nat × Option FieldType × Nat × Nat := (y_Mo_distance, prog_10_method_17_code, 5, (some .int), 2, 2)
abbrev y_Mo_candidate : MethodName := ⟨"WindowCopiesModel", "candidate", "(III)I"⟩
abbrev i_Mo_candidate : MethodName × ByteArray × Nat × Option FieldType × Nat × Nat := (y_Mo_candidate, prog_10_method_18_code, 5, (some .int), 3, 3)
abbrev y_Mo_best : MethodName := ⟨"WindowCopiesModel", "best", "(I)I"⟩
abbrev i_Mo_best : MethodName × ByteArray × Nat × Option FieldType × Nat × Nat := (y_Mo_best, prog_10_method_19_code, 6, (some .int), 1, 2)
abbrev y_Mo_saves : MethodName := ⟨"WindowCopiesModel", "saves", "(I)I"⟩
abbrev i_Mo_saves : MethodName × ByteArray × Nat × Option FieldType × Nat × Nat := (y_Mo_saves, prog_10_method_20_code, 2, (some .int), 1, 3)
abbrev y_Mo_found : MethodName := ⟨"WindowCopiesModel", "found", "(II)I"⟩
abbrev i_Mo_found : MethodName × ByteArray × Nat × Option FieldType × Nat × Nat := (y_Mo_found, prog_10_method_21_code, 4, (some .int), 2, 4)
abbrev y_Mo_isCopy : MethodName := ⟨"WindowCopiesModel", "isCopy", "(III)I"⟩
abbrev i_Mo_isCopy : MethodName × ByteArray × Nat × Option FieldType × Nat × Nat := (y_Mo_isCopy, prog_10_method_22_code, 5, (some .int), 3, 1)
abbrev y_Mo_savesMore : MethodName := ⟨"WindowCopiesModel", "savesMore", "(II)Z"⟩
abbrev i_Mo_savesMore : MethodName × ByteArray × Nat × Option FieldType × Nat × Nat := (y_Mo_savesMore, prog_10_method_23_code, 3, (some .boolean), 2, 4)
abbrev y_Mo_takes : MethodName := ⟨"WindowCopiesModel", "takes", "(II)Z"⟩
abbrev i_Mo_takes : MethodName × ByteArray × Nat × Option FieldType × Nat × Nat := (y_Mo_takes, prog_10_method_24_code, 4, (some .boolean), 2, 5)
abbrev y_Mo_weighs : MethodName := ⟨"WindowCopiesModel", "weighs", "(I)V"⟩
abbrev i_Mo_weighs : MethodName × ByteArray × Nat × Option FieldType × Nat × Nat := (y_Mo_weighs, prog_10_method_25_code, 6, none, 1, 2)
abbrev y_Mo_lays : MethodName := ⟨"WindowCopiesModel", "lays", "(I)V"⟩
abbrev i_Mo_lays : MethodName × ByteArray × Nat × Option FieldType × Nat × Nat := (y_Mo_lays, prog_10_method_26_code, 4, none, 1, 6)
abbrev y_Mo_cost : MethodName := ⟨"WindowCopiesModel", "cost", "(I)I"⟩
abbrev i_Mo_cost : MethodName × ByteArray × Nat × Option FieldType × Nat × Nat := (y_Mo_cost, prog_10_method_27_code, 2, (some .int), 1, 0)
abbrev y_Mo_part : MethodName := ⟨"WindowCopiesModel", "part", "(III)I"⟩
abbrev i_Mo_part : MethodName × ByteArray × Nat × Option FieldType × Nat × Nat := (y_Mo_part, prog_10_method_28_code, 4, (some .int), 3, 7)
abbrev y_Mo_costAll : MethodName := ⟨"WindowCopiesModel", "costAll", "(I)I"⟩
abbrev i_Mo_costAll : MethodName × ByteArray × Nat × Option FieldType × Nat × Nat := (y_Mo_costAll, prog_10_method_29_code, 4, (some .int), 1, 7)
abbrev y_Mo_total : MethodName := ⟨"WindowCopiesModel", "total", "(II)I"⟩
abbrev i_Mo_total : MethodName × ByteArray × Nat × Option FieldType × Nat × Nat := (y_Mo_total, prog_10_method_30_code, 9, (some .int), 2, 8)
abbrev y_Mo_partAt : MethodName := ⟨"WindowCopiesModel", "partAt", "(II)I"⟩
abbrev i_Mo_partAt : MethodName × ByteArray × Nat × Option FieldType × Nat × Nat := (y_Mo_partAt, prog_10_method_31_code, 4, (some .int), 2, 7)
abbrev y_Mo_parting : MethodName := ⟨"WindowCopiesModel", "parting", "(II)I"⟩
abbrev i_Mo_parting : MethodName × ByteArray × Nat × Option FieldType × Nat × Nat := (y_Mo_parting, prog_10_method_32_code, 5, (some .int), 2, 7)
abbrev y_Mo_stretch : MethodName := ⟨"WindowCopiesModel", "stretch", "(II)I"⟩
abbrev i_Mo_stretch : MethodName × ByteArray × Nat × Option FieldType × Nat × Nat := (y_Mo_stretch, prog_10_method_33_code, 4, (some .int), 2, 0)
abbrev y_Mo_repeat : MethodName := ⟨"WindowCopiesModel", "repeat", "(I)I"⟩
abbrev i_Mo_repeat : MethodName × ByteArray × Nat × Option FieldType × Nat × Nat := (y_Mo_repeat, prog_10_method_34_code, 8, (some .int), 1, 1)
abbrev y_Mo_unlike : MethodName := ⟨"WindowCopiesModel", "unlike", "()I"⟩
abbrev i_Mo_unlike : MethodName × ByteArray × Nat × Option FieldType × Nat × Nat := (y_Mo_unlike, prog_10_method_35_code, 4, (some .int), 0, 0)
abbrev y_Mo_cheapest : MethodName := ⟨"WindowCopiesModel", "cheapest", "()I"⟩
abbrev i_Mo_cheapest : MethodName × ByteArray × Nat × Option FieldType × Nat × Nat := (y_Mo_cheapest, prog_10_method_36_code, 2, (some .int), 0, 8)
abbrev y_Mo_count : MethodName := ⟨"WindowCopiesModel", "count", "(I)I"⟩
abbrev i_Mo_count : MethodName × ByteArray × Nat × Option FieldType × Nat × Nat := (y_Mo_count, prog_10_method_37_code, 2, (some .int), 1, 9)
abbrev y_Mo_keep : MethodName := ⟨"WindowCopiesModel", "keep", "()I"⟩
abbrev i_Mo_keep : MethodName × ByteArray × Nat × Option FieldType × Nat × Nat := (y_Mo_keep, prog_10_method_38_code, 1, (some .int), 0, 1)
abbrev y_Mo_restore : MethodName := ⟨"WindowCopiesModel", "restore", "()I"⟩
abbrev i_Mo_restore : MethodName × ByteArray × Nat × Option FieldType × Nat × Nat := (y_Mo_restore, prog_10_method_39_code, 1, (some .int), 0, 1)
abbrev y_Mo_undo : MethodName := ⟨"WindowCopiesModel", "undo", "()I"⟩
abbrev i_Mo_undo : MethodName × ByteArray × Nat × Option FieldType × Nat × Nat := (y_Mo_undo, prog_10_method_40_code, 2, (some .int), 0, 0)
abbrev y_Mo_type : MethodName := ⟨"WindowCopiesModel", "type", "(I)I"⟩
abbrev i_Mo_type : MethodName × ByteArray × Nat × Option FieldType × Nat × Nat := (y_Mo_type, prog_10_method_41_code, 2, (some .int), 1, 1)
abbrev y_Mo_clearText : MethodName := ⟨"WindowCopiesModel", "clearText", "()I"⟩
abbrev i_Mo_clearText : MethodName × ByteArray × Nat × Option FieldType × Nat × Nat := (y_Mo_clearText, prog_10_method_42_code, 2, (some .int), 0, 0)
abbrev y_Mo_digits : MethodName := ⟨"WindowCopiesModel", "digits", "(I)I"⟩
abbrev i_Mo_digits : MethodName × ByteArray × Nat × Option FieldType × Nat × Nat := (y_Mo_digits, prog_10_method_43_code, 1, (some .int), 1, 0)
abbrev y_Mo_writesNumber : MethodName := ⟨"WindowCopiesModel", "writesNumber", "(I)V"⟩
abbrev i_Mo_writesNumber : MethodName × ByteArray × Nat × Option FieldType × Nat × Nat := (y_Mo_writesNumber, prog_10_method_44_code, 2, none, 1, 0)
abbrev y_Mo_writesSign : MethodName := ⟨"WindowCopiesModel", "writesSign", "(I)V"⟩
abbrev i_Mo_writesSign : MethodName × ByteArray × Nat × Option FieldType × Nat × Nat := (y_Mo_writesSign, prog_10_method_45_code, 2, none, 1, 0)
abbrev y_Mo_write : MethodName := ⟨"WindowCopiesModel", "write", "(I)I"⟩
abbrev i_Mo_write : MethodName × ByteArray × Nat × Option FieldType × Nat × Nat := (y_Mo_write, prog_10_method_46_code, 4, (some .int), 1, 7)
abbrev y_Mo_isAt : MethodName := ⟨"WindowCopiesModel", "isAt", "(II)Z"⟩
abbrev i_Mo_isAt : MethodName × ByteArray × Nat × Option FieldType × Nat × Nat := (y_Mo_isAt, prog_10_method_47_code, 3, (some .boolean), 2, 1)
abbrev y_Mo_fails : MethodName := ⟨"WindowCopiesModel", "fails", "(I)Z"⟩
abbrev i_Mo_fails : MethodName × ByteArray × Nat × Option FieldType × Nat × Nat := (y_Mo_fails, prog_10_method_48_code, 2, (some .boolean), 1, 0)
abbrev y_Mo_sign : MethodName := ⟨"WindowCopiesModel", "sign", "(I)Z"⟩
abbrev i_Mo_sign : MethodName × ByteArray × Nat × Option FieldType × Nat × Nat := (y_Mo_sign, prog_10_method_49_code, 3, (some .boolean), 1, 2)
abbrev y_Mo_numbered : MethodName := ⟨"WindowCopiesModel", "numbered", "()Z"⟩
abbrev i_Mo_numbered : MethodName × ByteArray × Nat × Option FieldType × Nat × Nat := (y_Mo_numbered, prog_10_method_50_code, 1, (some .boolean), 0, 2)
abbrev y_Mo_wrong : MethodName := ⟨"WindowCopiesModel", "wrong", "(II)I"⟩
abbrev i_Mo_wrong : MethodName × ByteArray × Nat × Option FieldType × Nat × Nat := (y_Mo_wrong, prog_10_method_51_code, 4, (some .int), 2, 1)
abbrev y_Mo_readsCopy : MethodName := ⟨"WindowCopiesModel", "readsCopy", "()Z"⟩
abbrev i_Mo_readsCopy : MethodName × ByteArray × Nat × Option FieldType × Nat × Nat := (y_Mo_readsCopy, prog_10_method_52_code, 5, (some .boolean), 0, 3)
abbrev y_Mo_readsLetter : MethodName := ⟨"WindowCopiesModel", "readsLetter", "()Z"⟩
abbrev i_Mo_readsLetter : MethodName × ByteArray × Nat × Option FieldType × Nat × Nat := (y_Mo_readsLetter, prog_10_method_53_code, 1, (some .boolean), 0, 2)
abbrev y_Mo_isRight : MethodName := ⟨"WindowCopiesModel", "isRight", "()Z"⟩
abbrev i_Mo_isRight : MethodName × ByteArray × Nat × Option FieldType × Nat × Nat := (y_Mo_isRight, prog_10_method_54_code, 2, (some .boolean), 0, 4)
abbrev y_Mo_fault : MethodName := ⟨"WindowCopiesModel", "fault", "(I)I"⟩
abbrev i_Mo_fault : MethodName × ByteArray × Nat × Option FieldType × Nat × Nat := (y_Mo_fault, prog_10_method_55_code, 2, (some .int), 1, 5)
abbrev y_Mo_read : MethodName := ⟨"WindowCopiesModel", "read", "()I"⟩
abbrev i_Mo_read : MethodName × ByteArray × Nat × Option FieldType × Nat × Nat := (y_Mo_read, prog_10_method_56_code, 2, (some .int), 0, 5)
abbrev y_Cand_init : MethodName := ⟨"WindowCopies$Candidates", "<init>", "(LWindowCopies$State;)V"⟩
abbrev i_Cand_init : MethodName × ByteArray × Nat × Option FieldType × Nat × Nat := (y_Cand_init, prog_2_method_1_code, 2, none, 1, 1)
abbrev y_Cand_beginBehindRow : MethodName := ⟨"WindowCopies$Candidates", "beginBehindRow", "()V"⟩
abbrev i_Cand_beginBehindRow : MethodName × ByteArray × Nat × Option FieldType × Nat × Nat := (y_Cand_beginBehindRow, prog_2_method_2_code, 2, none, 0, 1)
abbrev y_Cand_stepAhead : MethodName := ⟨"WindowCopies$Candidates", "stepAhead", "()V"⟩
abbrev i_Cand_stepAhead : MethodName × ByteArray × Nat × Option FieldType × Nat × Nat := (y_Cand_stepAhead, prog_2_method_3_code, 6, none, 0, 2)
abbrev y_Cand_takeIn : MethodName := ⟨"WindowCopies$Candidates", "takeIn", "(II)V"⟩
abbrev i_Cand_takeIn : MethodName × ByteArray × Nat × Option FieldType × Nat × Nat := (y_Cand_takeIn, prog_2_method_4_code, 3, none, 2, 1)
abbrev y_Cand_lookAt : MethodName := ⟨"WindowCopies$Candidates", "lookAt", "(I)V"⟩
abbrev i_Cand_lookAt : MethodName × ByteArray × Nat × Option FieldType × Nat × Nat := (y_Cand_lookAt, prog_2_method_5_code, 3, none, 1, 3)
abbrev y_Cand_all : MethodName := ⟨"WindowCopies$Candidates", "all", "()I"⟩
abbrev i_Cand_all : MethodName × ByteArray × Nat × Option FieldType × Nat × Nat := (y_Cand_all, prog_2_method_6_code, 1, (some .int), 0, 0)
abbrev y_Cand_lookedAt : MethodName := ⟨"WindowCopies$Candidates", "lookedAt", "()I"⟩
abbrev i_Cand_lookedAt : MethodName × ByteArray × Nat × Option FieldType × Nat × Nat := (y_Cand_lookedAt, prog_2_method_7_code, 1, (some .int), 0, 0)
abbrev y_Cand_distance : MethodName := ⟨"WindowCopies$Candidates", "distance", "(I)I"⟩
abbrev i_Cand_distance : MethodName × ByteArray × Nat × Option FieldType × Nat × Nat := (y_Cand_distance, prog_2_method_8_code, 2, (some .int), 1, 1)
abbrev y_Cand_reach : MethodName := ⟨"WindowCopies$Candidates", "reach", "(I)I"⟩
abbrev i_Cand_reach : MethodName × ByteArray × Nat × Option FieldType × Nat × Nat := (y_Cand_reach, prog_2_method_9_code, 2, (some .int), 1, 1)
abbrev y_Cand_best : MethodName := ⟨"WindowCopies$Candidates", "best", "()I"⟩
abbrev i_Cand_best : MethodName × ByteArray × Nat × Option FieldType × Nat × Nat := (y_Cand_best, prog_2_method_10_code, 4, (some .int), 0, 2)
abbrev y_History_init : MethodName := ⟨"WindowCopies$History", "<init>", "()V"⟩
abbrev i_History_init : MethodName × ByteArray × Nat × Option FieldType × Nat × Nat := (y_History_init, prog_3_method_1_code, 2, none, 0, 2)
abbrev y_History_size : MethodName := ⟨"WindowCopies$History", "size", "()I"⟩
abbrev i_History_size : MethodName × ByteArray × Nat × Option FieldType × Nat × Nat := (y_History_size, prog_3_method_2_code, 1, (some .int), 0, 0)
abbrev y_History_record : MethodName := ⟨"WindowCopies$History", "record", "(LWindowCopies$State;)V"⟩
abbrev i_History_record : MethodName × ByteArray × Nat × Option FieldType × Nat × Nat := (y_History_record, prog_3_method_3_code, 3, none, 1, 4)
abbrev y_History_takeBack : MethodName := ⟨"WindowCopies$History", "takeBack", "(LWindowCopies$State;)V"⟩
abbrev i_History_takeBack : MethodName × ByteArray × Nat × Option FieldType × Nat × Nat := (y_History_takeBack, prog_3_method_4_code, 3, none, 1, 4)
abbrev y_History_stateAt : MethodName := ⟨"WindowCopies$History", "stateAt", "(I)LWindowCopies$State;"⟩
abbrev i_History_stateAt : MethodName × ByteArray × Nat × Option FieldType × Nat × Nat := (y_History_stateAt, prog_3_method_5_code, 3, (some (.object "WindowCopies$State")), 1, 1)
abbrev y_History_slotOf : MethodName := ⟨"WindowCopies$History", "slotOf", "(I)I"⟩
abbrev i_History_slotOf : MethodName × ByteArray × Nat × Option FieldType × Nat × Nat := (y_History_slotOf, prog_3_method_6_code, 2, (some .int), 1, 0)
abbrev y_Plan_init : MethodName := ⟨"WindowCopies$Plan", "<init>", "(LWindowCopies$State;LWindowCopies$Candidates;)V"⟩
abbrev i_Plan_init : MethodName × ByteArray × Nat × Option FieldType × Nat × Nat := (y_Plan_init, prog_4_method_1_code, 3, none, 2, 1)
abbrev y_Plan_make : MethodName := ⟨"WindowCopies$Plan", "make", "()V"⟩
abbrev i_Plan_make : MethodName × ByteArray × Nat × Option FieldType × Nat × Nat := (y_Plan_make, prog_4_method_2_code, 3, none, 0, 4)
abbrev y_Plan_planFound : MethodName := ⟨"WindowCopies$Plan", "planFound", "(I)V"⟩
abbrev i_Plan_planFound : MethodName × ByteArray × Nat × Option FieldType × Nat × Nat := (y_Plan_planFound, prog_4_method_3_code, 4, none, 1, 3)
abbrev y_Plan_planWeighed : MethodName := ⟨"WindowCopies$Plan", "planWeighed", "(I)V"⟩
abbrev i_Plan_planWeighed : MethodName × ByteArray × Nat × Option FieldType × Nat × Nat := (y_Plan_planWeighed, prog_4_method_4_code, 4, none, 1, 3)
abbrev y_Plan_planCheapest : MethodName := ⟨"WindowCopies$Plan", "planCheapest", "(I)V"⟩
abbrev i_Plan_planCheapest : MethodName × ByteArray × Nat × Option FieldType × Nat × Nat := (y_Plan_planCheapest, prog_4_method_5_code, 8, none, 1, 3)
abbrev y_Plan_planLetter : MethodName := ⟨"WindowCopies$Plan", "planLetter", "(II)V"⟩
abbrev i_Plan_planLetter : MethodName × ByteArray × Nat × Option FieldType × Nat × Nat := (y_Plan_planLetter, prog_4_method_6_code, 3, none, 2, 2)
abbrev y_Plan_planPart : MethodName := ⟨"WindowCopies$Plan", "planPart", "(IIII)V"⟩
abbrev i_Plan_planPart : MethodName × ByteArray × Nat × Option FieldType × Nat × Nat := (y_Plan_planPart, prog_4_method_7_code, 5, none, 4, 1)
abbrev y_Plan_distanceAt : MethodName := ⟨"WindowCopies$Plan", "distanceAt", "(II)I"⟩
abbrev i_Plan_distanceAt : MethodName × ByteArray × Nat × Option FieldType × Nat × Nat := (y_Plan_distanceAt, prog_4_method_8_code, 3, (some .int), 2, 1)
abbrev y_Plan_lengthAt : MethodName := ⟨"WindowCopies$Plan", "lengthAt", "(II)I"⟩
abbrev i_Plan_lengthAt : MethodName × ByteArray × Nat × Option FieldType × Nat × Nat := (y_Plan_lengthAt, prog_4_method_9_code, 3, (some .int), 2, 1)
abbrev y_Plan_layOut : MethodName := ⟨"WindowCopies$Plan", "layOut", "(I)V"⟩
abbrev i_Plan_layOut : MethodName × ByteArray × Nat × Option FieldType × Nat × Nat := (y_Plan_layOut, prog_4_method_10_code, 4, none, 1, 2)
abbrev y_Plan_countCopy : MethodName := ⟨"WindowCopies$Plan", "countCopy", "(I)V"⟩
abbrev i_Plan_countCopy : MethodName × ByteArray × Nat × Option FieldType × Nat × Nat := (y_Plan_countCopy, prog_4_method_11_code, 2, none, 1, 1)
abbrev y_Plan_parts : MethodName := ⟨"WindowCopies$Plan", "parts", "()I"⟩
abbrev i_Plan_parts : MethodName × ByteArray × Nat × Option FieldType × Nat × Nat := (y_Plan_parts, prog_4_method_12_code, 1, (some .int), 0, 0)
abbrev y_Plan_copies : MethodName := ⟨"WindowCopies$Plan", "copies", "()I"⟩
abbrev i_Plan_copies : MethodName × ByteArray × Nat × Option FieldType × Nat × Nat := (y_Plan_copies, prog_4_method_13_code, 1, (some .int), 0, 0)
abbrev y_Plan_copiedLetters : MethodName := ⟨"WindowCopies$Plan", "copiedLetters", "()I"⟩
abbrev i_Plan_copiedLetters : MethodName × ByteArray × Nat × Option FieldType × Nat × Nat := (y_Plan_copiedLetters, prog_4_method_14_code, 1, (some .int), 0, 0)
abbrev y_Plan_longestCopy : MethodName := ⟨"WindowCopies$Plan", "longestCopy", "()I"⟩
abbrev i_Plan_longestCopy : MethodName × ByteArray × Nat × Option FieldType × Nat × Nat := (y_Plan_longestCopy, prog_4_method_15_code, 1, (some .int), 0, 0)
abbrev y_Plan_cost : MethodName := ⟨"WindowCopies$Plan", "cost", "()I"⟩
abbrev i_Plan_cost : MethodName × ByteArray × Nat × Option FieldType × Nat × Nat := (y_Plan_cost, prog_4_method_16_code, 1, (some .int), 0, 2)
abbrev y_Plan_beginOf : MethodName := ⟨"WindowCopies$Plan", "beginOf", "(I)I"⟩
abbrev i_Plan_beginOf : MethodName × ByteArray × Nat × Option FieldType × Nat × Nat := (y_Plan_beginOf, prog_4_method_17_code, 2, (some .int), 1, 1)
abbrev y_Plan_indexAt : MethodName := ⟨"WindowCopies$Plan", "indexAt", "(I)I"⟩
abbrev i_Plan_indexAt : MethodName × ByteArray × Nat × Option FieldType × Nat × Nat := (y_Plan_indexAt, prog_4_method_18_code, 3, (some .int), 1, 2)
abbrev y_Plan_firstUnlike : MethodName := ⟨"WindowCopies$Plan", "firstUnlike", "(II)I"⟩
abbrev i_Plan_firstUnlike : MethodName × ByteArray × Nat × Option FieldType × Nat × Nat := (y_Plan_firstUnlike, prog_4_method_19_code, 5, (some .int), 2, 2)
abbrev y_State_init : MethodName := ⟨"WindowCopies$State", "<init>", "()V"⟩
abbrev i_State_init : MethodName × ByteArray × Nat × Option FieldType × Nat × Nat := (y_State_init, prog_5_method_1_code, 2, none, 0, 1)
abbrev y_State_size : MethodName := ⟨"WindowCopies$State", "size", "()I"⟩
abbrev i_State_size : MethodName × ByteArray × Nat × Option FieldType × Nat × Nat := (y_State_size, prog_5_method_2_code, 1, (some .int), 0, 0)
abbrev y_State_hasPlace : MethodName := ⟨"WindowCopies$State", "hasPlace", "(I)Z"⟩
abbrev i_State_hasPlace : MethodName × ByteArray × Nat × Option FieldType × Nat × Nat := (y_State_hasPlace, prog_5_method_3_code, 2, (some .boolean), 1, 0)
abbrev y_State_letterAt : MethodName := ⟨"WindowCopies$State", "letterAt", "(I)I"⟩
abbrev i_State_letterAt : MethodName × ByteArray × Nat × Option FieldType × Nat × Nat := (y_State_letterAt, prog_5_method_4_code, 2, (some .int), 1, 1)
abbrev y_State_changeLetter : MethodName := ⟨"WindowCopies$State", "changeLetter", "(II)V"⟩
abbrev i_State_changeLetter : MethodName × ByteArray × Nat × Option FieldType × Nat × Nat := (y_State_changeLetter, prog_5_method_5_code, 3, none, 2, 1)
abbrev y_State_append : MethodName := ⟨"WindowCopies$State", "append", "(I)V"⟩
abbrev i_State_append : MethodName × ByteArray × Nat × Option FieldType × Nat × Nat := (y_State_append, prog_5_method_6_code, 2, none, 1, 1)
abbrev y_State_appendCopy : MethodName := ⟨"WindowCopies$State", "appendCopy", "(II)V"⟩
abbrev i_State_appendCopy : MethodName × ByteArray × Nat × Option FieldType × Nat × Nat := (y_State_appendCopy, prog_5_method_7_code, 4, none, 2, 2)
abbrev y_State_shorten : MethodName := ⟨"WindowCopies$State", "shorten", "(I)V"⟩
abbrev i_State_shorten : MethodName × ByteArray × Nat × Option FieldType × Nat × Nat := (y_State_shorten, prog_5_method_8_code, 2, none, 1, 1)
abbrev y_State_setting : MethodName := ⟨"WindowCopies$State", "setting", "(I)I"⟩
abbrev i_State_setting : MethodName × ByteArray × Nat × Option FieldType × Nat × Nat := (y_State_setting, prog_5_method_9_code, 2, (some .int), 1, 1)
abbrev y_State_changeSetting : MethodName := ⟨"WindowCopies$State", "changeSetting", "(II)V"⟩
abbrev i_State_changeSetting : MethodName × ByteArray × Nat × Option FieldType × Nat × Nat := (y_State_changeSetting, prog_5_method_10_code, 3, none, 2, 1)
abbrev y_State_savingOf : MethodName := ⟨"WindowCopies$State", "savingOf", "(I)I"⟩
abbrev i_State_savingOf : MethodName × ByteArray × Nat × Option FieldType × Nat × Nat := (y_State_savingOf, prog_5_method_11_code, 2, (some .int), 1, 2)
abbrev y_State_likeLength : MethodName := ⟨"WindowCopies$State", "likeLength", "(II)I"⟩
abbrev i_State_likeLength : MethodName × ByteArray × Nat × Option FieldType × Nat × Nat := (y_State_likeLength, prog_5_method_12_code, 4, (some .int), 2, 2)
abbrev y_State_unlikeLetters : MethodName := ⟨"WindowCopies$State", "unlikeLetters", "()I"⟩
abbrev i_State_unlikeLetters : MethodName × ByteArray × Nat × Option FieldType × Nat × Nat := (y_State_unlikeLetters, prog_5_method_13_code, 3, (some .int), 0, 3)
abbrev y_State_holds : MethodName := ⟨"WindowCopies$State", "holds", "(I)Z"⟩
abbrev i_State_holds : MethodName × ByteArray × Nat × Option FieldType × Nat × Nat := (y_State_holds, prog_5_method_14_code, 3, (some .boolean), 1, 2)
abbrev y_State_copyFrom : MethodName := ⟨"WindowCopies$State", "copyFrom", "(LWindowCopies$State;)V"⟩
abbrev i_State_copyFrom : MethodName × ByteArray × Nat × Option FieldType × Nat × Nat := (y_State_copyFrom, prog_5_method_15_code, 3, none, 1, 3)
abbrev y_State_copyRowFrom : MethodName := ⟨"WindowCopies$State", "copyRowFrom", "(LWindowCopies$State;)V"⟩
abbrev i_State_copyRowFrom : MethodName × ByteArray × Nat × Option FieldType × Nat × Nat := (y_State_copyRowFrom, prog_5_method_16_code, 3, none, 1, 2)
abbrev y_Stretch_init : MethodName := ⟨"WindowCopies$Stretch", "<init>", "()V"⟩
abbrev i_Stretch_init : MethodName × ByteArray × Nat × Option FieldType × Nat × Nat := (y_Stretch_init, prog_6_method_1_code, 1, none, 0, 1)
abbrev y_Stretch_findLongest : MethodName := ⟨"WindowCopies$Stretch", "findLongest", "(LWindowCopies$State;)V"⟩
abbrev i_Stretch_findLongest : MethodName × ByteArray × Nat × Option FieldType × Nat × Nat := (y_Stretch_findLongest, prog_6_method_2_code, 5, none, 1, 3)
abbrev y_Stretch_length : MethodName := ⟨"WindowCopies$Stretch", "length", "()I"⟩
abbrev i_Stretch_length : MethodName × ByteArray × Nat × Option FieldType × Nat × Nat := (y_Stretch_length, prog_6_method_3_code, 1, (some .int), 0, 0)
abbrev y_Stretch_former : MethodName := ⟨"WindowCopies$Stretch", "former", "()I"⟩
abbrev i_Stretch_former : MethodName × ByteArray × Nat × Option FieldType × Nat × Nat := (y_Stretch_former, prog_6_method_4_code, 1, (some .int), 0, 0)
abbrev y_Stretch_latter : MethodName := ⟨"WindowCopies$Stretch", "latter", "()I"⟩
abbrev i_Stretch_latter : MethodName × ByteArray × Nat × Option FieldType × Nat × Nat := (y_Stretch_latter, prog_6_method_5_code, 1, (some .int), 0, 0)
abbrev y_Text_init : MethodName := ⟨"WindowCopies$Text", "<init>", "()V"⟩
abbrev i_Text_init : MethodName × ByteArray × Nat × Option FieldType × Nat × Nat := (y_Text_init, prog_7_method_1_code, 1, none, 0, 1)
abbrev y_Text_size : MethodName := ⟨"WindowCopies$Text", "size", "()I"⟩
abbrev i_Text_size : MethodName × ByteArray × Nat × Option FieldType × Nat × Nat := (y_Text_size, prog_7_method_2_code, 1, (some .int), 0, 0)
abbrev y_Text_characterAt : MethodName := ⟨"WindowCopies$Text", "characterAt", "(I)I"⟩
abbrev i_Text_characterAt : MethodName × ByteArray × Nat × Option FieldType × Nat × Nat := (y_Text_characterAt, prog_7_method_3_code, 2, (some .int), 1, 1)
abbrev y_Text_empty : MethodName := ⟨"WindowCopies$Text", "empty", "()V"⟩
abbrev i_Text_empty : MethodName × ByteArray × Nat × Option FieldType × Nat × Nat := (y_Text_empty, prog_7_method_4_code, 1, none, 0, 0)
abbrev y_Text_append : MethodName := ⟨"WindowCopies$Text", "append", "(I)V"⟩
abbrev i_Text_append : MethodName × ByteArray × Nat × Option FieldType × Nat × Nat := (y_Text_append, prog_7_method_5_code, 2, none, 1, 1)
abbrev y_Text_appendCopy : MethodName := ⟨"WindowCopies$Text", "appendCopy", "(II)V"⟩
abbrev i_Text_appendCopy : MethodName × ByteArray × Nat × Option FieldType × Nat × Nat := (y_Text_appendCopy, prog_7_method_6_code, 3, none, 2, 3)
abbrev y_Text_appendNumber : MethodName := ⟨"WindowCopies$Text", "appendNumber", "(I)V"⟩
abbrev i_Text_appendNumber : MethodName × ByteArray × Nat × Option FieldType × Nat × Nat := (y_Text_appendNumber, prog_7_method_7_code, 2, none, 1, 2)
abbrev y_Text_charactersOfCopy : MethodName := ⟨"WindowCopies$Text", "charactersOfCopy", "(II)I"⟩
abbrev i_Text_charactersOfCopy : MethodName × ByteArray × Nat × Option FieldType × Nat × Nat := (y_Text_charactersOfCopy, prog_7_method_8_code, 3, (some .int), 2, 1)
abbrev y_Text_digitsOf : MethodName := ⟨"WindowCopies$Text", "digitsOf", "(I)I"⟩
abbrev i_Text_digitsOf : MethodName × ByteArray × Nat × Option FieldType × Nat × Nat := (y_Text_digitsOf, prog_7_method_9_code, 1, (some .int), 1, 0)
abbrev y_Reader_init : MethodName := ⟨"WindowCopies$TextReader", "<init>", "(LWindowCopies$Text;LWindowCopies$State;)V"⟩
abbrev i_Reader_init : MethodName × ByteArray × Nat × Option FieldType × Nat × Nat := (y_Reader_init, prog_8_method_1_code, 3, none, 2, 2)
abbrev y_Reader_readThrough : MethodName := ⟨"WindowCopies$TextReader", "readThrough", "()V"⟩
abbrev i_Reader_readThrough : MethodName × ByteArray × Nat × Option FieldType × Nat × Nat := (y_Reader_readThrough, prog_8_method_2_code, 3, none, 0, 5)
abbrev y_Reader_hasFault : MethodName := ⟨"WindowCopies$TextReader", "hasFault", "()Z"⟩
abbrev i_Reader_hasFault : MethodName × ByteArray × Nat × Option FieldType × Nat × Nat := (y_Reader_hasFault, prog_8_method_3_code, 1, (some .boolean), 0, 0)
abbrev y_Reader_faultPlace : MethodName := ⟨"WindowCopies$TextReader", "faultPlace", "()I"⟩
abbrev i_Reader_faultPlace : MethodName × ByteArray × Nat × Option FieldType × Nat × Nat := (y_Reader_faultPlace, prog_8_method_4_code, 1, (some .int), 0, 0)
abbrev y_Reader_faultReason : MethodName := ⟨"WindowCopies$TextReader", "faultReason", "()I"⟩
abbrev i_Reader_faultReason : MethodName × ByteArray × Nat × Option FieldType × Nat × Nat := (y_Reader_faultReason, prog_8_method_5_code, 1, (some .int), 0, 0)
abbrev y_Reader_told : MethodName := ⟨"WindowCopies$TextReader", "told", "()LWindowCopies$State;"⟩
abbrev i_Reader_told : MethodName × ByteArray × Nat × Option FieldType × Nat × Nat := (y_Reader_told, prog_8_method_6_code, 1, (some (.object "WindowCopies$State")), 0, 0)
abbrev y_Reader_takeLetter : MethodName := ⟨"WindowCopies$TextReader", "takeLetter", "(I)V"⟩
abbrev i_Reader_takeLetter : MethodName × ByteArray × Nat × Option FieldType × Nat × Nat := (y_Reader_takeLetter, prog_8_method_7_code, 2, none, 1, 2)
abbrev y_Reader_takeCopy : MethodName := ⟨"WindowCopies$TextReader", "takeCopy", "()V"⟩
abbrev i_Reader_takeCopy : MethodName × ByteArray × Nat × Option FieldType × Nat × Nat := (y_Reader_takeCopy, prog_8_method_8_code, 5, none, 0, 4)
abbrev y_Reader_reasonAgainst : MethodName := ⟨"WindowCopies$TextReader", "reasonAgainst", "(II)I"⟩
abbrev i_Reader_reasonAgainst : MethodName × ByteArray × Nat × Option FieldType × Nat × Nat := (y_Reader_reasonAgainst, prog_8_method_9_code, 3, (some .int), 2, 2)
abbrev y_Reader_takeNumber : MethodName := ⟨"WindowCopies$TextReader", "takeNumber", "()I"⟩
abbrev i_Reader_takeNumber : MethodName × ByteArray × Nat × Option FieldType × Nat × Nat := (y_Reader_takeNumber, prog_8_method_10_code, 3, (some .int), 0, 3)
abbrev y_Reader_digitAt : MethodName := ⟨"WindowCopies$TextReader", "digitAt", "(I)I"⟩
abbrev i_Reader_digitAt : MethodName × ByteArray × Nat × Option FieldType × Nat × Nat := (y_Reader_digitAt, prog_8_method_11_code, 3, (some .int), 1, 2)
abbrev y_Reader_takeSign : MethodName := ⟨"WindowCopies$TextReader", "takeSign", "(I)V"⟩
abbrev i_Reader_takeSign : MethodName × ByteArray × Nat × Option FieldType × Nat × Nat := (y_Reader_takeSign, prog_8_method_12_code, 2, none, 1, 2)
abbrev y_Reader_blame : MethodName := ⟨"WindowCopies$TextReader", "blame", "(II)V"⟩
abbrev i_Reader_blame : MethodName × ByteArray × Nat × Option FieldType × Nat × Nat := (y_Reader_blame, prog_8_method_13_code, 3, none, 2, 0)
set_option maxRecDepth 20000 in
theorem qc_WC_init : Cond.code y_WC_init prog_1_method_1_code 1 none ∈ gT := gT_t 15 rfl rfl
set_option maxRecDepth 20000 in
theorem qc_WC_put : Cond.code y_WC_put prog_1_method_2_code 2 (some .int) ∈ gT := gT_t 215 rfl rfl
set_option maxRecDepth 20000 in
theorem qc_WC_drop : Cond.code y_WC_drop prog_1_method_3_code 2 (some .int) ∈ gT := gT_t 270 rfl rfl
set_option maxRecDepth 20000 in
theorem qc_WC_mend : Cond.code y_WC_mend prog_1_method_4_code 4 (some .int) ∈ gT := gT_t 281 rfl rfl
set_option maxRecDepth 20000 in
theorem qc_WC_set : Cond.code y_WC_set prog_1_method_5_code 4 (some .int) ∈ gT := gT_t 291 rfl rfl
set_option maxRecDepth 20000 in
theorem qc_WC_letter : Cond.code y_WC_letter prog_1_method_6_code 2 (some .int) ∈ gT := gT_t 302 rfl rfl
set_option maxRecDepth 20000 in
theorem qc_WC_candidate : Cond.code y_WC_candidate prog_1_method_7_code 4 (some .int) ∈ gT := gT_t 306 rfl rfl
set_option maxRecDepth 20000 in
theorem qc_WC_found : Cond.code y_WC_found prog_1_method_8_code 4 (some .int) ∈ gT := gT_t 346 rfl rfl
set_option maxRecDepth 20000 in
theorem qc_WC_isCopy : Cond.code y_WC_isCopy prog_1_method_9_code 6 (some .int) ∈ gT := gT_t 363 rfl rfl
set_option maxRecDepth 20000 in
theorem qc_WC_part : Cond.code y_WC_part prog_1_method_10_code 5 (some .int) ∈ gT := gT_t 372 rfl rfl
set_option maxRecDepth 20000 in
theorem qc_WC_total : Cond.code y_WC_total prog_1_method_11_code 3 (some .int) ∈ gT := gT_t 441 rfl rfl
set_option maxRecDepth 20000 in
theorem qc_WC_partAt : Cond.code y_WC_partAt prog_1_method_12_code 3 (some .int) ∈ gT := gT_t 461 rfl rfl
set_option maxRecDepth 20000 in
theorem qc_WC_parting : Cond.code y_WC_parting prog_1_method_13_code 4 (some .int) ∈ gT := gT_t 470 rfl rfl
set_option maxRecDepth 20000 in
theorem qc_WC_repeat : Cond.code y_WC_repeat prog_1_method_14_code 2 (some .int) ∈ gT := gT_t 478 rfl rfl
set_option maxRecDepth 20000 in
theorem qc_WC_count : Cond.code y_WC_count prog_1_method_15_code 2 (some .int) ∈ gT := gT_t 500 rfl rfl
set_option maxRecDepth 20000 in
theorem qc_WC_settingCount : Cond.code y_WC_settingCount prog_1_method_16_code 2 (some .int) ∈ gT := gT_t 524 rfl rfl
set_option maxRecDepth 20000 in
theorem qc_WC_cheapestWay : Cond.code y_WC_cheapestWay prog_1_method_17_code 4 (some .int) ∈ gT := gT_t 512 rfl rfl
set_option maxRecDepth 20000 in
theorem qc_WC_keep : Cond.code y_WC_keep prog_1_method_18_code 1 (some .int) ∈ gT := gT_t 528 rfl rfl
set_option maxRecDepth 20000 in
theorem qc_WC_restore : Cond.code y_WC_restore prog_1_method_19_code 1 (some .int) ∈ gT := gT_t 533 rfl rfl
set_option maxRecDepth 20000 in
theorem qc_WC_undo : Cond.code y_WC_undo prog_1_method_20_code 1 (some .int) ∈ gT := gT_t 537 rfl rfl
set_option maxRecDepth 20000 in
theorem qc_WC_type : Cond.code y_WC_type prog_1_method_21_code 2 (some .int) ∈ gT := gT_t 545 rfl rfl
set_option maxRecDepth 20000 in
theorem qc_WC_clearText : Cond.code y_WC_clearText prog_1_method_22_code 2 (some .int) ∈ gT := gT_t 554 rfl rfl
set_option maxRecDepth 20000 in
theorem qc_WC_write : Cond.code y_WC_write prog_1_method_23_code 5 (some .int) ∈ gT := gT_t 562 rfl rfl
set_option maxRecDepth 20000 in
theorem qc_WC_charactersOf : Cond.code y_WC_charactersOf prog_1_method_24_code 6 (some .int) ∈ gT := gT_t 566 rfl rfl
set_option maxRecDepth 20000 in
theorem qc_WC_fault : Cond.code y_WC_fault prog_1_method_25_code 2 (some .int) ∈ gT := gT_t 585 rfl rfl
set_option maxRecDepth 20000 in
theorem qc_WC_read : Cond.code y_WC_read prog_1_method_26_code 1 (some .int) ∈ gT := gT_t 652 rfl rfl
set_option maxRecDepth 20000 in
theorem qc_WC_isIn : Cond.code y_WC_isIn prog_1_method_27_code 3 (some .boolean) ∈ gT := gT_t 221 rfl rfl
set_option maxRecDepth 20000 in
theorem qc_WC_isLetter : Cond.code y_WC_isLetter prog_1_method_28_code 1 (some .boolean) ∈ gT := gT_t 218 rfl rfl
set_option maxRecDepth 20000 in
theorem qc_WC_isWay : Cond.code y_WC_isWay prog_1_method_29_code 1 (some .boolean) ∈ gT := gT_t 375 rfl rfl
set_option maxRecDepth 20000 in
theorem qc_WC_at : Cond.code y_WC_at prog_1_method_30_code 2 (some .int) ∈ gT := gT_t 29 rfl rfl
set_option maxRecDepth 20000 in
theorem qc_WC_store : Cond.code y_WC_store prog_1_method_31_code 3 none ∈ gT := gT_t 32 rfl rfl
set_option maxRecDepth 20000 in
theorem qc_Mo_init : Cond.code y_Mo_init prog_10_method_1_code 1 none ∈ gT := gT_t 662 rfl rfl
set_option maxRecDepth 20000 in
theorem qc_Mo_in : Cond.code y_Mo_in prog_10_method_3_code 3 (some .boolean) ∈ gT := gT_t 734 rfl rfl
set_option maxRecDepth 20000 in
theorem qc_Mo_copies : Cond.code y_Mo_copies prog_10_method_4_code 3 none ∈ gT := gT_t 867 rfl rfl
set_option maxRecDepth 20000 in
theorem qc_Mo_changes : Cond.code y_Mo_changes prog_10_method_5_code 2 none ∈ gT := gT_t 738 rfl rfl
set_option maxRecDepth 20000 in
theorem qc_Mo_isPlace : Cond.code y_Mo_isPlace prog_10_method_6_code 2 (some .boolean) ∈ gT := gT_t 750 rfl rfl
set_option maxRecDepth 20000 in
theorem qc_Mo_put : Cond.code y_Mo_put prog_10_method_7_code 2 (some .int) ∈ gT := gT_t 731 rfl rfl
set_option maxRecDepth 20000 in
theorem qc_Mo_drop : Cond.code y_Mo_drop prog_10_method_8_code 2 (some .int) ∈ gT := gT_t 742 rfl rfl
set_option maxRecDepth 20000 in
theorem qc_Mo_mend : Cond.code y_Mo_mend prog_10_method_9_code 4 (some .int) ∈ gT := gT_t 746 rfl rfl
set_option maxRecDepth 20000 in
theorem qc_Mo_least : Cond.code y_Mo_least prog_10_method_10_code 1 (some .int) ∈ gT := gT_t 757 rfl rfl
set_option maxRecDepth 20000 in
theorem qc_Mo_most : Cond.code y_Mo_most prog_10_method_11_code 1 (some .int) ∈ gT := gT_t 760 rfl rfl
set_option maxRecDepth 20000 in
theorem qc_Mo_set : Cond.code y_Mo_set prog_10_method_12_code 4 (some .int) ∈ gT := gT_t 754 rfl rfl
set_option maxRecDepth 20000 in
theorem qc_Mo_letter : Cond.code y_Mo_letter prog_10_method_13_code 2 (some .int) ∈ gT := gT_t 764 rfl rfl
set_option maxRecDepth 20000 in
theorem qc_Mo_reach : Cond.code y_Mo_reach prog_10_method_14_code 4 (some .int) ∈ gT := gT_t 780 rfl rfl
set_option maxRecDepth 20000 in
theorem qc_Mo_isCandidate : Cond.code y_Mo_isCandidate prog_10_method_15_code 3 (some .boolean) ∈ gT := gT_t 776 rfl rfl
set_option maxRecDepth 20000 in
theorem qc_Mo_candidates : Cond.code y_Mo_candidates prog_10_method_16_code 4 (some .int) ∈ gT := gT_t 788 rfl rfl
set_option maxRecDepth 20000 in
theorem qc_Mo_distance : Cond.code y_Mo_distance prog_10_method_17_code 5 (some .int) ∈ gT := gT_t 772 rfl rfl
set_option maxRecDepth 20000 in
theorem qc_Mo_candidate : Cond.code y_Mo_candidate prog_10_method_18_code 5 (some .int) ∈ gT := gT_t 768 rfl rfl
set_option maxRecDepth 20000 in
theorem qc_Mo_best : Cond.code y_Mo_best prog_10_method_19_code 6 (some .int) ∈ gT := gT_t 792 rfl rfl
set_option maxRecDepth 20000 in
theorem qc_Mo_saves : Cond.code y_Mo_saves prog_10_method_20_code 2 (some .int) ∈ gT := gT_t 796 rfl rfl
set_option maxRecDepth 20000 in
theorem qc_Mo_found : Cond.code y_Mo_found prog_10_method_21_code 4 (some .int) ∈ gT := gT_t 784 rfl rfl
set_option maxRecDepth 20000 in
theorem qc_Mo_isCopy : Cond.code y_Mo_isCopy prog_10_method_22_code 5 (some .int) ∈ gT := gT_t 800 rfl rfl
set_option maxRecDepth 20000 in
theorem qc_Mo_savesMore : Cond.code y_Mo_savesMore prog_10_method_23_code 3 (some .boolean) ∈ gT := gT_t 820 rfl rfl
set_option maxRecDepth 20000 in
theorem qc_Mo_takes : Cond.code y_Mo_takes prog_10_method_24_code 4 (some .boolean) ∈ gT := gT_t 816 rfl rfl
set_option maxRecDepth 20000 in
theorem qc_Mo_weighs : Cond.code y_Mo_weighs prog_10_method_25_code 6 none ∈ gT := gT_t 812 rfl rfl
set_option maxRecDepth 20000 in
theorem qc_Mo_lays : Cond.code y_Mo_lays prog_10_method_26_code 4 none ∈ gT := gT_t 808 rfl rfl
set_option maxRecDepth 20000 in
theorem qc_Mo_cost : Cond.code y_Mo_cost prog_10_method_27_code 2 (some .int) ∈ gT := gT_t 824 rfl rfl
set_option maxRecDepth 20000 in
theorem qc_Mo_part : Cond.code y_Mo_part prog_10_method_28_code 4 (some .int) ∈ gT := gT_t 804 rfl rfl
set_option maxRecDepth 20000 in
theorem qc_Mo_costAll : Cond.code y_Mo_costAll prog_10_method_29_code 4 (some .int) ∈ gT := gT_t 832 rfl rfl
set_option maxRecDepth 20000 in
theorem qc_Mo_total : Cond.code y_Mo_total prog_10_method_30_code 9 (some .int) ∈ gT := gT_t 828 rfl rfl
set_option maxRecDepth 20000 in
theorem qc_Mo_partAt : Cond.code y_Mo_partAt prog_10_method_31_code 4 (some .int) ∈ gT := gT_t 836 rfl rfl
set_option maxRecDepth 20000 in
theorem qc_Mo_parting : Cond.code y_Mo_parting prog_10_method_32_code 5 (some .int) ∈ gT := gT_t 840 rfl rfl
set_option maxRecDepth 20000 in
theorem qc_Mo_stretch : Cond.code y_Mo_stretch prog_10_method_33_code 4 (some .int) ∈ gT := gT_t 848 rfl rfl
set_option maxRecDepth 20000 in
theorem qc_Mo_repeat : Cond.code y_Mo_repeat prog_10_method_34_code 8 (some .int) ∈ gT := gT_t 844 rfl rfl
set_option maxRecDepth 20000 in
theorem qc_Mo_unlike : Cond.code y_Mo_unlike prog_10_method_35_code 4 (some .int) ∈ gT := gT_t 856 rfl rfl
set_option maxRecDepth 20000 in
theorem qc_Mo_cheapest : Cond.code y_Mo_cheapest prog_10_method_36_code 2 (some .int) ∈ gT := gT_t 860 rfl rfl
set_option maxRecDepth 20000 in
theorem qc_Mo_count : Cond.code y_Mo_count prog_10_method_37_code 2 (some .int) ∈ gT := gT_t 852 rfl rfl
set_option maxRecDepth 20000 in
theorem qc_Mo_keep : Cond.code y_Mo_keep prog_10_method_38_code 1 (some .int) ∈ gT := gT_t 864 rfl rfl
set_option maxRecDepth 20000 in
theorem qc_Mo_restore : Cond.code y_Mo_restore prog_10_method_39_code 1 (some .int) ∈ gT := gT_t 871 rfl rfl
set_option maxRecDepth 20000 in
theorem qc_Mo_undo : Cond.code y_Mo_undo prog_10_method_40_code 2 (some .int) ∈ gT := gT_t 875 rfl rfl
set_option maxRecDepth 20000 in
theorem qc_Mo_type : Cond.code y_Mo_type prog_10_method_41_code 2 (some .int) ∈ gT := gT_t 879 rfl rfl
set_option maxRecDepth 20000 in
theorem qc_Mo_clearText : Cond.code y_Mo_clearText prog_10_method_42_code 2 (some .int) ∈ gT := gT_t 883 rfl rfl
set_option maxRecDepth 20000 in
theorem qc_Mo_digits : Cond.code y_Mo_digits prog_10_method_43_code 1 (some .int) ∈ gT := gT_t 890 rfl rfl
set_option maxRecDepth 20000 in
theorem qc_Mo_writesNumber : Cond.code y_Mo_writesNumber prog_10_method_44_code 2 none ∈ gT := gT_t 898 rfl rfl
set_option maxRecDepth 20000 in
theorem qc_Mo_writesSign : Cond.code y_Mo_writesSign prog_10_method_45_code 2 none ∈ gT := gT_t 894 rfl rfl
set_option maxRecDepth 20000 in
theorem qc_Mo_write : Cond.code y_Mo_write prog_10_method_46_code 4 (some .int) ∈ gT := gT_t 887 rfl rfl
set_option maxRecDepth 20000 in
theorem qc_Mo_isAt : Cond.code y_Mo_isAt prog_10_method_47_code 3 (some .boolean) ∈ gT := gT_t 910 rfl rfl
set_option maxRecDepth 20000 in
theorem qc_Mo_fails : Cond.code y_Mo_fails prog_10_method_48_code 2 (some .boolean) ∈ gT := gT_t 922 rfl rfl
set_option maxRecDepth 20000 in
theorem qc_Mo_sign : Cond.code y_Mo_sign prog_10_method_49_code 3 (some .boolean) ∈ gT := gT_t 926 rfl rfl
set_option maxRecDepth 20000 in
theorem qc_Mo_numbered : Cond.code y_Mo_numbered prog_10_method_50_code 1 (some .boolean) ∈ gT := gT_t 918 rfl rfl
set_option maxRecDepth 20000 in
theorem qc_Mo_wrong : Cond.code y_Mo_wrong prog_10_method_51_code 4 (some .int) ∈ gT := gT_t 930 rfl rfl
set_option maxRecDepth 20000 in
theorem qc_Mo_readsCopy : Cond.code y_Mo_readsCopy prog_10_method_52_code 5 (some .boolean) ∈ gT := gT_t 914 rfl rfl
set_option maxRecDepth 20000 in
theorem qc_Mo_readsLetter : Cond.code y_Mo_readsLetter prog_10_method_53_code 1 (some .boolean) ∈ gT := gT_t 934 rfl rfl
set_option maxRecDepth 20000 in
theorem qc_Mo_isRight : Cond.code y_Mo_isRight prog_10_method_54_code 2 (some .boolean) ∈ gT := gT_t 906 rfl rfl
set_option maxRecDepth 20000 in
theorem qc_Mo_fault : Cond.code y_Mo_fault prog_10_method_55_code 2 (some .int) ∈ gT := gT_t 902 rfl rfl
set_option maxRecDepth 20000 in
theorem qc_Mo_read : Cond.code y_Mo_read prog_10_method_56_code 2 (some .int) ∈ gT := gT_t 938 rfl rfl
set_option maxRecDepth 20000 in
theorem qc_Cand_init : Cond.code y_Cand_init prog_2_method_1_code 2 none ∈ gT := gT_t 67 rfl rfl
set_option maxRecDepth 20000 in
theorem qc_Cand_beginBehindRow : Cond.code y_Cand_beginBehindRow prog_2_method_2_code 2 none ∈ gT := gT_t 314 rfl rfl
set_option maxRecDepth 20000 in
theorem qc_Cand_stepAhead : Cond.code y_Cand_stepAhead prog_2_method_3_code 6 none ∈ gT := gT_t 320 rfl rfl
set_option maxRecDepth 20000 in
theorem qc_Cand_takeIn : Cond.code y_Cand_takeIn prog_2_method_4_code 3 none ∈ gT := gT_t 330 rfl rfl
set_option maxRecDepth 20000 in
theorem qc_Cand_lookAt : Cond.code y_Cand_lookAt prog_2_method_5_code 3 none ∈ gT := gT_t 310 rfl rfl
set_option maxRecDepth 20000 in
theorem qc_Cand_all : Cond.code y_Cand_all prog_2_method_6_code 1 (some .int) ∈ gT := gT_t 350 rfl rfl
set_option maxRecDepth 20000 in
theorem qc_Cand_lookedAt : Cond.code y_Cand_lookedAt prog_2_method_7_code 1 (some .int) ∈ gT := gT_t 334 rfl rfl
set_option maxRecDepth 20000 in
theorem qc_Cand_distance : Cond.code y_Cand_distance prog_2_method_8_code 2 (some .int) ∈ gT := gT_t 338 rfl rfl
set_option maxRecDepth 20000 in
theorem qc_Cand_reach : Cond.code y_Cand_reach prog_2_method_9_code 2 (some .int) ∈ gT := gT_t 342 rfl rfl
set_option maxRecDepth 20000 in
theorem qc_Cand_best : Cond.code y_Cand_best prog_2_method_10_code 4 (some .int) ∈ gT := gT_t 354 rfl rfl
set_option maxRecDepth 20000 in
theorem qc_History_init : Cond.code y_History_init prog_3_method_1_code 2 none ∈ gT := gT_t 48 rfl rfl
set_option maxRecDepth 20000 in
theorem qc_History_size : Cond.code y_History_size prog_3_method_2_code 1 (some .int) ∈ gT := gT_t 516 rfl rfl
set_option maxRecDepth 20000 in
theorem qc_History_record : Cond.code y_History_record prog_3_method_3_code 3 none ∈ gT := gT_t 229 rfl rfl
set_option maxRecDepth 20000 in
theorem qc_History_takeBack : Cond.code y_History_takeBack prog_3_method_4_code 3 none ∈ gT := gT_t 541 rfl rfl
set_option maxRecDepth 20000 in
theorem qc_History_stateAt : Cond.code y_History_stateAt prog_3_method_5_code 3 (some (.object "WindowCopies$State")) ∈ gT := gT_t 237 rfl rfl
set_option maxRecDepth 20000 in
theorem qc_History_slotOf : Cond.code y_History_slotOf prog_3_method_6_code 2 (some .int) ∈ gT := gT_t 233 rfl rfl
set_option maxRecDepth 20000 in
theorem qc_Plan_init : Cond.code y_Plan_init prog_4_method_1_code 3 none ∈ gT := gT_t 92 rfl rfl
set_option maxRecDepth 20000 in
theorem qc_Plan_make : Cond.code y_Plan_make prog_4_method_2_code 3 none ∈ gT := gT_t 379 rfl rfl
set_option maxRecDepth 20000 in
theorem qc_Plan_planFound : Cond.code y_Plan_planFound prog_4_method_3_code 4 none ∈ gT := gT_t 387 rfl rfl
set_option maxRecDepth 20000 in
theorem qc_Plan_planWeighed : Cond.code y_Plan_planWeighed prog_4_method_4_code 4 none ∈ gT := gT_t 403 rfl rfl
set_option maxRecDepth 20000 in
theorem qc_Plan_planCheapest : Cond.code y_Plan_planCheapest prog_4_method_5_code 8 none ∈ gT := gT_t 416 rfl rfl
set_option maxRecDepth 20000 in
theorem qc_Plan_planLetter : Cond.code y_Plan_planLetter prog_4_method_6_code 3 none ∈ gT := gT_t 392 rfl rfl
set_option maxRecDepth 20000 in
theorem qc_Plan_planPart : Cond.code y_Plan_planPart prog_4_method_7_code 5 none ∈ gT := gT_t 396 rfl rfl
set_option maxRecDepth 20000 in
theorem qc_Plan_distanceAt : Cond.code y_Plan_distanceAt prog_4_method_8_code 3 (some .int) ∈ gT := gT_t 408 rfl rfl
set_option maxRecDepth 20000 in
theorem qc_Plan_lengthAt : Cond.code y_Plan_lengthAt prog_4_method_9_code 3 (some .int) ∈ gT := gT_t 412 rfl rfl
set_option maxRecDepth 20000 in
theorem qc_Plan_layOut : Cond.code y_Plan_layOut prog_4_method_10_code 4 none ∈ gT := gT_t 423 rfl rfl
set_option maxRecDepth 20000 in
theorem qc_Plan_countCopy : Cond.code y_Plan_countCopy prog_4_method_11_code 2 none ∈ gT := gT_t 427 rfl rfl
set_option maxRecDepth 20000 in
theorem qc_Plan_parts : Cond.code y_Plan_parts prog_4_method_12_code 1 (some .int) ∈ gT := gT_t 431 rfl rfl
set_option maxRecDepth 20000 in
theorem qc_Plan_copies : Cond.code y_Plan_copies prog_4_method_13_code 1 (some .int) ∈ gT := gT_t 445 rfl rfl
set_option maxRecDepth 20000 in
theorem qc_Plan_copiedLetters : Cond.code y_Plan_copiedLetters prog_4_method_14_code 1 (some .int) ∈ gT := gT_t 453 rfl rfl
set_option maxRecDepth 20000 in
theorem qc_Plan_longestCopy : Cond.code y_Plan_longestCopy prog_4_method_15_code 1 (some .int) ∈ gT := gT_t 457 rfl rfl
set_option maxRecDepth 20000 in
theorem qc_Plan_cost : Cond.code y_Plan_cost prog_4_method_16_code 1 (some .int) ∈ gT := gT_t 449 rfl rfl
set_option maxRecDepth 20000 in
theorem qc_Plan_beginOf : Cond.code y_Plan_beginOf prog_4_method_17_code 2 (some .int) ∈ gT := gT_t 435 rfl rfl
set_option maxRecDepth 20000 in
theorem qc_Plan_indexAt : Cond.code y_Plan_indexAt prog_4_method_18_code 3 (some .int) ∈ gT := gT_t 465 rfl rfl
set_option maxRecDepth 20000 in
theorem qc_Plan_firstUnlike : Cond.code y_Plan_firstUnlike prog_4_method_19_code 5 (some .int) ∈ gT := gT_t 474 rfl rfl
set_option maxRecDepth 20000 in
theorem qc_State_init : Cond.code y_State_init prog_5_method_1_code 2 none ∈ gT := gT_t 23 rfl rfl
set_option maxRecDepth 20000 in
theorem qc_State_size : Cond.code y_State_size prog_5_method_2_code 1 (some .int) ∈ gT := gT_t 225 rfl rfl
set_option maxRecDepth 20000 in
theorem qc_State_hasPlace : Cond.code y_State_hasPlace prog_5_method_3_code 2 (some .boolean) ∈ gT := gT_t 285 rfl rfl
set_option maxRecDepth 20000 in
theorem qc_State_letterAt : Cond.code y_State_letterAt prog_5_method_4_code 2 (some .int) ∈ gT := gT_t 250 rfl rfl
set_option maxRecDepth 20000 in
theorem qc_State_changeLetter : Cond.code y_State_changeLetter prog_5_method_5_code 3 none ∈ gT := gT_t 254 rfl rfl
set_option maxRecDepth 20000 in
theorem qc_State_append : Cond.code y_State_append prog_5_method_6_code 2 none ∈ gT := gT_t 266 rfl rfl
set_option maxRecDepth 20000 in
theorem qc_State_appendCopy : Cond.code y_State_appendCopy prog_5_method_7_code 4 none ∈ gT := gT_t 632 rfl rfl
set_option maxRecDepth 20000 in
theorem qc_State_shorten : Cond.code y_State_shorten prog_5_method_8_code 2 none ∈ gT := gT_t 274 rfl rfl
set_option maxRecDepth 20000 in
theorem qc_State_setting : Cond.code y_State_setting prog_5_method_9_code 2 (some .int) ∈ gT := gT_t 258 rfl rfl
set_option maxRecDepth 20000 in
theorem qc_State_changeSetting : Cond.code y_State_changeSetting prog_5_method_10_code 3 none ∈ gT := gT_t 262 rfl rfl
set_option maxRecDepth 20000 in
theorem qc_State_savingOf : Cond.code y_State_savingOf prog_5_method_11_code 2 (some .int) ∈ gT := gT_t 359 rfl rfl
set_option maxRecDepth 20000 in
theorem qc_State_likeLength : Cond.code y_State_likeLength prog_5_method_12_code 4 (some .int) ∈ gT := gT_t 368 rfl rfl
set_option maxRecDepth 20000 in
theorem qc_State_unlikeLetters : Cond.code y_State_unlikeLetters prog_5_method_13_code 3 (some .int) ∈ gT := gT_t 504 rfl rfl
set_option maxRecDepth 20000 in
theorem qc_State_holds : Cond.code y_State_holds prog_5_method_14_code 3 (some .boolean) ∈ gT := gT_t 508 rfl rfl
set_option maxRecDepth 20000 in
theorem qc_State_copyFrom : Cond.code y_State_copyFrom prog_5_method_15_code 3 none ∈ gT := gT_t 241 rfl rfl
set_option maxRecDepth 20000 in
theorem qc_State_copyRowFrom : Cond.code y_State_copyRowFrom prog_5_method_16_code 3 none ∈ gT := gT_t 245 rfl rfl
set_option maxRecDepth 20000 in
theorem qc_Stretch_init : Cond.code y_Stretch_init prog_6_method_1_code 1 none ∈ gT := gT_t 132 rfl rfl
set_option maxRecDepth 20000 in
theorem qc_Stretch_findLongest : Cond.code y_Stretch_findLongest prog_6_method_2_code 5 none ∈ gT := gT_t 482 rfl rfl
set_option maxRecDepth 20000 in
theorem qc_Stretch_length : Cond.code y_Stretch_length prog_6_method_3_code 1 (some .int) ∈ gT := gT_t 488 rfl rfl
set_option maxRecDepth 20000 in
theorem qc_Stretch_former : Cond.code y_Stretch_former prog_6_method_4_code 1 (some .int) ∈ gT := gT_t 492 rfl rfl
set_option maxRecDepth 20000 in
theorem qc_Stretch_latter : Cond.code y_Stretch_latter prog_6_method_5_code 1 (some .int) ∈ gT := gT_t 496 rfl rfl
set_option maxRecDepth 20000 in
theorem qc_Text_init : Cond.code y_Text_init prog_7_method_1_code 1 none ∈ gT := gT_t 148 rfl rfl
set_option maxRecDepth 20000 in
theorem qc_Text_size : Cond.code y_Text_size prog_7_method_2_code 1 (some .int) ∈ gT := gT_t 520 rfl rfl
set_option maxRecDepth 20000 in
theorem qc_Text_characterAt : Cond.code y_Text_characterAt prog_7_method_3_code 2 (some .int) ∈ gT := gT_t 600 rfl rfl
set_option maxRecDepth 20000 in
theorem qc_Text_empty : Cond.code y_Text_empty prog_7_method_4_code 1 none ∈ gT := gT_t 558 rfl rfl
set_option maxRecDepth 20000 in
theorem qc_Text_append : Cond.code y_Text_append prog_7_method_5_code 2 none ∈ gT := gT_t 549 rfl rfl
set_option maxRecDepth 20000 in
theorem qc_Text_appendCopy : Cond.code y_Text_appendCopy prog_7_method_6_code 3 none ∈ gT := gT_t 576 rfl rfl
set_option maxRecDepth 20000 in
theorem qc_Text_appendNumber : Cond.code y_Text_appendNumber prog_7_method_7_code 2 none ∈ gT := gT_t 581 rfl rfl
set_option maxRecDepth 20000 in
theorem qc_Text_charactersOfCopy : Cond.code y_Text_charactersOfCopy prog_7_method_8_code 3 (some .int) ∈ gT := gT_t 569 rfl rfl
set_option maxRecDepth 20000 in
theorem qc_Text_digitsOf : Cond.code y_Text_digitsOf prog_7_method_9_code 1 (some .int) ∈ gT := gT_t 572 rfl rfl
set_option maxRecDepth 20000 in
theorem qc_Reader_init : Cond.code y_Reader_init prog_8_method_1_code 3 none ∈ gT := gT_t 161 rfl rfl
set_option maxRecDepth 20000 in
theorem qc_Reader_readThrough : Cond.code y_Reader_readThrough prog_8_method_2_code 3 none ∈ gT := gT_t 589 rfl rfl
set_option maxRecDepth 20000 in
theorem qc_Reader_hasFault : Cond.code y_Reader_hasFault prog_8_method_3_code 1 (some .boolean) ∈ gT := gT_t 596 rfl rfl
set_option maxRecDepth 20000 in
theorem qc_Reader_faultPlace : Cond.code y_Reader_faultPlace prog_8_method_4_code 1 (some .int) ∈ gT := gT_t 644 rfl rfl
set_option maxRecDepth 20000 in
theorem qc_Reader_faultReason : Cond.code y_Reader_faultReason prog_8_method_5_code 1 (some .int) ∈ gT := gT_t 648 rfl rfl
set_option maxRecDepth 20000 in
theorem qc_Reader_told : Cond.code y_Reader_told prog_8_method_6_code 1 (some (.object "WindowCopies$State")) ∈ gT := gT_t 656 rfl rfl
set_option maxRecDepth 20000 in
theorem qc_Reader_takeLetter : Cond.code y_Reader_takeLetter prog_8_method_7_code 2 none ∈ gT := gT_t 637 rfl rfl
set_option maxRecDepth 20000 in
theorem qc_Reader_takeCopy : Cond.code y_Reader_takeCopy prog_8_method_8_code 5 none ∈ gT := gT_t 605 rfl rfl
set_option maxRecDepth 20000 in
theorem qc_Reader_reasonAgainst : Cond.code y_Reader_reasonAgainst prog_8_method_9_code 3 (some .int) ∈ gT := gT_t 626 rfl rfl
set_option maxRecDepth 20000 in
theorem qc_Reader_takeNumber : Cond.code y_Reader_takeNumber prog_8_method_10_code 3 (some .int) ∈ gT := gT_t 609 rfl rfl
set_option maxRecDepth 20000 in
theorem qc_Reader_digitAt : Cond.code y_Reader_digitAt prog_8_method_11_code 3 (some .int) ∈ gT := gT_t 613 rfl rfl
set_option maxRecDepth 20000 in
theorem qc_Reader_takeSign : Cond.code y_Reader_takeSign prog_8_method_12_code 2 none ∈ gT := gT_t 622 rfl rfl
set_option maxRecDepth 20000 in
theorem qc_Reader_blame : Cond.code y_Reader_blame prog_8_method_13_code 3 none ∈ gT := gT_t 618 rfl rfl
theorem q_0 : (.initialized "WindowCopiesLaw" : Cond) ∈ gT := gT_t 0 (by decide +kernel) rfl
theorem q_1 : (.initialized "WindowCopies" : Cond) ∈ gT := gT_t 1 (by decide +kernel) rfl
theorem q_2 : (.initialized "WindowCopies$State" : Cond) ∈ gT := gT_t 2 (by decide +kernel) rfl
theorem q_3 : (.initialized "WindowCopies$History" : Cond) ∈ gT := gT_t 3 (by decide +kernel) rfl
theorem q_4 : (.initialized "WindowCopies$Candidates" : Cond) ∈ gT := gT_t 4 (by decide +kernel) rfl
theorem q_5 : (.initialized "WindowCopies$Plan" : Cond) ∈ gT := gT_t 5 (by decide +kernel) rfl
theorem q_6 : (.initialized "WindowCopies$Stretch" : Cond) ∈ gT := gT_t 6 (by decide +kernel) rfl
theorem q_7 : (.initialized "WindowCopies$Text" : Cond) ∈ gT := gT_t 7 (by decide +kernel) rfl
theorem q_8 : (.initialized "WindowCopies$TextReader" : Cond) ∈ gT := gT_t 8 (by decide +kernel) rfl
theorem q_9 : (.initialized "WindowCopiesModel" : Cond) ∈ gT := gT_t 9 (by decide +kernel) rfl
theorem q_10 : (.initialized "java/lang/Math" : Cond) ∈ gT := gT_t 10 (by decide +kernel) rfl
theorem q_11 : (.classLink "WindowCopiesLaw" 7 "WindowCopies" : Cond) ∈ gT := gT_t 11 (by decide +kernel) rfl
theorem q_12 : (.instantiable "WindowCopies" 9 : Cond) ∈ gT := gT_t 12 (by decide +kernel) rfl
theorem q_13 : (.methodLink "WindowCopiesLaw" 9 ⟨"WindowCopies", "<init>", "()V"⟩ : Cond) ∈ gT := gT_t 13 (by decide +kernel) rfl
theorem q_14 : (.instanceMethod ⟨"WindowCopies", "<init>", "()V"⟩ : Cond) ∈ gT := gT_t 14 (by decide +kernel) rfl
theorem q_16 : (.methodLink "WindowCopies" 1 ⟨"java/lang/Object", "<init>", "()V"⟩ : Cond) ∈ gT := gT_t 16 (by decide +kernel) rfl
theorem q_17 : (.instanceMethod ⟨"java/lang/Object", "<init>", "()V"⟩ : Cond) ∈ gT := gT_t 17 (by decide +kernel) rfl
theorem q_19 : (.classLink "WindowCopies" 7 "WindowCopies$State" : Cond) ∈ gT := gT_t 19 (by decide +kernel) rfl
theorem q_20 : (.instantiable "WindowCopies$State" 3 : Cond) ∈ gT := gT_t 20 (by decide +kernel) rfl
theorem q_21 : (.methodLink "WindowCopies" 9 ⟨"WindowCopies$State", "<init>", "()V"⟩ : Cond) ∈ gT := gT_t 21 (by decide +kernel) rfl
theorem q_22 : (.instanceMethod ⟨"WindowCopies$State", "<init>", "()V"⟩ : Cond) ∈ gT := gT_t 22 (by decide +kernel) rfl
theorem q_24 : (.methodLink "WindowCopies$State" 3 ⟨"java/lang/Object", "<init>", "()V"⟩ : Cond) ∈ gT := gT_t 24 (by decide +kernel) rfl
theorem q_28 : (.static ⟨"WindowCopies", "at", "([II)I"⟩ : Cond) ∈ gT := gT_t 28 (by decide +kernel) rfl
theorem q_31 : (.static ⟨"WindowCopies", "store", "([III)V"⟩ : Cond) ∈ gT := gT_t 31 (by decide +kernel) rfl
theorem q_33 : (.fieldLink "WindowCopies$State" 9 "WindowCopies$State" "letters" "[I" : Cond) ∈ gT := gT_t 33 (by decide +kernel) rfl
theorem q_34 : (.fieldLink "WindowCopies$State" 15 "WindowCopies$State" "settings" "[I" : Cond) ∈ gT := gT_t 34 (by decide +kernel) rfl
theorem q_35 : (.fieldLink "WindowCopies$State" 18 "WindowCopies$State" "size" "I" : Cond) ∈ gT := gT_t 35 (by decide +kernel) rfl
theorem q_36 : (.laysFinal "WindowCopies$State" "WindowCopies$State" "letters" "[I" : Cond) ∈ gT := gT_t 36 (by decide +kernel) rfl
theorem q_38 : (.laysFinal "WindowCopies$State" "WindowCopies$State" "settings" "[I" : Cond) ∈ gT := gT_t 38 (by decide +kernel) rfl
theorem q_40 : (.lays "WindowCopies$State" "WindowCopies$State" "size" "I" : Cond) ∈ gT := gT_t 40 (by decide +kernel) rfl
theorem q_43 : (.arrayClass .int : Cond) ∈ gT := gT_t 43 (by decide +kernel) rfl
theorem q_44 : (.classLink "WindowCopies" 23 "WindowCopies$History" : Cond) ∈ gT := gT_t 44 (by decide +kernel) rfl
theorem q_45 : (.instantiable "WindowCopies$History" 3 : Cond) ∈ gT := gT_t 45 (by decide +kernel) rfl
theorem q_46 : (.methodLink "WindowCopies" 25 ⟨"WindowCopies$History", "<init>", "()V"⟩ : Cond) ∈ gT := gT_t 46 (by decide +kernel) rfl
theorem q_47 : (.instanceMethod ⟨"WindowCopies$History", "<init>", "()V"⟩ : Cond) ∈ gT := gT_t 47 (by decide +kernel) rfl
theorem q_49 : (.methodLink "WindowCopies$History" 3 ⟨"java/lang/Object", "<init>", "()V"⟩ : Cond) ∈ gT := gT_t 49 (by decide +kernel) rfl
theorem q_50 : (.classLink "WindowCopies$History" 9 "WindowCopies$State" : Cond) ∈ gT := gT_t 50 (by decide +kernel) rfl
theorem q_52 : (.methodLink "WindowCopies$History" 24 ⟨"WindowCopies$State", "<init>", "()V"⟩ : Cond) ∈ gT := gT_t 52 (by decide +kernel) rfl
theorem q_53 : (.fieldLink "WindowCopies$History" 11 "WindowCopies$History" "states" "[LWindowCopies$State;" : Cond) ∈ gT := gT_t 53 (by decide +kernel) rfl
theorem q_54 : (.fieldLink "WindowCopies$History" 17 "WindowCopies$History" "oldest" "I" : Cond) ∈ gT := gT_t 54 (by decide +kernel) rfl
theorem q_55 : (.fieldLink "WindowCopies$History" 21 "WindowCopies$History" "size" "I" : Cond) ∈ gT := gT_t 55 (by decide +kernel) rfl
theorem q_56 : (.laysFinal "WindowCopies$History" "WindowCopies$History" "states" "[LWindowCopies$State;" : Cond) ∈ gT := gT_t 56 (by decide +kernel) rfl
theorem q_58 : (.lays "WindowCopies$History" "WindowCopies$History" "oldest" "I" : Cond) ∈ gT := gT_t 58 (by decide +kernel) rfl
theorem q_60 : (.lays "WindowCopies$History" "WindowCopies$History" "size" "I" : Cond) ∈ gT := gT_t 60 (by decide +kernel) rfl
theorem q_63 : (.classLink "WindowCopies" 30 "WindowCopies$Candidates" : Cond) ∈ gT := gT_t 63 (by decide +kernel) rfl
theorem q_64 : (.instantiable "WindowCopies$Candidates" 6 : Cond) ∈ gT := gT_t 64 (by decide +kernel) rfl
theorem q_65 : (.methodLink "WindowCopies" 32 ⟨"WindowCopies$Candidates", "<init>", "(LWindowCopies$State;)V"⟩ : Cond) ∈ gT := gT_t 65 (by decide +kernel) rfl
theorem q_66 : (.instanceMethod ⟨"WindowCopies$Candidates", "<init>", "(LWindowCopies$State;)V"⟩ : Cond) ∈ gT := gT_t 66 (by decide +kernel) rfl
theorem q_68 : (.methodLink "WindowCopies$Candidates" 3 ⟨"java/lang/Object", "<init>", "()V"⟩ : Cond) ∈ gT := gT_t 68 (by decide +kernel) rfl
theorem q_69 : (.fieldLink "WindowCopies$Candidates" 28 "WindowCopies$Candidates" "state" "LWindowCopies$State;" : Cond) ∈ gT := gT_t 69 (by decide +kernel) rfl
theorem q_70 : (.fieldLink "WindowCopies$Candidates" 9 "WindowCopies$Candidates" "likeLengths" "[I" : Cond) ∈ gT := gT_t 70 (by decide +kernel) rfl
theorem q_71 : (.fieldLink "WindowCopies$Candidates" 15 "WindowCopies$Candidates" "distances" "[I" : Cond) ∈ gT := gT_t 71 (by decide +kernel) rfl
theorem q_72 : (.fieldLink "WindowCopies$Candidates" 18 "WindowCopies$Candidates" "place" "I" : Cond) ∈ gT := gT_t 72 (by decide +kernel) rfl
theorem q_73 : (.fieldLink "WindowCopies$Candidates" 22 "WindowCopies$Candidates" "all" "I" : Cond) ∈ gT := gT_t 73 (by decide +kernel) rfl
theorem q_74 : (.fieldLink "WindowCopies$Candidates" 25 "WindowCopies$Candidates" "lookedAt" "I" : Cond) ∈ gT := gT_t 74 (by decide +kernel) rfl
theorem q_75 : (.laysFinal "WindowCopies$Candidates" "WindowCopies$Candidates" "state" "LWindowCopies$State;" : Cond) ∈ gT := gT_t 75 (by decide +kernel) rfl
theorem q_77 : (.laysFinal "WindowCopies$Candidates" "WindowCopies$Candidates" "likeLengths" "[I" : Cond) ∈ gT := gT_t 77 (by decide +kernel) rfl
theorem q_79 : (.laysFinal "WindowCopies$Candidates" "WindowCopies$Candidates" "distances" "[I" : Cond) ∈ gT := gT_t 79 (by decide +kernel) rfl
theorem q_81 : (.lays "WindowCopies$Candidates" "WindowCopies$Candidates" "place" "I" : Cond) ∈ gT := gT_t 81 (by decide +kernel) rfl
theorem q_83 : (.lays "WindowCopies$Candidates" "WindowCopies$Candidates" "all" "I" : Cond) ∈ gT := gT_t 83 (by decide +kernel) rfl
theorem q_85 : (.lays "WindowCopies$Candidates" "WindowCopies$Candidates" "lookedAt" "I" : Cond) ∈ gT := gT_t 85 (by decide +kernel) rfl
theorem q_88 : (.classLink "WindowCopies" 39 "WindowCopies$Plan" : Cond) ∈ gT := gT_t 88 (by decide +kernel) rfl
theorem q_89 : (.instantiable "WindowCopies$Plan" 11 : Cond) ∈ gT := gT_t 89 (by decide +kernel) rfl
theorem q_90 : (.methodLink "WindowCopies" 41 ⟨"WindowCopies$Plan", "<init>", "(LWindowCopies$State;LWindowCopies$Candidates;)V"⟩ : Cond) ∈ gT := gT_t 90 (by decide +kernel) rfl
theorem q_91 : (.instanceMethod ⟨"WindowCopies$Plan", "<init>", "(LWindowCopies$State;LWindowCopies$Candidates;)V"⟩ : Cond) ∈ gT := gT_t 91 (by decide +kernel) rfl
theorem q_93 : (.methodLink "WindowCopies$Plan" 3 ⟨"java/lang/Object", "<init>", "()V"⟩ : Cond) ∈ gT := gT_t 93 (by decide +kernel) rfl
theorem q_94 : (.fieldLink "WindowCopies$Plan" 40 "WindowCopies$Plan" "state" "LWindowCopies$State;" : Cond) ∈ gT := gT_t 94 (by decide +kernel) rfl
theorem q_95 : (.fieldLink "WindowCopies$Plan" 44 "WindowCopies$Plan" "candidates" "LWindowCopies$Candidates;" : Cond) ∈ gT := gT_t 95 (by decide +kernel) rfl
theorem q_96 : (.fieldLink "WindowCopies$Plan" 9 "WindowCopies$Plan" "distances" "[I" : Cond) ∈ gT := gT_t 96 (by decide +kernel) rfl
theorem q_97 : (.fieldLink "WindowCopies$Plan" 15 "WindowCopies$Plan" "lengths" "[I" : Cond) ∈ gT := gT_t 97 (by decide +kernel) rfl
theorem q_98 : (.fieldLink "WindowCopies$Plan" 18 "WindowCopies$Plan" "savings" "[I" : Cond) ∈ gT := gT_t 98 (by decide +kernel) rfl
theorem q_99 : (.fieldLink "WindowCopies$Plan" 21 "WindowCopies$Plan" "leastCosts" "[I" : Cond) ∈ gT := gT_t 99 (by decide +kernel) rfl
theorem q_100 : (.fieldLink "WindowCopies$Plan" 24 "WindowCopies$Plan" "begins" "[I" : Cond) ∈ gT := gT_t 100 (by decide +kernel) rfl
theorem q_101 : (.fieldLink "WindowCopies$Plan" 27 "WindowCopies$Plan" "parts" "I" : Cond) ∈ gT := gT_t 101 (by decide +kernel) rfl
theorem q_102 : (.fieldLink "WindowCopies$Plan" 31 "WindowCopies$Plan" "copies" "I" : Cond) ∈ gT := gT_t 102 (by decide +kernel) rfl
theorem q_103 : (.fieldLink "WindowCopies$Plan" 34 "WindowCopies$Plan" "copiedLetters" "I" : Cond) ∈ gT := gT_t 103 (by decide +kernel) rfl
theorem q_104 : (.fieldLink "WindowCopies$Plan" 37 "WindowCopies$Plan" "longestCopy" "I" : Cond) ∈ gT := gT_t 104 (by decide +kernel) rfl
theorem q_105 : (.laysFinal "WindowCopies$Plan" "WindowCopies$Plan" "state" "LWindowCopies$State;" : Cond) ∈ gT := gT_t 105 (by decide +kernel) rfl
theorem q_107 : (.laysFinal "WindowCopies$Plan" "WindowCopies$Plan" "candidates" "LWindowCopies$Candidates;" : Cond) ∈ gT := gT_t 107 (by decide +kernel) rfl
theorem q_109 : (.laysFinal "WindowCopies$Plan" "WindowCopies$Plan" "distances" "[I" : Cond) ∈ gT := gT_t 109 (by decide +kernel) rfl
theorem q_111 : (.laysFinal "WindowCopies$Plan" "WindowCopies$Plan" "lengths" "[I" : Cond) ∈ gT := gT_t 111 (by decide +kernel) rfl
theorem q_113 : (.laysFinal "WindowCopies$Plan" "WindowCopies$Plan" "savings" "[I" : Cond) ∈ gT := gT_t 113 (by decide +kernel) rfl
theorem q_115 : (.laysFinal "WindowCopies$Plan" "WindowCopies$Plan" "leastCosts" "[I" : Cond) ∈ gT := gT_t 115 (by decide +kernel) rfl
theorem q_117 : (.laysFinal "WindowCopies$Plan" "WindowCopies$Plan" "begins" "[I" : Cond) ∈ gT := gT_t 117 (by decide +kernel) rfl
theorem q_119 : (.lays "WindowCopies$Plan" "WindowCopies$Plan" "parts" "I" : Cond) ∈ gT := gT_t 119 (by decide +kernel) rfl
theorem q_121 : (.lays "WindowCopies$Plan" "WindowCopies$Plan" "copies" "I" : Cond) ∈ gT := gT_t 121 (by decide +kernel) rfl
theorem q_123 : (.lays "WindowCopies$Plan" "WindowCopies$Plan" "copiedLetters" "I" : Cond) ∈ gT := gT_t 123 (by decide +kernel) rfl
theorem q_125 : (.lays "WindowCopies$Plan" "WindowCopies$Plan" "longestCopy" "I" : Cond) ∈ gT := gT_t 125 (by decide +kernel) rfl
theorem q_128 : (.classLink "WindowCopies" 48 "WindowCopies$Stretch" : Cond) ∈ gT := gT_t 128 (by decide +kernel) rfl
theorem q_129 : (.instantiable "WindowCopies$Stretch" 3 : Cond) ∈ gT := gT_t 129 (by decide +kernel) rfl
theorem q_131 : (.instanceMethod ⟨"WindowCopies$Stretch", "<init>", "()V"⟩ : Cond) ∈ gT := gT_t 131 (by decide +kernel) rfl
theorem q_133 : (.methodLink "WindowCopies$Stretch" 1 ⟨"java/lang/Object", "<init>", "()V"⟩ : Cond) ∈ gT := gT_t 133 (by decide +kernel) rfl
theorem q_134 : (.fieldLink "WindowCopies$Stretch" 7 "WindowCopies$Stretch" "length" "I" : Cond) ∈ gT := gT_t 134 (by decide +kernel) rfl
theorem q_135 : (.fieldLink "WindowCopies$Stretch" 13 "WindowCopies$Stretch" "former" "I" : Cond) ∈ gT := gT_t 135 (by decide +kernel) rfl
theorem q_136 : (.fieldLink "WindowCopies$Stretch" 16 "WindowCopies$Stretch" "latter" "I" : Cond) ∈ gT := gT_t 136 (by decide +kernel) rfl
theorem q_137 : (.lays "WindowCopies$Stretch" "WindowCopies$Stretch" "length" "I" : Cond) ∈ gT := gT_t 137 (by decide +kernel) rfl
theorem q_139 : (.lays "WindowCopies$Stretch" "WindowCopies$Stretch" "former" "I" : Cond) ∈ gT := gT_t 139 (by decide +kernel) rfl
theorem q_141 : (.lays "WindowCopies$Stretch" "WindowCopies$Stretch" "latter" "I" : Cond) ∈ gT := gT_t 141 (by decide +kernel) rfl
theorem q_144 : (.classLink "WindowCopies" 55 "WindowCopies$Text" : Cond) ∈ gT := gT_t 144 (by decide +kernel) rfl
theorem q_145 : (.instantiable "WindowCopies$Text" 2 : Cond) ∈ gT := gT_t 145 (by decide +kernel) rfl
theorem q_147 : (.instanceMethod ⟨"WindowCopies$Text", "<init>", "()V"⟩ : Cond) ∈ gT := gT_t 147 (by decide +kernel) rfl
theorem q_149 : (.methodLink "WindowCopies$Text" 3 ⟨"java/lang/Object", "<init>", "()V"⟩ : Cond) ∈ gT := gT_t 149 (by decide +kernel) rfl
theorem q_150 : (.fieldLink "WindowCopies$Text" 9 "WindowCopies$Text" "characters" "[I" : Cond) ∈ gT := gT_t 150 (by decide +kernel) rfl
theorem q_151 : (.fieldLink "WindowCopies$Text" 15 "WindowCopies$Text" "size" "I" : Cond) ∈ gT := gT_t 151 (by decide +kernel) rfl
theorem q_152 : (.laysFinal "WindowCopies$Text" "WindowCopies$Text" "characters" "[I" : Cond) ∈ gT := gT_t 152 (by decide +kernel) rfl
theorem q_154 : (.lays "WindowCopies$Text" "WindowCopies$Text" "size" "I" : Cond) ∈ gT := gT_t 154 (by decide +kernel) rfl
theorem q_157 : (.classLink "WindowCopies" 62 "WindowCopies$TextReader" : Cond) ∈ gT := gT_t 157 (by decide +kernel) rfl
theorem q_158 : (.instantiable "WindowCopies$TextReader" 6 : Cond) ∈ gT := gT_t 158 (by decide +kernel) rfl
theorem q_159 : (.methodLink "WindowCopies" 64 ⟨"WindowCopies$TextReader", "<init>", "(LWindowCopies$Text;LWindowCopies$State;)V"⟩ : Cond) ∈ gT := gT_t 159 (by decide +kernel) rfl
theorem q_160 : (.instanceMethod ⟨"WindowCopies$TextReader", "<init>", "(LWindowCopies$Text;LWindowCopies$State;)V"⟩ : Cond) ∈ gT := gT_t 160 (by decide +kernel) rfl
theorem q_162 : (.methodLink "WindowCopies$TextReader" 3 ⟨"java/lang/Object", "<init>", "()V"⟩ : Cond) ∈ gT := gT_t 162 (by decide +kernel) rfl
theorem q_163 : (.classLink "WindowCopies$TextReader" 9 "WindowCopies$State" : Cond) ∈ gT := gT_t 163 (by decide +kernel) rfl
theorem q_164 : (.methodLink "WindowCopies$TextReader" 11 ⟨"WindowCopies$State", "<init>", "()V"⟩ : Cond) ∈ gT := gT_t 164 (by decide +kernel) rfl
theorem q_165 : (.fieldLink "WindowCopies$TextReader" 28 "WindowCopies$TextReader" "text" "LWindowCopies$Text;" : Cond) ∈ gT := gT_t 165 (by decide +kernel) rfl
theorem q_166 : (.fieldLink "WindowCopies$TextReader" 32 "WindowCopies$TextReader" "state" "LWindowCopies$State;" : Cond) ∈ gT := gT_t 166 (by decide +kernel) rfl
theorem q_167 : (.fieldLink "WindowCopies$TextReader" 12 "WindowCopies$TextReader" "told" "LWindowCopies$State;" : Cond) ∈ gT := gT_t 167 (by decide +kernel) rfl
theorem q_168 : (.fieldLink "WindowCopies$TextReader" 18 "WindowCopies$TextReader" "next" "I" : Cond) ∈ gT := gT_t 168 (by decide +kernel) rfl
theorem q_169 : (.fieldLink "WindowCopies$TextReader" 22 "WindowCopies$TextReader" "place" "I" : Cond) ∈ gT := gT_t 169 (by decide +kernel) rfl
theorem q_170 : (.fieldLink "WindowCopies$TextReader" 25 "WindowCopies$TextReader" "reason" "I" : Cond) ∈ gT := gT_t 170 (by decide +kernel) rfl
theorem q_171 : (.laysFinal "WindowCopies$TextReader" "WindowCopies$TextReader" "text" "LWindowCopies$Text;" : Cond) ∈ gT := gT_t 171 (by decide +kernel) rfl
theorem q_173 : (.laysFinal "WindowCopies$TextReader" "WindowCopies$TextReader" "state" "LWindowCopies$State;" : Cond) ∈ gT := gT_t 173 (by decide +kernel) rfl
theorem q_175 : (.laysFinal "WindowCopies$TextReader" "WindowCopies$TextReader" "told" "LWindowCopies$State;" : Cond) ∈ gT := gT_t 175 (by decide +kernel) rfl
theorem q_177 : (.lays "WindowCopies$TextReader" "WindowCopies$TextReader" "next" "I" : Cond) ∈ gT := gT_t 177 (by decide +kernel) rfl
theorem q_179 : (.lays "WindowCopies$TextReader" "WindowCopies$TextReader" "place" "I" : Cond) ∈ gT := gT_t 179 (by decide +kernel) rfl
theorem q_181 : (.lays "WindowCopies$TextReader" "WindowCopies$TextReader" "reason" "I" : Cond) ∈ gT := gT_t 181 (by decide +kernel) rfl
theorem q_184 : (.fieldLink "WindowCopies" 10 "WindowCopies" "state" "LWindowCopies$State;" : Cond) ∈ gT := gT_t 184 (by decide +kernel) rfl
theorem q_185 : (.fieldLink "WindowCopies" 16 "WindowCopies" "snapshot" "LWindowCopies$State;" : Cond) ∈ gT := gT_t 185 (by decide +kernel) rfl
theorem q_186 : (.fieldLink "WindowCopies" 19 "WindowCopies" "hasSnapshot" "Z" : Cond) ∈ gT := gT_t 186 (by decide +kernel) rfl
theorem q_187 : (.fieldLink "WindowCopies" 26 "WindowCopies" "history" "LWindowCopies$History;" : Cond) ∈ gT := gT_t 187 (by decide +kernel) rfl
theorem q_188 : (.fieldLink "WindowCopies" 35 "WindowCopies" "candidates" "LWindowCopies$Candidates;" : Cond) ∈ gT := gT_t 188 (by decide +kernel) rfl
theorem q_189 : (.fieldLink "WindowCopies" 44 "WindowCopies" "plan" "LWindowCopies$Plan;" : Cond) ∈ gT := gT_t 189 (by decide +kernel) rfl
theorem q_190 : (.fieldLink "WindowCopies" 51 "WindowCopies" "stretch" "LWindowCopies$Stretch;" : Cond) ∈ gT := gT_t 190 (by decide +kernel) rfl
theorem q_191 : (.fieldLink "WindowCopies" 58 "WindowCopies" "text" "LWindowCopies$Text;" : Cond) ∈ gT := gT_t 191 (by decide +kernel) rfl
theorem q_192 : (.fieldLink "WindowCopies" 67 "WindowCopies" "reader" "LWindowCopies$TextReader;" : Cond) ∈ gT := gT_t 192 (by decide +kernel) rfl
theorem q_193 : (.laysFinal "WindowCopies" "WindowCopies" "state" "LWindowCopies$State;" : Cond) ∈ gT := gT_t 193 (by decide +kernel) rfl
theorem q_195 : (.laysFinal "WindowCopies" "WindowCopies" "snapshot" "LWindowCopies$State;" : Cond) ∈ gT := gT_t 195 (by decide +kernel) rfl
theorem q_197 : (.lays "WindowCopies" "WindowCopies" "hasSnapshot" "Z" : Cond) ∈ gT := gT_t 197 (by decide +kernel) rfl
theorem q_199 : (.laysFinal "WindowCopies" "WindowCopies" "history" "LWindowCopies$History;" : Cond) ∈ gT := gT_t 199 (by decide +kernel) rfl
theorem q_201 : (.laysFinal "WindowCopies" "WindowCopies" "candidates" "LWindowCopies$Candidates;" : Cond) ∈ gT := gT_t 201 (by decide +kernel) rfl
theorem q_203 : (.laysFinal "WindowCopies" "WindowCopies" "plan" "LWindowCopies$Plan;" : Cond) ∈ gT := gT_t 203 (by decide +kernel) rfl
theorem q_205 : (.laysFinal "WindowCopies" "WindowCopies" "stretch" "LWindowCopies$Stretch;" : Cond) ∈ gT := gT_t 205 (by decide +kernel) rfl
theorem q_207 : (.laysFinal "WindowCopies" "WindowCopies" "text" "LWindowCopies$Text;" : Cond) ∈ gT := gT_t 207 (by decide +kernel) rfl
theorem q_209 : (.laysFinal "WindowCopies" "WindowCopies" "reader" "LWindowCopies$TextReader;" : Cond) ∈ gT := gT_t 209 (by decide +kernel) rfl
theorem q_212 : (.methodLink "WindowCopiesLaw" 13 ⟨"WindowCopies", "put", "(I)I"⟩ : Cond) ∈ gT := gT_t 212 (by decide +kernel) rfl
theorem q_213 : (.instanceMethod ⟨"WindowCopies", "put", "(I)I"⟩ : Cond) ∈ gT := gT_t 213 (by decide +kernel) rfl
theorem q_214 : (.selects "WindowCopies" ⟨"WindowCopies", "put", "(I)I"⟩ ⟨"WindowCopies", "put", "(I)I"⟩ : Cond) ∈ gT := gT_t 214 (by decide +kernel) rfl
theorem q_216 : (.methodLink "WindowCopies" 71 ⟨"WindowCopies", "isLetter", "(I)Z"⟩ : Cond) ∈ gT := gT_t 216 (by decide +kernel) rfl
theorem q_217 : (.static ⟨"WindowCopies", "isLetter", "(I)Z"⟩ : Cond) ∈ gT := gT_t 217 (by decide +kernel) rfl
theorem q_219 : (.methodLink "WindowCopies" 86 ⟨"WindowCopies", "isIn", "(III)Z"⟩ : Cond) ∈ gT := gT_t 219 (by decide +kernel) rfl
theorem q_220 : (.static ⟨"WindowCopies", "isIn", "(III)Z"⟩ : Cond) ∈ gT := gT_t 220 (by decide +kernel) rfl
theorem q_222 : (.methodLink "WindowCopies" 75 ⟨"WindowCopies$State", "size", "()I"⟩ : Cond) ∈ gT := gT_t 222 (by decide +kernel) rfl
theorem q_223 : (.instanceMethod ⟨"WindowCopies$State", "size", "()I"⟩ : Cond) ∈ gT := gT_t 223 (by decide +kernel) rfl
theorem q_224 : (.selects "WindowCopies$State" ⟨"WindowCopies$State", "size", "()I"⟩ ⟨"WindowCopies$State", "size", "()I"⟩ : Cond) ∈ gT := gT_t 224 (by decide +kernel) rfl
theorem q_226 : (.methodLink "WindowCopies" 79 ⟨"WindowCopies$History", "record", "(LWindowCopies$State;)V"⟩ : Cond) ∈ gT := gT_t 226 (by decide +kernel) rfl
theorem q_227 : (.instanceMethod ⟨"WindowCopies$History", "record", "(LWindowCopies$State;)V"⟩ : Cond) ∈ gT := gT_t 227 (by decide +kernel) rfl
theorem q_228 : (.selects "WindowCopies$History" ⟨"WindowCopies$History", "record", "(LWindowCopies$State;)V"⟩ ⟨"WindowCopies$History", "record", "(LWindowCopies$State;)V"⟩ : Cond) ∈ gT := gT_t 228 (by decide +kernel) rfl
theorem q_230 : (.methodLink "WindowCopies$History" 25 ⟨"WindowCopies$History", "slotOf", "(I)I"⟩ : Cond) ∈ gT := gT_t 230 (by decide +kernel) rfl
theorem q_232 : (.instanceMethod ⟨"WindowCopies$History", "slotOf", "(I)I"⟩ : Cond) ∈ gT := gT_t 232 (by decide +kernel) rfl
theorem q_234 : (.methodLink "WindowCopies$History" 29 ⟨"WindowCopies$History", "stateAt", "(I)LWindowCopies$State;"⟩ : Cond) ∈ gT := gT_t 234 (by decide +kernel) rfl
theorem q_236 : (.instanceMethod ⟨"WindowCopies$History", "stateAt", "(I)LWindowCopies$State;"⟩ : Cond) ∈ gT := gT_t 236 (by decide +kernel) rfl
theorem q_238 : (.methodLink "WindowCopies$History" 33 ⟨"WindowCopies$State", "copyFrom", "(LWindowCopies$State;)V"⟩ : Cond) ∈ gT := gT_t 238 (by decide +kernel) rfl
theorem q_239 : (.instanceMethod ⟨"WindowCopies$State", "copyFrom", "(LWindowCopies$State;)V"⟩ : Cond) ∈ gT := gT_t 239 (by decide +kernel) rfl
theorem q_240 : (.selects "WindowCopies$State" ⟨"WindowCopies$State", "copyFrom", "(LWindowCopies$State;)V"⟩ ⟨"WindowCopies$State", "copyFrom", "(LWindowCopies$State;)V"⟩ : Cond) ∈ gT := gT_t 240 (by decide +kernel) rfl
theorem q_242 : (.methodLink "WindowCopies$State" 54 ⟨"WindowCopies$State", "copyRowFrom", "(LWindowCopies$State;)V"⟩ : Cond) ∈ gT := gT_t 242 (by decide +kernel) rfl
theorem q_243 : (.instanceMethod ⟨"WindowCopies$State", "copyRowFrom", "(LWindowCopies$State;)V"⟩ : Cond) ∈ gT := gT_t 243 (by decide +kernel) rfl
theorem q_244 : (.selects "WindowCopies$State" ⟨"WindowCopies$State", "copyRowFrom", "(LWindowCopies$State;)V"⟩ ⟨"WindowCopies$State", "copyRowFrom", "(LWindowCopies$State;)V"⟩ : Cond) ∈ gT := gT_t 244 (by decide +kernel) rfl
theorem q_246 : (.methodLink "WindowCopies$State" 62 ⟨"WindowCopies$State", "size", "()I"⟩ : Cond) ∈ gT := gT_t 246 (by decide +kernel) rfl
theorem q_247 : (.methodLink "WindowCopies$State" 33 ⟨"WindowCopies$State", "letterAt", "(I)I"⟩ : Cond) ∈ gT := gT_t 247 (by decide +kernel) rfl
theorem q_248 : (.instanceMethod ⟨"WindowCopies$State", "letterAt", "(I)I"⟩ : Cond) ∈ gT := gT_t 248 (by decide +kernel) rfl
theorem q_249 : (.selects "WindowCopies$State" ⟨"WindowCopies$State", "letterAt", "(I)I"⟩ ⟨"WindowCopies$State", "letterAt", "(I)I"⟩ : Cond) ∈ gT := gT_t 249 (by decide +kernel) rfl
theorem q_251 : (.methodLink "WindowCopies$State" 65 ⟨"WindowCopies$State", "changeLetter", "(II)V"⟩ : Cond) ∈ gT := gT_t 251 (by decide +kernel) rfl
theorem q_252 : (.instanceMethod ⟨"WindowCopies$State", "changeLetter", "(II)V"⟩ : Cond) ∈ gT := gT_t 252 (by decide +kernel) rfl
theorem q_253 : (.selects "WindowCopies$State" ⟨"WindowCopies$State", "changeLetter", "(II)V"⟩ ⟨"WindowCopies$State", "changeLetter", "(II)V"⟩ : Cond) ∈ gT := gT_t 253 (by decide +kernel) rfl
theorem q_255 : (.methodLink "WindowCopies$State" 47 ⟨"WindowCopies$State", "setting", "(I)I"⟩ : Cond) ∈ gT := gT_t 255 (by decide +kernel) rfl
theorem q_256 : (.instanceMethod ⟨"WindowCopies$State", "setting", "(I)I"⟩ : Cond) ∈ gT := gT_t 256 (by decide +kernel) rfl
theorem q_257 : (.selects "WindowCopies$State" ⟨"WindowCopies$State", "setting", "(I)I"⟩ ⟨"WindowCopies$State", "setting", "(I)I"⟩ : Cond) ∈ gT := gT_t 257 (by decide +kernel) rfl
theorem q_259 : (.methodLink "WindowCopies$State" 58 ⟨"WindowCopies$State", "changeSetting", "(II)V"⟩ : Cond) ∈ gT := gT_t 259 (by decide +kernel) rfl
theorem q_260 : (.instanceMethod ⟨"WindowCopies$State", "changeSetting", "(II)V"⟩ : Cond) ∈ gT := gT_t 260 (by decide +kernel) rfl
theorem q_261 : (.selects "WindowCopies$State" ⟨"WindowCopies$State", "changeSetting", "(II)V"⟩ ⟨"WindowCopies$State", "changeSetting", "(II)V"⟩ : Cond) ∈ gT := gT_t 261 (by decide +kernel) rfl
theorem q_263 : (.methodLink "WindowCopies" 82 ⟨"WindowCopies$State", "append", "(I)V"⟩ : Cond) ∈ gT := gT_t 263 (by decide +kernel) rfl
theorem q_264 : (.instanceMethod ⟨"WindowCopies$State", "append", "(I)V"⟩ : Cond) ∈ gT := gT_t 264 (by decide +kernel) rfl
theorem q_265 : (.selects "WindowCopies$State" ⟨"WindowCopies$State", "append", "(I)V"⟩ ⟨"WindowCopies$State", "append", "(I)V"⟩ : Cond) ∈ gT := gT_t 265 (by decide +kernel) rfl
theorem q_267 : (.methodLink "WindowCopiesLaw" 18 ⟨"WindowCopies", "drop", "(I)I"⟩ : Cond) ∈ gT := gT_t 267 (by decide +kernel) rfl
theorem q_268 : (.instanceMethod ⟨"WindowCopies", "drop", "(I)I"⟩ : Cond) ∈ gT := gT_t 268 (by decide +kernel) rfl
theorem q_269 : (.selects "WindowCopies" ⟨"WindowCopies", "drop", "(I)I"⟩ ⟨"WindowCopies", "drop", "(I)I"⟩ : Cond) ∈ gT := gT_t 269 (by decide +kernel) rfl
theorem q_271 : (.methodLink "WindowCopies" 90 ⟨"WindowCopies$State", "shorten", "(I)V"⟩ : Cond) ∈ gT := gT_t 271 (by decide +kernel) rfl
theorem q_272 : (.instanceMethod ⟨"WindowCopies$State", "shorten", "(I)V"⟩ : Cond) ∈ gT := gT_t 272 (by decide +kernel) rfl
theorem q_273 : (.selects "WindowCopies$State" ⟨"WindowCopies$State", "shorten", "(I)V"⟩ ⟨"WindowCopies$State", "shorten", "(I)V"⟩ : Cond) ∈ gT := gT_t 273 (by decide +kernel) rfl
theorem q_275 : (.methodLink "WindowCopies$State" 41 ⟨"java/lang/Math", "max", "(II)I"⟩ : Cond) ∈ gT := gT_t 275 (by decide +kernel) rfl
theorem q_276 : (.static ⟨"java/lang/Math", "max", "(II)I"⟩ : Cond) ∈ gT := gT_t 276 (by decide +kernel) rfl
theorem q_278 : (.methodLink "WindowCopiesLaw" 22 ⟨"WindowCopies", "mend", "(II)I"⟩ : Cond) ∈ gT := gT_t 278 (by decide +kernel) rfl
theorem q_279 : (.instanceMethod ⟨"WindowCopies", "mend", "(II)I"⟩ : Cond) ∈ gT := gT_t 279 (by decide +kernel) rfl
theorem q_280 : (.selects "WindowCopies" ⟨"WindowCopies", "mend", "(II)I"⟩ ⟨"WindowCopies", "mend", "(II)I"⟩ : Cond) ∈ gT := gT_t 280 (by decide +kernel) rfl
theorem q_282 : (.methodLink "WindowCopies" 93 ⟨"WindowCopies$State", "hasPlace", "(I)Z"⟩ : Cond) ∈ gT := gT_t 282 (by decide +kernel) rfl
theorem q_283 : (.instanceMethod ⟨"WindowCopies$State", "hasPlace", "(I)Z"⟩ : Cond) ∈ gT := gT_t 283 (by decide +kernel) rfl
theorem q_284 : (.selects "WindowCopies$State" ⟨"WindowCopies$State", "hasPlace", "(I)Z"⟩ ⟨"WindowCopies$State", "hasPlace", "(I)Z"⟩ : Cond) ∈ gT := gT_t 284 (by decide +kernel) rfl
theorem q_286 : (.methodLink "WindowCopies" 96 ⟨"WindowCopies$State", "letterAt", "(I)I"⟩ : Cond) ∈ gT := gT_t 286 (by decide +kernel) rfl
theorem q_287 : (.methodLink "WindowCopies" 100 ⟨"WindowCopies$State", "changeLetter", "(II)V"⟩ : Cond) ∈ gT := gT_t 287 (by decide +kernel) rfl
theorem q_288 : (.methodLink "WindowCopiesLaw" 27 ⟨"WindowCopies", "set", "(II)I"⟩ : Cond) ∈ gT := gT_t 288 (by decide +kernel) rfl
theorem q_289 : (.instanceMethod ⟨"WindowCopies", "set", "(II)I"⟩ : Cond) ∈ gT := gT_t 289 (by decide +kernel) rfl
theorem q_290 : (.selects "WindowCopies" ⟨"WindowCopies", "set", "(II)I"⟩ ⟨"WindowCopies", "set", "(II)I"⟩ : Cond) ∈ gT := gT_t 290 (by decide +kernel) rfl
theorem q_292 : (.fieldLink "WindowCopies" 104 "WindowCopies" "LOWEST_VALUES" "[I" : Cond) ∈ gT := gT_t 292 (by decide +kernel) rfl
theorem q_294 : (.methodLink "WindowCopies" 108 ⟨"WindowCopies", "at", "([II)I"⟩ : Cond) ∈ gT := gT_t 294 (by decide +kernel) rfl
theorem q_295 : (.fieldLink "WindowCopies" 112 "WindowCopies" "HIGHEST_VALUES" "[I" : Cond) ∈ gT := gT_t 295 (by decide +kernel) rfl
theorem q_297 : (.methodLink "WindowCopies" 115 ⟨"WindowCopies$State", "setting", "(I)I"⟩ : Cond) ∈ gT := gT_t 297 (by decide +kernel) rfl
theorem q_298 : (.methodLink "WindowCopies" 118 ⟨"WindowCopies$State", "changeSetting", "(II)V"⟩ : Cond) ∈ gT := gT_t 298 (by decide +kernel) rfl
theorem q_299 : (.methodLink "WindowCopiesLaw" 31 ⟨"WindowCopies", "letter", "(I)I"⟩ : Cond) ∈ gT := gT_t 299 (by decide +kernel) rfl
theorem q_300 : (.instanceMethod ⟨"WindowCopies", "letter", "(I)I"⟩ : Cond) ∈ gT := gT_t 300 (by decide +kernel) rfl
theorem q_301 : (.selects "WindowCopies" ⟨"WindowCopies", "letter", "(I)I"⟩ ⟨"WindowCopies", "letter", "(I)I"⟩ : Cond) ∈ gT := gT_t 301 (by decide +kernel) rfl
theorem q_303 : (.methodLink "WindowCopiesLaw" 35 ⟨"WindowCopies", "candidate", "(III)I"⟩ : Cond) ∈ gT := gT_t 303 (by decide +kernel) rfl
theorem q_304 : (.instanceMethod ⟨"WindowCopies", "candidate", "(III)I"⟩ : Cond) ∈ gT := gT_t 304 (by decide +kernel) rfl
theorem q_305 : (.selects "WindowCopies" ⟨"WindowCopies", "candidate", "(III)I"⟩ ⟨"WindowCopies", "candidate", "(III)I"⟩ : Cond) ∈ gT := gT_t 305 (by decide +kernel) rfl
theorem q_307 : (.methodLink "WindowCopies" 121 ⟨"WindowCopies$Candidates", "lookAt", "(I)V"⟩ : Cond) ∈ gT := gT_t 307 (by decide +kernel) rfl
theorem q_308 : (.instanceMethod ⟨"WindowCopies$Candidates", "lookAt", "(I)V"⟩ : Cond) ∈ gT := gT_t 308 (by decide +kernel) rfl
theorem q_309 : (.selects "WindowCopies$Candidates" ⟨"WindowCopies$Candidates", "lookAt", "(I)V"⟩ ⟨"WindowCopies$Candidates", "lookAt", "(I)V"⟩ : Cond) ∈ gT := gT_t 309 (by decide +kernel) rfl
theorem q_311 : (.methodLink "WindowCopies$Candidates" 63 ⟨"WindowCopies$Candidates", "beginBehindRow", "()V"⟩ : Cond) ∈ gT := gT_t 311 (by decide +kernel) rfl
theorem q_312 : (.instanceMethod ⟨"WindowCopies$Candidates", "beginBehindRow", "()V"⟩ : Cond) ∈ gT := gT_t 312 (by decide +kernel) rfl
theorem q_313 : (.selects "WindowCopies$Candidates" ⟨"WindowCopies$Candidates", "beginBehindRow", "()V"⟩ ⟨"WindowCopies$Candidates", "beginBehindRow", "()V"⟩ : Cond) ∈ gT := gT_t 313 (by decide +kernel) rfl
theorem q_315 : (.methodLink "WindowCopies$Candidates" 32 ⟨"WindowCopies$State", "size", "()I"⟩ : Cond) ∈ gT := gT_t 315 (by decide +kernel) rfl
theorem q_317 : (.methodLink "WindowCopies$Candidates" 66 ⟨"WindowCopies$Candidates", "stepAhead", "()V"⟩ : Cond) ∈ gT := gT_t 317 (by decide +kernel) rfl
theorem q_318 : (.instanceMethod ⟨"WindowCopies$Candidates", "stepAhead", "()V"⟩ : Cond) ∈ gT := gT_t 318 (by decide +kernel) rfl
theorem q_319 : (.selects "WindowCopies$Candidates" ⟨"WindowCopies$Candidates", "stepAhead", "()V"⟩ ⟨"WindowCopies$Candidates", "stepAhead", "()V"⟩ : Cond) ∈ gT := gT_t 319 (by decide +kernel) rfl
theorem q_321 : (.methodLink "WindowCopies$Candidates" 42 ⟨"WindowCopies$State", "setting", "(I)I"⟩ : Cond) ∈ gT := gT_t 321 (by decide +kernel) rfl
theorem q_322 : (.methodLink "WindowCopies$Candidates" 46 ⟨"java/lang/Math", "min", "(II)I"⟩ : Cond) ∈ gT := gT_t 322 (by decide +kernel) rfl
theorem q_323 : (.static ⟨"java/lang/Math", "min", "(II)I"⟩ : Cond) ∈ gT := gT_t 323 (by decide +kernel) rfl
theorem q_325 : (.methodLink "WindowCopies$Candidates" 52 ⟨"WindowCopies$State", "letterAt", "(I)I"⟩ : Cond) ∈ gT := gT_t 325 (by decide +kernel) rfl
theorem q_327 : (.methodLink "WindowCopies$Candidates" 59 ⟨"WindowCopies$Candidates", "takeIn", "(II)V"⟩ : Cond) ∈ gT := gT_t 327 (by decide +kernel) rfl
theorem q_329 : (.instanceMethod ⟨"WindowCopies$Candidates", "takeIn", "(II)V"⟩ : Cond) ∈ gT := gT_t 329 (by decide +kernel) rfl
theorem q_331 : (.methodLink "WindowCopies" 124 ⟨"WindowCopies$Candidates", "lookedAt", "()I"⟩ : Cond) ∈ gT := gT_t 331 (by decide +kernel) rfl
theorem q_332 : (.instanceMethod ⟨"WindowCopies$Candidates", "lookedAt", "()I"⟩ : Cond) ∈ gT := gT_t 332 (by decide +kernel) rfl
theorem q_333 : (.selects "WindowCopies$Candidates" ⟨"WindowCopies$Candidates", "lookedAt", "()I"⟩ ⟨"WindowCopies$Candidates", "lookedAt", "()I"⟩ : Cond) ∈ gT := gT_t 333 (by decide +kernel) rfl
theorem q_335 : (.methodLink "WindowCopies" 127 ⟨"WindowCopies$Candidates", "distance", "(I)I"⟩ : Cond) ∈ gT := gT_t 335 (by decide +kernel) rfl
theorem q_336 : (.instanceMethod ⟨"WindowCopies$Candidates", "distance", "(I)I"⟩ : Cond) ∈ gT := gT_t 336 (by decide +kernel) rfl
theorem q_337 : (.selects "WindowCopies$Candidates" ⟨"WindowCopies$Candidates", "distance", "(I)I"⟩ ⟨"WindowCopies$Candidates", "distance", "(I)I"⟩ : Cond) ∈ gT := gT_t 337 (by decide +kernel) rfl
theorem q_339 : (.methodLink "WindowCopies" 130 ⟨"WindowCopies$Candidates", "reach", "(I)I"⟩ : Cond) ∈ gT := gT_t 339 (by decide +kernel) rfl
theorem q_340 : (.instanceMethod ⟨"WindowCopies$Candidates", "reach", "(I)I"⟩ : Cond) ∈ gT := gT_t 340 (by decide +kernel) rfl
theorem q_341 : (.selects "WindowCopies$Candidates" ⟨"WindowCopies$Candidates", "reach", "(I)I"⟩ ⟨"WindowCopies$Candidates", "reach", "(I)I"⟩ : Cond) ∈ gT := gT_t 341 (by decide +kernel) rfl
theorem q_343 : (.methodLink "WindowCopiesLaw" 40 ⟨"WindowCopies", "found", "(II)I"⟩ : Cond) ∈ gT := gT_t 343 (by decide +kernel) rfl
theorem q_344 : (.instanceMethod ⟨"WindowCopies", "found", "(II)I"⟩ : Cond) ∈ gT := gT_t 344 (by decide +kernel) rfl
theorem q_345 : (.selects "WindowCopies" ⟨"WindowCopies", "found", "(II)I"⟩ ⟨"WindowCopies", "found", "(II)I"⟩ : Cond) ∈ gT := gT_t 345 (by decide +kernel) rfl
theorem q_347 : (.methodLink "WindowCopies" 133 ⟨"WindowCopies$Candidates", "all", "()I"⟩ : Cond) ∈ gT := gT_t 347 (by decide +kernel) rfl
theorem q_348 : (.instanceMethod ⟨"WindowCopies$Candidates", "all", "()I"⟩ : Cond) ∈ gT := gT_t 348 (by decide +kernel) rfl
theorem q_349 : (.selects "WindowCopies$Candidates" ⟨"WindowCopies$Candidates", "all", "()I"⟩ ⟨"WindowCopies$Candidates", "all", "()I"⟩ : Cond) ∈ gT := gT_t 349 (by decide +kernel) rfl
theorem q_351 : (.methodLink "WindowCopies" 136 ⟨"WindowCopies$Candidates", "best", "()I"⟩ : Cond) ∈ gT := gT_t 351 (by decide +kernel) rfl
theorem q_352 : (.instanceMethod ⟨"WindowCopies$Candidates", "best", "()I"⟩ : Cond) ∈ gT := gT_t 352 (by decide +kernel) rfl
theorem q_353 : (.selects "WindowCopies$Candidates" ⟨"WindowCopies$Candidates", "best", "()I"⟩ ⟨"WindowCopies$Candidates", "best", "()I"⟩ : Cond) ∈ gT := gT_t 353 (by decide +kernel) rfl
theorem q_355 : (.methodLink "WindowCopies$Candidates" 69 ⟨"WindowCopies$Candidates", "reach", "(I)I"⟩ : Cond) ∈ gT := gT_t 355 (by decide +kernel) rfl
theorem q_356 : (.methodLink "WindowCopies" 139 ⟨"WindowCopies$State", "savingOf", "(I)I"⟩ : Cond) ∈ gT := gT_t 356 (by decide +kernel) rfl
theorem q_357 : (.instanceMethod ⟨"WindowCopies$State", "savingOf", "(I)I"⟩ : Cond) ∈ gT := gT_t 357 (by decide +kernel) rfl
theorem q_358 : (.selects "WindowCopies$State" ⟨"WindowCopies$State", "savingOf", "(I)I"⟩ ⟨"WindowCopies$State", "savingOf", "(I)I"⟩ : Cond) ∈ gT := gT_t 358 (by decide +kernel) rfl
theorem q_360 : (.methodLink "WindowCopiesLaw" 44 ⟨"WindowCopies", "isCopy", "(III)I"⟩ : Cond) ∈ gT := gT_t 360 (by decide +kernel) rfl
theorem q_361 : (.instanceMethod ⟨"WindowCopies", "isCopy", "(III)I"⟩ : Cond) ∈ gT := gT_t 361 (by decide +kernel) rfl
theorem q_362 : (.selects "WindowCopies" ⟨"WindowCopies", "isCopy", "(III)I"⟩ ⟨"WindowCopies", "isCopy", "(III)I"⟩ : Cond) ∈ gT := gT_t 362 (by decide +kernel) rfl
theorem q_364 : (.methodLink "WindowCopies" 142 ⟨"java/lang/Math", "min", "(II)I"⟩ : Cond) ∈ gT := gT_t 364 (by decide +kernel) rfl
theorem q_365 : (.methodLink "WindowCopies" 148 ⟨"WindowCopies$State", "likeLength", "(II)I"⟩ : Cond) ∈ gT := gT_t 365 (by decide +kernel) rfl
theorem q_366 : (.instanceMethod ⟨"WindowCopies$State", "likeLength", "(II)I"⟩ : Cond) ∈ gT := gT_t 366 (by decide +kernel) rfl
theorem q_367 : (.selects "WindowCopies$State" ⟨"WindowCopies$State", "likeLength", "(II)I"⟩ ⟨"WindowCopies$State", "likeLength", "(II)I"⟩ : Cond) ∈ gT := gT_t 367 (by decide +kernel) rfl
theorem q_369 : (.methodLink "WindowCopiesLaw" 48 ⟨"WindowCopies", "part", "(III)I"⟩ : Cond) ∈ gT := gT_t 369 (by decide +kernel) rfl
theorem q_370 : (.instanceMethod ⟨"WindowCopies", "part", "(III)I"⟩ : Cond) ∈ gT := gT_t 370 (by decide +kernel) rfl
theorem q_371 : (.selects "WindowCopies" ⟨"WindowCopies", "part", "(III)I"⟩ ⟨"WindowCopies", "part", "(III)I"⟩ : Cond) ∈ gT := gT_t 371 (by decide +kernel) rfl
theorem q_373 : (.methodLink "WindowCopies" 151 ⟨"WindowCopies", "isWay", "(I)Z"⟩ : Cond) ∈ gT := gT_t 373 (by decide +kernel) rfl
theorem q_374 : (.static ⟨"WindowCopies", "isWay", "(I)Z"⟩ : Cond) ∈ gT := gT_t 374 (by decide +kernel) rfl
theorem q_376 : (.methodLink "WindowCopies" 154 ⟨"WindowCopies$Plan", "make", "()V"⟩ : Cond) ∈ gT := gT_t 376 (by decide +kernel) rfl
theorem q_377 : (.instanceMethod ⟨"WindowCopies$Plan", "make", "()V"⟩ : Cond) ∈ gT := gT_t 377 (by decide +kernel) rfl
theorem q_378 : (.selects "WindowCopies$Plan" ⟨"WindowCopies$Plan", "make", "()V"⟩ ⟨"WindowCopies$Plan", "make", "()V"⟩ : Cond) ∈ gT := gT_t 378 (by decide +kernel) rfl
theorem q_380 : (.methodLink "WindowCopies$Plan" 48 ⟨"WindowCopies$State", "size", "()I"⟩ : Cond) ∈ gT := gT_t 380 (by decide +kernel) rfl
theorem q_382 : (.methodLink "WindowCopies$Plan" 58 ⟨"WindowCopies$Candidates", "beginBehindRow", "()V"⟩ : Cond) ∈ gT := gT_t 382 (by decide +kernel) rfl
theorem q_383 : (.methodLink "WindowCopies$Plan" 63 ⟨"WindowCopies$Candidates", "stepAhead", "()V"⟩ : Cond) ∈ gT := gT_t 383 (by decide +kernel) rfl
theorem q_384 : (.methodLink "WindowCopies$Plan" 66 ⟨"WindowCopies$Plan", "planFound", "(I)V"⟩ : Cond) ∈ gT := gT_t 384 (by decide +kernel) rfl
theorem q_386 : (.instanceMethod ⟨"WindowCopies$Plan", "planFound", "(I)V"⟩ : Cond) ∈ gT := gT_t 386 (by decide +kernel) rfl
theorem q_388 : (.methodLink "WindowCopies$Plan" 76 ⟨"WindowCopies$Candidates", "best", "()I"⟩ : Cond) ∈ gT := gT_t 388 (by decide +kernel) rfl
theorem q_389 : (.methodLink "WindowCopies$Plan" 79 ⟨"WindowCopies$Plan", "planLetter", "(II)V"⟩ : Cond) ∈ gT := gT_t 389 (by decide +kernel) rfl
theorem q_391 : (.instanceMethod ⟨"WindowCopies$Plan", "planLetter", "(II)V"⟩ : Cond) ∈ gT := gT_t 391 (by decide +kernel) rfl
theorem q_393 : (.methodLink "WindowCopies$Plan" 90 ⟨"WindowCopies$Plan", "planPart", "(IIII)V"⟩ : Cond) ∈ gT := gT_t 393 (by decide +kernel) rfl
theorem q_395 : (.instanceMethod ⟨"WindowCopies$Plan", "planPart", "(IIII)V"⟩ : Cond) ∈ gT := gT_t 395 (by decide +kernel) rfl
theorem q_397 : (.methodLink "WindowCopies$Plan" 83 ⟨"WindowCopies$Candidates", "reach", "(I)I"⟩ : Cond) ∈ gT := gT_t 397 (by decide +kernel) rfl
theorem q_398 : (.methodLink "WindowCopies$Plan" 87 ⟨"WindowCopies$Candidates", "distance", "(I)I"⟩ : Cond) ∈ gT := gT_t 398 (by decide +kernel) rfl
theorem q_399 : (.methodLink "WindowCopies$Plan" 94 ⟨"WindowCopies$State", "savingOf", "(I)I"⟩ : Cond) ∈ gT := gT_t 399 (by decide +kernel) rfl
theorem q_400 : (.methodLink "WindowCopies$Plan" 70 ⟨"WindowCopies$Plan", "planWeighed", "(I)V"⟩ : Cond) ∈ gT := gT_t 400 (by decide +kernel) rfl
theorem q_402 : (.instanceMethod ⟨"WindowCopies$Plan", "planWeighed", "(I)V"⟩ : Cond) ∈ gT := gT_t 402 (by decide +kernel) rfl
theorem q_405 : (.methodLink "WindowCopies$Plan" 101 ⟨"WindowCopies$Plan", "distanceAt", "(II)I"⟩ : Cond) ∈ gT := gT_t 405 (by decide +kernel) rfl
theorem q_406 : (.instanceMethod ⟨"WindowCopies$Plan", "distanceAt", "(II)I"⟩ : Cond) ∈ gT := gT_t 406 (by decide +kernel) rfl
theorem q_407 : (.selects "WindowCopies$Plan" ⟨"WindowCopies$Plan", "distanceAt", "(II)I"⟩ ⟨"WindowCopies$Plan", "distanceAt", "(II)I"⟩ : Cond) ∈ gT := gT_t 407 (by decide +kernel) rfl
theorem q_409 : (.methodLink "WindowCopies$Plan" 105 ⟨"WindowCopies$Plan", "lengthAt", "(II)I"⟩ : Cond) ∈ gT := gT_t 409 (by decide +kernel) rfl
theorem q_410 : (.instanceMethod ⟨"WindowCopies$Plan", "lengthAt", "(II)I"⟩ : Cond) ∈ gT := gT_t 410 (by decide +kernel) rfl
theorem q_411 : (.selects "WindowCopies$Plan" ⟨"WindowCopies$Plan", "lengthAt", "(II)I"⟩ ⟨"WindowCopies$Plan", "lengthAt", "(II)I"⟩ : Cond) ∈ gT := gT_t 411 (by decide +kernel) rfl
theorem q_413 : (.methodLink "WindowCopies$Plan" 73 ⟨"WindowCopies$Plan", "planCheapest", "(I)V"⟩ : Cond) ∈ gT := gT_t 413 (by decide +kernel) rfl
theorem q_415 : (.instanceMethod ⟨"WindowCopies$Plan", "planCheapest", "(I)V"⟩ : Cond) ∈ gT := gT_t 415 (by decide +kernel) rfl
theorem q_417 : (.methodLink "WindowCopies$Plan" 108 ⟨"WindowCopies$State", "setting", "(I)I"⟩ : Cond) ∈ gT := gT_t 417 (by decide +kernel) rfl
theorem q_418 : (.methodLink "WindowCopies$Plan" 111 ⟨"WindowCopies$Candidates", "lookedAt", "()I"⟩ : Cond) ∈ gT := gT_t 418 (by decide +kernel) rfl
theorem q_419 : (.methodLink "WindowCopies$Plan" 114 ⟨"java/lang/Math", "max", "(II)I"⟩ : Cond) ∈ gT := gT_t 419 (by decide +kernel) rfl
theorem q_420 : (.methodLink "WindowCopies" 157 ⟨"WindowCopies$Plan", "layOut", "(I)V"⟩ : Cond) ∈ gT := gT_t 420 (by decide +kernel) rfl
theorem q_421 : (.instanceMethod ⟨"WindowCopies$Plan", "layOut", "(I)V"⟩ : Cond) ∈ gT := gT_t 421 (by decide +kernel) rfl
theorem q_422 : (.selects "WindowCopies$Plan" ⟨"WindowCopies$Plan", "layOut", "(I)V"⟩ ⟨"WindowCopies$Plan", "layOut", "(I)V"⟩ : Cond) ∈ gT := gT_t 422 (by decide +kernel) rfl
theorem q_424 : (.methodLink "WindowCopies$Plan" 119 ⟨"WindowCopies$Plan", "countCopy", "(I)V"⟩ : Cond) ∈ gT := gT_t 424 (by decide +kernel) rfl
theorem q_426 : (.instanceMethod ⟨"WindowCopies$Plan", "countCopy", "(I)V"⟩ : Cond) ∈ gT := gT_t 426 (by decide +kernel) rfl
theorem q_428 : (.methodLink "WindowCopies" 160 ⟨"WindowCopies$Plan", "parts", "()I"⟩ : Cond) ∈ gT := gT_t 428 (by decide +kernel) rfl
theorem q_429 : (.instanceMethod ⟨"WindowCopies$Plan", "parts", "()I"⟩ : Cond) ∈ gT := gT_t 429 (by decide +kernel) rfl
theorem q_430 : (.selects "WindowCopies$Plan" ⟨"WindowCopies$Plan", "parts", "()I"⟩ ⟨"WindowCopies$Plan", "parts", "()I"⟩ : Cond) ∈ gT := gT_t 430 (by decide +kernel) rfl
theorem q_432 : (.methodLink "WindowCopies" 163 ⟨"WindowCopies$Plan", "beginOf", "(I)I"⟩ : Cond) ∈ gT := gT_t 432 (by decide +kernel) rfl
theorem q_433 : (.instanceMethod ⟨"WindowCopies$Plan", "beginOf", "(I)I"⟩ : Cond) ∈ gT := gT_t 433 (by decide +kernel) rfl
theorem q_434 : (.selects "WindowCopies$Plan" ⟨"WindowCopies$Plan", "beginOf", "(I)I"⟩ ⟨"WindowCopies$Plan", "beginOf", "(I)I"⟩ : Cond) ∈ gT := gT_t 434 (by decide +kernel) rfl
theorem q_436 : (.methodLink "WindowCopies" 166 ⟨"WindowCopies$Plan", "lengthAt", "(II)I"⟩ : Cond) ∈ gT := gT_t 436 (by decide +kernel) rfl
theorem q_437 : (.methodLink "WindowCopies" 169 ⟨"WindowCopies$Plan", "distanceAt", "(II)I"⟩ : Cond) ∈ gT := gT_t 437 (by decide +kernel) rfl
theorem q_438 : (.methodLink "WindowCopiesLaw" 52 ⟨"WindowCopies", "total", "(II)I"⟩ : Cond) ∈ gT := gT_t 438 (by decide +kernel) rfl
theorem q_439 : (.instanceMethod ⟨"WindowCopies", "total", "(II)I"⟩ : Cond) ∈ gT := gT_t 439 (by decide +kernel) rfl
theorem q_440 : (.selects "WindowCopies" ⟨"WindowCopies", "total", "(II)I"⟩ ⟨"WindowCopies", "total", "(II)I"⟩ : Cond) ∈ gT := gT_t 440 (by decide +kernel) rfl
theorem q_442 : (.methodLink "WindowCopies" 172 ⟨"WindowCopies$Plan", "copies", "()I"⟩ : Cond) ∈ gT := gT_t 442 (by decide +kernel) rfl
theorem q_443 : (.instanceMethod ⟨"WindowCopies$Plan", "copies", "()I"⟩ : Cond) ∈ gT := gT_t 443 (by decide +kernel) rfl
theorem q_444 : (.selects "WindowCopies$Plan" ⟨"WindowCopies$Plan", "copies", "()I"⟩ ⟨"WindowCopies$Plan", "copies", "()I"⟩ : Cond) ∈ gT := gT_t 444 (by decide +kernel) rfl
theorem q_446 : (.methodLink "WindowCopies" 175 ⟨"WindowCopies$Plan", "cost", "()I"⟩ : Cond) ∈ gT := gT_t 446 (by decide +kernel) rfl
theorem q_447 : (.instanceMethod ⟨"WindowCopies$Plan", "cost", "()I"⟩ : Cond) ∈ gT := gT_t 447 (by decide +kernel) rfl
theorem q_448 : (.selects "WindowCopies$Plan" ⟨"WindowCopies$Plan", "cost", "()I"⟩ ⟨"WindowCopies$Plan", "cost", "()I"⟩ : Cond) ∈ gT := gT_t 448 (by decide +kernel) rfl
theorem q_450 : (.methodLink "WindowCopies" 178 ⟨"WindowCopies$Plan", "copiedLetters", "()I"⟩ : Cond) ∈ gT := gT_t 450 (by decide +kernel) rfl
theorem q_451 : (.instanceMethod ⟨"WindowCopies$Plan", "copiedLetters", "()I"⟩ : Cond) ∈ gT := gT_t 451 (by decide +kernel) rfl
theorem q_452 : (.selects "WindowCopies$Plan" ⟨"WindowCopies$Plan", "copiedLetters", "()I"⟩ ⟨"WindowCopies$Plan", "copiedLetters", "()I"⟩ : Cond) ∈ gT := gT_t 452 (by decide +kernel) rfl
theorem q_454 : (.methodLink "WindowCopies" 181 ⟨"WindowCopies$Plan", "longestCopy", "()I"⟩ : Cond) ∈ gT := gT_t 454 (by decide +kernel) rfl
theorem q_455 : (.instanceMethod ⟨"WindowCopies$Plan", "longestCopy", "()I"⟩ : Cond) ∈ gT := gT_t 455 (by decide +kernel) rfl
theorem q_456 : (.selects "WindowCopies$Plan" ⟨"WindowCopies$Plan", "longestCopy", "()I"⟩ ⟨"WindowCopies$Plan", "longestCopy", "()I"⟩ : Cond) ∈ gT := gT_t 456 (by decide +kernel) rfl
theorem q_458 : (.methodLink "WindowCopiesLaw" 56 ⟨"WindowCopies", "partAt", "(II)I"⟩ : Cond) ∈ gT := gT_t 458 (by decide +kernel) rfl
theorem q_459 : (.instanceMethod ⟨"WindowCopies", "partAt", "(II)I"⟩ : Cond) ∈ gT := gT_t 459 (by decide +kernel) rfl
theorem q_460 : (.selects "WindowCopies" ⟨"WindowCopies", "partAt", "(II)I"⟩ ⟨"WindowCopies", "partAt", "(II)I"⟩ : Cond) ∈ gT := gT_t 460 (by decide +kernel) rfl
theorem q_462 : (.methodLink "WindowCopies" 184 ⟨"WindowCopies$Plan", "indexAt", "(I)I"⟩ : Cond) ∈ gT := gT_t 462 (by decide +kernel) rfl
theorem q_463 : (.instanceMethod ⟨"WindowCopies$Plan", "indexAt", "(I)I"⟩ : Cond) ∈ gT := gT_t 463 (by decide +kernel) rfl
theorem q_464 : (.selects "WindowCopies$Plan" ⟨"WindowCopies$Plan", "indexAt", "(I)I"⟩ ⟨"WindowCopies$Plan", "indexAt", "(I)I"⟩ : Cond) ∈ gT := gT_t 464 (by decide +kernel) rfl
theorem q_466 : (.methodLink "WindowCopies$Plan" 122 ⟨"WindowCopies$Plan", "beginOf", "(I)I"⟩ : Cond) ∈ gT := gT_t 466 (by decide +kernel) rfl
theorem q_467 : (.methodLink "WindowCopiesLaw" 60 ⟨"WindowCopies", "parting", "(II)I"⟩ : Cond) ∈ gT := gT_t 467 (by decide +kernel) rfl
theorem q_468 : (.instanceMethod ⟨"WindowCopies", "parting", "(II)I"⟩ : Cond) ∈ gT := gT_t 468 (by decide +kernel) rfl
theorem q_469 : (.selects "WindowCopies" ⟨"WindowCopies", "parting", "(II)I"⟩ ⟨"WindowCopies", "parting", "(II)I"⟩ : Cond) ∈ gT := gT_t 469 (by decide +kernel) rfl
theorem q_471 : (.methodLink "WindowCopies" 187 ⟨"WindowCopies$Plan", "firstUnlike", "(II)I"⟩ : Cond) ∈ gT := gT_t 471 (by decide +kernel) rfl
theorem q_472 : (.instanceMethod ⟨"WindowCopies$Plan", "firstUnlike", "(II)I"⟩ : Cond) ∈ gT := gT_t 472 (by decide +kernel) rfl
theorem q_473 : (.selects "WindowCopies$Plan" ⟨"WindowCopies$Plan", "firstUnlike", "(II)I"⟩ ⟨"WindowCopies$Plan", "firstUnlike", "(II)I"⟩ : Cond) ∈ gT := gT_t 473 (by decide +kernel) rfl
theorem q_475 : (.methodLink "WindowCopiesLaw" 64 ⟨"WindowCopies", "repeat", "(I)I"⟩ : Cond) ∈ gT := gT_t 475 (by decide +kernel) rfl
theorem q_476 : (.instanceMethod ⟨"WindowCopies", "repeat", "(I)I"⟩ : Cond) ∈ gT := gT_t 476 (by decide +kernel) rfl
theorem q_477 : (.selects "WindowCopies" ⟨"WindowCopies", "repeat", "(I)I"⟩ ⟨"WindowCopies", "repeat", "(I)I"⟩ : Cond) ∈ gT := gT_t 477 (by decide +kernel) rfl
theorem q_479 : (.methodLink "WindowCopies" 190 ⟨"WindowCopies$Stretch", "findLongest", "(LWindowCopies$State;)V"⟩ : Cond) ∈ gT := gT_t 479 (by decide +kernel) rfl
theorem q_480 : (.instanceMethod ⟨"WindowCopies$Stretch", "findLongest", "(LWindowCopies$State;)V"⟩ : Cond) ∈ gT := gT_t 480 (by decide +kernel) rfl
theorem q_481 : (.selects "WindowCopies$Stretch" ⟨"WindowCopies$Stretch", "findLongest", "(LWindowCopies$State;)V"⟩ ⟨"WindowCopies$Stretch", "findLongest", "(LWindowCopies$State;)V"⟩ : Cond) ∈ gT := gT_t 481 (by decide +kernel) rfl
theorem q_483 : (.methodLink "WindowCopies$Stretch" 19 ⟨"WindowCopies$State", "size", "()I"⟩ : Cond) ∈ gT := gT_t 483 (by decide +kernel) rfl
theorem q_484 : (.methodLink "WindowCopies$Stretch" 25 ⟨"WindowCopies$State", "likeLength", "(II)I"⟩ : Cond) ∈ gT := gT_t 484 (by decide +kernel) rfl
theorem q_485 : (.methodLink "WindowCopies" 193 ⟨"WindowCopies$Stretch", "length", "()I"⟩ : Cond) ∈ gT := gT_t 485 (by decide +kernel) rfl
theorem q_486 : (.instanceMethod ⟨"WindowCopies$Stretch", "length", "()I"⟩ : Cond) ∈ gT := gT_t 486 (by decide +kernel) rfl
theorem q_487 : (.selects "WindowCopies$Stretch" ⟨"WindowCopies$Stretch", "length", "()I"⟩ ⟨"WindowCopies$Stretch", "length", "()I"⟩ : Cond) ∈ gT := gT_t 487 (by decide +kernel) rfl
theorem q_489 : (.methodLink "WindowCopies" 196 ⟨"WindowCopies$Stretch", "former", "()I"⟩ : Cond) ∈ gT := gT_t 489 (by decide +kernel) rfl
theorem q_490 : (.instanceMethod ⟨"WindowCopies$Stretch", "former", "()I"⟩ : Cond) ∈ gT := gT_t 490 (by decide +kernel) rfl
theorem q_491 : (.selects "WindowCopies$Stretch" ⟨"WindowCopies$Stretch", "former", "()I"⟩ ⟨"WindowCopies$Stretch", "former", "()I"⟩ : Cond) ∈ gT := gT_t 491 (by decide +kernel) rfl
theorem q_493 : (.methodLink "WindowCopies" 199 ⟨"WindowCopies$Stretch", "latter", "()I"⟩ : Cond) ∈ gT := gT_t 493 (by decide +kernel) rfl
theorem q_494 : (.instanceMethod ⟨"WindowCopies$Stretch", "latter", "()I"⟩ : Cond) ∈ gT := gT_t 494 (by decide +kernel) rfl
theorem q_495 : (.selects "WindowCopies$Stretch" ⟨"WindowCopies$Stretch", "latter", "()I"⟩ ⟨"WindowCopies$Stretch", "latter", "()I"⟩ : Cond) ∈ gT := gT_t 495 (by decide +kernel) rfl
theorem q_497 : (.methodLink "WindowCopiesLaw" 68 ⟨"WindowCopies", "count", "(I)I"⟩ : Cond) ∈ gT := gT_t 497 (by decide +kernel) rfl
theorem q_498 : (.instanceMethod ⟨"WindowCopies", "count", "(I)I"⟩ : Cond) ∈ gT := gT_t 498 (by decide +kernel) rfl
theorem q_499 : (.selects "WindowCopies" ⟨"WindowCopies", "count", "(I)I"⟩ ⟨"WindowCopies", "count", "(I)I"⟩ : Cond) ∈ gT := gT_t 499 (by decide +kernel) rfl
theorem q_501 : (.methodLink "WindowCopies" 202 ⟨"WindowCopies$State", "unlikeLetters", "()I"⟩ : Cond) ∈ gT := gT_t 501 (by decide +kernel) rfl
theorem q_502 : (.instanceMethod ⟨"WindowCopies$State", "unlikeLetters", "()I"⟩ : Cond) ∈ gT := gT_t 502 (by decide +kernel) rfl
theorem q_503 : (.selects "WindowCopies$State" ⟨"WindowCopies$State", "unlikeLetters", "()I"⟩ ⟨"WindowCopies$State", "unlikeLetters", "()I"⟩ : Cond) ∈ gT := gT_t 503 (by decide +kernel) rfl
theorem q_505 : (.methodLink "WindowCopies$State" 50 ⟨"WindowCopies$State", "holds", "(I)Z"⟩ : Cond) ∈ gT := gT_t 505 (by decide +kernel) rfl
theorem q_507 : (.instanceMethod ⟨"WindowCopies$State", "holds", "(I)Z"⟩ : Cond) ∈ gT := gT_t 507 (by decide +kernel) rfl
theorem q_509 : (.methodLink "WindowCopies" 205 ⟨"WindowCopies", "cheapestWay", "()I"⟩ : Cond) ∈ gT := gT_t 509 (by decide +kernel) rfl
theorem q_511 : (.instanceMethod ⟨"WindowCopies", "cheapestWay", "()I"⟩ : Cond) ∈ gT := gT_t 511 (by decide +kernel) rfl
theorem q_513 : (.methodLink "WindowCopies" 208 ⟨"WindowCopies$History", "size", "()I"⟩ : Cond) ∈ gT := gT_t 513 (by decide +kernel) rfl
theorem q_514 : (.instanceMethod ⟨"WindowCopies$History", "size", "()I"⟩ : Cond) ∈ gT := gT_t 514 (by decide +kernel) rfl
theorem q_515 : (.selects "WindowCopies$History" ⟨"WindowCopies$History", "size", "()I"⟩ ⟨"WindowCopies$History", "size", "()I"⟩ : Cond) ∈ gT := gT_t 515 (by decide +kernel) rfl
theorem q_517 : (.methodLink "WindowCopies" 209 ⟨"WindowCopies$Text", "size", "()I"⟩ : Cond) ∈ gT := gT_t 517 (by decide +kernel) rfl
theorem q_518 : (.instanceMethod ⟨"WindowCopies$Text", "size", "()I"⟩ : Cond) ∈ gT := gT_t 518 (by decide +kernel) rfl
theorem q_519 : (.selects "WindowCopies$Text" ⟨"WindowCopies$Text", "size", "()I"⟩ ⟨"WindowCopies$Text", "size", "()I"⟩ : Cond) ∈ gT := gT_t 519 (by decide +kernel) rfl
theorem q_521 : (.methodLink "WindowCopies" 210 ⟨"WindowCopies", "settingCount", "(I)I"⟩ : Cond) ∈ gT := gT_t 521 (by decide +kernel) rfl
theorem q_523 : (.instanceMethod ⟨"WindowCopies", "settingCount", "(I)I"⟩ : Cond) ∈ gT := gT_t 523 (by decide +kernel) rfl
theorem q_525 : (.methodLink "WindowCopiesLaw" 72 ⟨"WindowCopies", "keep", "()I"⟩ : Cond) ∈ gT := gT_t 525 (by decide +kernel) rfl
theorem q_526 : (.instanceMethod ⟨"WindowCopies", "keep", "()I"⟩ : Cond) ∈ gT := gT_t 526 (by decide +kernel) rfl
theorem q_527 : (.selects "WindowCopies" ⟨"WindowCopies", "keep", "()I"⟩ ⟨"WindowCopies", "keep", "()I"⟩ : Cond) ∈ gT := gT_t 527 (by decide +kernel) rfl
theorem q_529 : (.methodLink "WindowCopies" 213 ⟨"WindowCopies$State", "copyFrom", "(LWindowCopies$State;)V"⟩ : Cond) ∈ gT := gT_t 529 (by decide +kernel) rfl
theorem q_530 : (.methodLink "WindowCopiesLaw" 77 ⟨"WindowCopies", "restore", "()I"⟩ : Cond) ∈ gT := gT_t 530 (by decide +kernel) rfl
theorem q_531 : (.instanceMethod ⟨"WindowCopies", "restore", "()I"⟩ : Cond) ∈ gT := gT_t 531 (by decide +kernel) rfl
theorem q_532 : (.selects "WindowCopies" ⟨"WindowCopies", "restore", "()I"⟩ ⟨"WindowCopies", "restore", "()I"⟩ : Cond) ∈ gT := gT_t 532 (by decide +kernel) rfl
theorem q_534 : (.methodLink "WindowCopiesLaw" 81 ⟨"WindowCopies", "undo", "()I"⟩ : Cond) ∈ gT := gT_t 534 (by decide +kernel) rfl
theorem q_535 : (.instanceMethod ⟨"WindowCopies", "undo", "()I"⟩ : Cond) ∈ gT := gT_t 535 (by decide +kernel) rfl
theorem q_536 : (.selects "WindowCopies" ⟨"WindowCopies", "undo", "()I"⟩ ⟨"WindowCopies", "undo", "()I"⟩ : Cond) ∈ gT := gT_t 536 (by decide +kernel) rfl
theorem q_538 : (.methodLink "WindowCopies" 216 ⟨"WindowCopies$History", "takeBack", "(LWindowCopies$State;)V"⟩ : Cond) ∈ gT := gT_t 538 (by decide +kernel) rfl
theorem q_539 : (.instanceMethod ⟨"WindowCopies$History", "takeBack", "(LWindowCopies$State;)V"⟩ : Cond) ∈ gT := gT_t 539 (by decide +kernel) rfl
theorem q_540 : (.selects "WindowCopies$History" ⟨"WindowCopies$History", "takeBack", "(LWindowCopies$State;)V"⟩ ⟨"WindowCopies$History", "takeBack", "(LWindowCopies$State;)V"⟩ : Cond) ∈ gT := gT_t 540 (by decide +kernel) rfl
theorem q_542 : (.methodLink "WindowCopiesLaw" 85 ⟨"WindowCopies", "type", "(I)I"⟩ : Cond) ∈ gT := gT_t 542 (by decide +kernel) rfl
theorem q_543 : (.instanceMethod ⟨"WindowCopies", "type", "(I)I"⟩ : Cond) ∈ gT := gT_t 543 (by decide +kernel) rfl
theorem q_544 : (.selects "WindowCopies" ⟨"WindowCopies", "type", "(I)I"⟩ ⟨"WindowCopies", "type", "(I)I"⟩ : Cond) ∈ gT := gT_t 544 (by decide +kernel) rfl
theorem q_546 : (.methodLink "WindowCopies" 219 ⟨"WindowCopies$Text", "append", "(I)V"⟩ : Cond) ∈ gT := gT_t 546 (by decide +kernel) rfl
theorem q_547 : (.instanceMethod ⟨"WindowCopies$Text", "append", "(I)V"⟩ : Cond) ∈ gT := gT_t 547 (by decide +kernel) rfl
theorem q_548 : (.selects "WindowCopies$Text" ⟨"WindowCopies$Text", "append", "(I)V"⟩ ⟨"WindowCopies$Text", "append", "(I)V"⟩ : Cond) ∈ gT := gT_t 548 (by decide +kernel) rfl
theorem q_551 : (.methodLink "WindowCopiesLaw" 89 ⟨"WindowCopies", "clearText", "()I"⟩ : Cond) ∈ gT := gT_t 551 (by decide +kernel) rfl
theorem q_552 : (.instanceMethod ⟨"WindowCopies", "clearText", "()I"⟩ : Cond) ∈ gT := gT_t 552 (by decide +kernel) rfl
theorem q_553 : (.selects "WindowCopies" ⟨"WindowCopies", "clearText", "()I"⟩ ⟨"WindowCopies", "clearText", "()I"⟩ : Cond) ∈ gT := gT_t 553 (by decide +kernel) rfl
theorem q_555 : (.methodLink "WindowCopies" 220 ⟨"WindowCopies$Text", "empty", "()V"⟩ : Cond) ∈ gT := gT_t 555 (by decide +kernel) rfl
theorem q_556 : (.instanceMethod ⟨"WindowCopies$Text", "empty", "()V"⟩ : Cond) ∈ gT := gT_t 556 (by decide +kernel) rfl
theorem q_557 : (.selects "WindowCopies$Text" ⟨"WindowCopies$Text", "empty", "()V"⟩ ⟨"WindowCopies$Text", "empty", "()V"⟩ : Cond) ∈ gT := gT_t 557 (by decide +kernel) rfl
theorem q_559 : (.methodLink "WindowCopiesLaw" 93 ⟨"WindowCopies", "write", "(I)I"⟩ : Cond) ∈ gT := gT_t 559 (by decide +kernel) rfl
theorem q_560 : (.instanceMethod ⟨"WindowCopies", "write", "(I)I"⟩ : Cond) ∈ gT := gT_t 560 (by decide +kernel) rfl
theorem q_561 : (.selects "WindowCopies" ⟨"WindowCopies", "write", "(I)I"⟩ ⟨"WindowCopies", "write", "(I)I"⟩ : Cond) ∈ gT := gT_t 561 (by decide +kernel) rfl
theorem q_563 : (.methodLink "WindowCopies" 223 ⟨"WindowCopies", "charactersOf", "(I)I"⟩ : Cond) ∈ gT := gT_t 563 (by decide +kernel) rfl
theorem q_565 : (.instanceMethod ⟨"WindowCopies", "charactersOf", "(I)I"⟩ : Cond) ∈ gT := gT_t 565 (by decide +kernel) rfl
theorem q_567 : (.methodLink "WindowCopies" 229 ⟨"WindowCopies$Text", "charactersOfCopy", "(II)I"⟩ : Cond) ∈ gT := gT_t 567 (by decide +kernel) rfl
theorem q_568 : (.static ⟨"WindowCopies$Text", "charactersOfCopy", "(II)I"⟩ : Cond) ∈ gT := gT_t 568 (by decide +kernel) rfl
theorem q_570 : (.methodLink "WindowCopies$Text" 34 ⟨"WindowCopies$Text", "digitsOf", "(I)I"⟩ : Cond) ∈ gT := gT_t 570 (by decide +kernel) rfl
theorem q_571 : (.static ⟨"WindowCopies$Text", "digitsOf", "(I)I"⟩ : Cond) ∈ gT := gT_t 571 (by decide +kernel) rfl
theorem q_573 : (.methodLink "WindowCopies" 226 ⟨"WindowCopies$Text", "appendCopy", "(II)V"⟩ : Cond) ∈ gT := gT_t 573 (by decide +kernel) rfl
theorem q_574 : (.instanceMethod ⟨"WindowCopies$Text", "appendCopy", "(II)V"⟩ : Cond) ∈ gT := gT_t 574 (by decide +kernel) rfl
theorem q_575 : (.selects "WindowCopies$Text" ⟨"WindowCopies$Text", "appendCopy", "(II)V"⟩ ⟨"WindowCopies$Text", "appendCopy", "(II)V"⟩ : Cond) ∈ gT := gT_t 575 (by decide +kernel) rfl
theorem q_577 : (.methodLink "WindowCopies$Text" 27 ⟨"WindowCopies$Text", "append", "(I)V"⟩ : Cond) ∈ gT := gT_t 577 (by decide +kernel) rfl
theorem q_578 : (.methodLink "WindowCopies$Text" 31 ⟨"WindowCopies$Text", "appendNumber", "(I)V"⟩ : Cond) ∈ gT := gT_t 578 (by decide +kernel) rfl
theorem q_580 : (.instanceMethod ⟨"WindowCopies$Text", "appendNumber", "(I)V"⟩ : Cond) ∈ gT := gT_t 580 (by decide +kernel) rfl
theorem q_582 : (.methodLink "WindowCopiesLaw" 97 ⟨"WindowCopies", "fault", "(I)I"⟩ : Cond) ∈ gT := gT_t 582 (by decide +kernel) rfl
theorem q_583 : (.instanceMethod ⟨"WindowCopies", "fault", "(I)I"⟩ : Cond) ∈ gT := gT_t 583 (by decide +kernel) rfl
theorem q_584 : (.selects "WindowCopies" ⟨"WindowCopies", "fault", "(I)I"⟩ ⟨"WindowCopies", "fault", "(I)I"⟩ : Cond) ∈ gT := gT_t 584 (by decide +kernel) rfl
theorem q_586 : (.methodLink "WindowCopies" 232 ⟨"WindowCopies$TextReader", "readThrough", "()V"⟩ : Cond) ∈ gT := gT_t 586 (by decide +kernel) rfl
theorem q_587 : (.instanceMethod ⟨"WindowCopies$TextReader", "readThrough", "()V"⟩ : Cond) ∈ gT := gT_t 587 (by decide +kernel) rfl
theorem q_588 : (.selects "WindowCopies$TextReader" ⟨"WindowCopies$TextReader", "readThrough", "()V"⟩ ⟨"WindowCopies$TextReader", "readThrough", "()V"⟩ : Cond) ∈ gT := gT_t 588 (by decide +kernel) rfl
theorem q_590 : (.methodLink "WindowCopies$TextReader" 35 ⟨"WindowCopies$State", "size", "()I"⟩ : Cond) ∈ gT := gT_t 590 (by decide +kernel) rfl
theorem q_591 : (.methodLink "WindowCopies$TextReader" 39 ⟨"WindowCopies$State", "shorten", "(I)V"⟩ : Cond) ∈ gT := gT_t 591 (by decide +kernel) rfl
theorem q_592 : (.methodLink "WindowCopies$TextReader" 43 ⟨"WindowCopies$Text", "size", "()I"⟩ : Cond) ∈ gT := gT_t 592 (by decide +kernel) rfl
theorem q_593 : (.methodLink "WindowCopies$TextReader" 46 ⟨"WindowCopies$TextReader", "hasFault", "()Z"⟩ : Cond) ∈ gT := gT_t 593 (by decide +kernel) rfl
theorem q_594 : (.instanceMethod ⟨"WindowCopies$TextReader", "hasFault", "()Z"⟩ : Cond) ∈ gT := gT_t 594 (by decide +kernel) rfl
theorem q_595 : (.selects "WindowCopies$TextReader" ⟨"WindowCopies$TextReader", "hasFault", "()Z"⟩ ⟨"WindowCopies$TextReader", "hasFault", "()Z"⟩ : Cond) ∈ gT := gT_t 595 (by decide +kernel) rfl
theorem q_597 : (.methodLink "WindowCopies$TextReader" 50 ⟨"WindowCopies$Text", "characterAt", "(I)I"⟩ : Cond) ∈ gT := gT_t 597 (by decide +kernel) rfl
theorem q_598 : (.instanceMethod ⟨"WindowCopies$Text", "characterAt", "(I)I"⟩ : Cond) ∈ gT := gT_t 598 (by decide +kernel) rfl
theorem q_599 : (.selects "WindowCopies$Text" ⟨"WindowCopies$Text", "characterAt", "(I)I"⟩ ⟨"WindowCopies$Text", "characterAt", "(I)I"⟩ : Cond) ∈ gT := gT_t 599 (by decide +kernel) rfl
theorem q_602 : (.methodLink "WindowCopies$TextReader" 54 ⟨"WindowCopies$TextReader", "takeCopy", "()V"⟩ : Cond) ∈ gT := gT_t 602 (by decide +kernel) rfl
theorem q_604 : (.instanceMethod ⟨"WindowCopies$TextReader", "takeCopy", "()V"⟩ : Cond) ∈ gT := gT_t 604 (by decide +kernel) rfl
theorem q_606 : (.methodLink "WindowCopies$TextReader" 71 ⟨"WindowCopies$TextReader", "takeNumber", "()I"⟩ : Cond) ∈ gT := gT_t 606 (by decide +kernel) rfl
theorem q_608 : (.instanceMethod ⟨"WindowCopies$TextReader", "takeNumber", "()I"⟩ : Cond) ∈ gT := gT_t 608 (by decide +kernel) rfl
theorem q_610 : (.methodLink "WindowCopies$TextReader" 96 ⟨"WindowCopies$TextReader", "digitAt", "(I)I"⟩ : Cond) ∈ gT := gT_t 610 (by decide +kernel) rfl
theorem q_612 : (.instanceMethod ⟨"WindowCopies$TextReader", "digitAt", "(I)I"⟩ : Cond) ∈ gT := gT_t 612 (by decide +kernel) rfl
theorem q_615 : (.methodLink "WindowCopies$TextReader" 64 ⟨"WindowCopies$TextReader", "blame", "(II)V"⟩ : Cond) ∈ gT := gT_t 615 (by decide +kernel) rfl
theorem q_617 : (.instanceMethod ⟨"WindowCopies$TextReader", "blame", "(II)V"⟩ : Cond) ∈ gT := gT_t 617 (by decide +kernel) rfl
theorem q_619 : (.methodLink "WindowCopies$TextReader" 74 ⟨"WindowCopies$TextReader", "takeSign", "(I)V"⟩ : Cond) ∈ gT := gT_t 619 (by decide +kernel) rfl
theorem q_621 : (.instanceMethod ⟨"WindowCopies$TextReader", "takeSign", "(I)V"⟩ : Cond) ∈ gT := gT_t 621 (by decide +kernel) rfl
theorem q_623 : (.methodLink "WindowCopies$TextReader" 77 ⟨"WindowCopies$TextReader", "reasonAgainst", "(II)I"⟩ : Cond) ∈ gT := gT_t 623 (by decide +kernel) rfl
theorem q_625 : (.instanceMethod ⟨"WindowCopies$TextReader", "reasonAgainst", "(II)I"⟩ : Cond) ∈ gT := gT_t 625 (by decide +kernel) rfl
theorem q_627 : (.methodLink "WindowCopies$TextReader" 84 ⟨"WindowCopies$State", "setting", "(I)I"⟩ : Cond) ∈ gT := gT_t 627 (by decide +kernel) rfl
theorem q_628 : (.methodLink "WindowCopies$TextReader" 87 ⟨"java/lang/Math", "min", "(II)I"⟩ : Cond) ∈ gT := gT_t 628 (by decide +kernel) rfl
theorem q_629 : (.methodLink "WindowCopies$TextReader" 81 ⟨"WindowCopies$State", "appendCopy", "(II)V"⟩ : Cond) ∈ gT := gT_t 629 (by decide +kernel) rfl
theorem q_630 : (.instanceMethod ⟨"WindowCopies$State", "appendCopy", "(II)V"⟩ : Cond) ∈ gT := gT_t 630 (by decide +kernel) rfl
theorem q_631 : (.selects "WindowCopies$State" ⟨"WindowCopies$State", "appendCopy", "(II)V"⟩ ⟨"WindowCopies$State", "appendCopy", "(II)V"⟩ : Cond) ∈ gT := gT_t 631 (by decide +kernel) rfl
theorem q_633 : (.methodLink "WindowCopies$State" 37 ⟨"WindowCopies$State", "append", "(I)V"⟩ : Cond) ∈ gT := gT_t 633 (by decide +kernel) rfl
theorem q_634 : (.methodLink "WindowCopies$TextReader" 57 ⟨"WindowCopies$TextReader", "takeLetter", "(I)V"⟩ : Cond) ∈ gT := gT_t 634 (by decide +kernel) rfl
theorem q_636 : (.instanceMethod ⟨"WindowCopies$TextReader", "takeLetter", "(I)V"⟩ : Cond) ∈ gT := gT_t 636 (by decide +kernel) rfl
theorem q_639 : (.methodLink "WindowCopies$TextReader" 68 ⟨"WindowCopies$State", "append", "(I)V"⟩ : Cond) ∈ gT := gT_t 639 (by decide +kernel) rfl
theorem q_640 : (.methodLink "WindowCopies" 235 ⟨"WindowCopies$TextReader", "hasFault", "()Z"⟩ : Cond) ∈ gT := gT_t 640 (by decide +kernel) rfl
theorem q_641 : (.methodLink "WindowCopies" 239 ⟨"WindowCopies$TextReader", "faultPlace", "()I"⟩ : Cond) ∈ gT := gT_t 641 (by decide +kernel) rfl
theorem q_642 : (.instanceMethod ⟨"WindowCopies$TextReader", "faultPlace", "()I"⟩ : Cond) ∈ gT := gT_t 642 (by decide +kernel) rfl
theorem q_643 : (.selects "WindowCopies$TextReader" ⟨"WindowCopies$TextReader", "faultPlace", "()I"⟩ ⟨"WindowCopies$TextReader", "faultPlace", "()I"⟩ : Cond) ∈ gT := gT_t 643 (by decide +kernel) rfl
theorem q_645 : (.methodLink "WindowCopies" 242 ⟨"WindowCopies$TextReader", "faultReason", "()I"⟩ : Cond) ∈ gT := gT_t 645 (by decide +kernel) rfl
theorem q_646 : (.instanceMethod ⟨"WindowCopies$TextReader", "faultReason", "()I"⟩ : Cond) ∈ gT := gT_t 646 (by decide +kernel) rfl
theorem q_647 : (.selects "WindowCopies$TextReader" ⟨"WindowCopies$TextReader", "faultReason", "()I"⟩ ⟨"WindowCopies$TextReader", "faultReason", "()I"⟩ : Cond) ∈ gT := gT_t 647 (by decide +kernel) rfl
theorem q_649 : (.methodLink "WindowCopiesLaw" 101 ⟨"WindowCopies", "read", "()I"⟩ : Cond) ∈ gT := gT_t 649 (by decide +kernel) rfl
theorem q_650 : (.instanceMethod ⟨"WindowCopies", "read", "()I"⟩ : Cond) ∈ gT := gT_t 650 (by decide +kernel) rfl
theorem q_651 : (.selects "WindowCopies" ⟨"WindowCopies", "read", "()I"⟩ ⟨"WindowCopies", "read", "()I"⟩ : Cond) ∈ gT := gT_t 651 (by decide +kernel) rfl
theorem q_653 : (.methodLink "WindowCopies" 245 ⟨"WindowCopies$TextReader", "told", "()LWindowCopies$State;"⟩ : Cond) ∈ gT := gT_t 653 (by decide +kernel) rfl
theorem q_654 : (.instanceMethod ⟨"WindowCopies$TextReader", "told", "()LWindowCopies$State;"⟩ : Cond) ∈ gT := gT_t 654 (by decide +kernel) rfl
theorem q_655 : (.selects "WindowCopies$TextReader" ⟨"WindowCopies$TextReader", "told", "()LWindowCopies$State;"⟩ ⟨"WindowCopies$TextReader", "told", "()LWindowCopies$State;"⟩ : Cond) ∈ gT := gT_t 655 (by decide +kernel) rfl
theorem q_657 : (.methodLink "WindowCopies" 249 ⟨"WindowCopies$State", "copyRowFrom", "(LWindowCopies$State;)V"⟩ : Cond) ∈ gT := gT_t 657 (by decide +kernel) rfl
theorem q_658 : (.classLink "WindowCopiesLaw" 10 "WindowCopiesModel" : Cond) ∈ gT := gT_t 658 (by decide +kernel) rfl
theorem q_659 : (.instantiable "WindowCopiesModel" 21 : Cond) ∈ gT := gT_t 659 (by decide +kernel) rfl
theorem q_660 : (.methodLink "WindowCopiesLaw" 12 ⟨"WindowCopiesModel", "<init>", "()V"⟩ : Cond) ∈ gT := gT_t 660 (by decide +kernel) rfl
theorem q_661 : (.instanceMethod ⟨"WindowCopiesModel", "<init>", "()V"⟩ : Cond) ∈ gT := gT_t 661 (by decide +kernel) rfl
theorem q_663 : (.methodLink "WindowCopiesModel" 1 ⟨"java/lang/Object", "<init>", "()V"⟩ : Cond) ∈ gT := gT_t 663 (by decide +kernel) rfl
theorem q_664 : (.fieldLink "WindowCopiesModel" 7 "WindowCopiesModel" "s" "[I" : Cond) ∈ gT := gT_t 664 (by decide +kernel) rfl
theorem q_665 : (.fieldLink "WindowCopiesModel" 13 "WindowCopiesModel" "past" "[I" : Cond) ∈ gT := gT_t 665 (by decide +kernel) rfl
theorem q_666 : (.fieldLink "WindowCopiesModel" 16 "WindowCopiesModel" "kept" "[I" : Cond) ∈ gT := gT_t 666 (by decide +kernel) rfl
theorem q_667 : (.fieldLink "WindowCopiesModel" 126 "WindowCopiesModel" "isKept" "Z" : Cond) ∈ gT := gT_t 667 (by decide +kernel) rfl
theorem q_668 : (.fieldLink "WindowCopiesModel" 49 "WindowCopiesModel" "pasts" "I" : Cond) ∈ gT := gT_t 668 (by decide +kernel) rfl
theorem q_669 : (.fieldLink "WindowCopiesModel" 19 "WindowCopiesModel" "text" "[I" : Cond) ∈ gT := gT_t 669 (by decide +kernel) rfl
theorem q_670 : (.fieldLink "WindowCopiesModel" 123 "WindowCopiesModel" "typed" "I" : Cond) ∈ gT := gT_t 670 (by decide +kernel) rfl
theorem q_671 : (.fieldLink "WindowCopiesModel" 22 "WindowCopiesModel" "places" "[I" : Cond) ∈ gT := gT_t 671 (by decide +kernel) rfl
theorem q_672 : (.fieldLink "WindowCopiesModel" 25 "WindowCopiesModel" "lengths" "[I" : Cond) ∈ gT := gT_t 672 (by decide +kernel) rfl
theorem q_673 : (.fieldLink "WindowCopiesModel" 28 "WindowCopiesModel" "distances" "[I" : Cond) ∈ gT := gT_t 673 (by decide +kernel) rfl
theorem q_674 : (.fieldLink "WindowCopiesModel" 98 "WindowCopiesModel" "parts" "I" : Cond) ∈ gT := gT_t 674 (by decide +kernel) rfl
theorem q_675 : (.fieldLink "WindowCopiesModel" 31 "WindowCopiesModel" "costs" "[I" : Cond) ∈ gT := gT_t 675 (by decide +kernel) rfl
theorem q_676 : (.fieldLink "WindowCopiesModel" 34 "WindowCopiesModel" "nextLength" "[I" : Cond) ∈ gT := gT_t 676 (by decide +kernel) rfl
theorem q_677 : (.fieldLink "WindowCopiesModel" 37 "WindowCopiesModel" "nextDistance" "[I" : Cond) ∈ gT := gT_t 677 (by decide +kernel) rfl
theorem q_678 : (.fieldLink "WindowCopiesModel" 40 "WindowCopiesModel" "ownLengths" "[I" : Cond) ∈ gT := gT_t 678 (by decide +kernel) rfl
theorem q_679 : (.fieldLink "WindowCopiesModel" 43 "WindowCopiesModel" "ownDistances" "[I" : Cond) ∈ gT := gT_t 679 (by decide +kernel) rfl
theorem q_680 : (.fieldLink "WindowCopiesModel" 143 "WindowCopiesModel" "spot" "I" : Cond) ∈ gT := gT_t 680 (by decide +kernel) rfl
theorem q_681 : (.fieldLink "WindowCopiesModel" 146 "WindowCopiesModel" "reason" "I" : Cond) ∈ gT := gT_t 681 (by decide +kernel) rfl
theorem q_682 : (.fieldLink "WindowCopiesModel" 152 "WindowCopiesModel" "number" "I" : Cond) ∈ gT := gT_t 682 (by decide +kernel) rfl
theorem q_683 : (.fieldLink "WindowCopiesModel" 155 "WindowCopiesModel" "told" "I" : Cond) ∈ gT := gT_t 683 (by decide +kernel) rfl
theorem q_684 : (.fieldLink "WindowCopiesModel" 46 "WindowCopiesModel" "row" "[I" : Cond) ∈ gT := gT_t 684 (by decide +kernel) rfl
theorem q_685 : (.laysFinal "WindowCopiesModel" "WindowCopiesModel" "s" "[I" : Cond) ∈ gT := gT_t 685 (by decide +kernel) rfl
theorem q_687 : (.laysFinal "WindowCopiesModel" "WindowCopiesModel" "past" "[I" : Cond) ∈ gT := gT_t 687 (by decide +kernel) rfl
theorem q_689 : (.laysFinal "WindowCopiesModel" "WindowCopiesModel" "kept" "[I" : Cond) ∈ gT := gT_t 689 (by decide +kernel) rfl
theorem q_691 : (.lays "WindowCopiesModel" "WindowCopiesModel" "isKept" "Z" : Cond) ∈ gT := gT_t 691 (by decide +kernel) rfl
theorem q_693 : (.lays "WindowCopiesModel" "WindowCopiesModel" "pasts" "I" : Cond) ∈ gT := gT_t 693 (by decide +kernel) rfl
theorem q_695 : (.laysFinal "WindowCopiesModel" "WindowCopiesModel" "text" "[I" : Cond) ∈ gT := gT_t 695 (by decide +kernel) rfl
theorem q_697 : (.lays "WindowCopiesModel" "WindowCopiesModel" "typed" "I" : Cond) ∈ gT := gT_t 697 (by decide +kernel) rfl
theorem q_699 : (.laysFinal "WindowCopiesModel" "WindowCopiesModel" "places" "[I" : Cond) ∈ gT := gT_t 699 (by decide +kernel) rfl
theorem q_701 : (.laysFinal "WindowCopiesModel" "WindowCopiesModel" "lengths" "[I" : Cond) ∈ gT := gT_t 701 (by decide +kernel) rfl
theorem q_703 : (.laysFinal "WindowCopiesModel" "WindowCopiesModel" "distances" "[I" : Cond) ∈ gT := gT_t 703 (by decide +kernel) rfl
theorem q_705 : (.lays "WindowCopiesModel" "WindowCopiesModel" "parts" "I" : Cond) ∈ gT := gT_t 705 (by decide +kernel) rfl
theorem q_707 : (.laysFinal "WindowCopiesModel" "WindowCopiesModel" "costs" "[I" : Cond) ∈ gT := gT_t 707 (by decide +kernel) rfl
theorem q_709 : (.laysFinal "WindowCopiesModel" "WindowCopiesModel" "nextLength" "[I" : Cond) ∈ gT := gT_t 709 (by decide +kernel) rfl
theorem q_711 : (.laysFinal "WindowCopiesModel" "WindowCopiesModel" "nextDistance" "[I" : Cond) ∈ gT := gT_t 711 (by decide +kernel) rfl
theorem q_713 : (.laysFinal "WindowCopiesModel" "WindowCopiesModel" "ownLengths" "[I" : Cond) ∈ gT := gT_t 713 (by decide +kernel) rfl
theorem q_715 : (.laysFinal "WindowCopiesModel" "WindowCopiesModel" "ownDistances" "[I" : Cond) ∈ gT := gT_t 715 (by decide +kernel) rfl
theorem q_717 : (.lays "WindowCopiesModel" "WindowCopiesModel" "spot" "I" : Cond) ∈ gT := gT_t 717 (by decide +kernel) rfl
theorem q_719 : (.lays "WindowCopiesModel" "WindowCopiesModel" "reason" "I" : Cond) ∈ gT := gT_t 719 (by decide +kernel) rfl
theorem q_721 : (.lays "WindowCopiesModel" "WindowCopiesModel" "number" "I" : Cond) ∈ gT := gT_t 721 (by decide +kernel) rfl
theorem q_723 : (.lays "WindowCopiesModel" "WindowCopiesModel" "told" "I" : Cond) ∈ gT := gT_t 723 (by decide +kernel) rfl
theorem q_725 : (.laysFinal "WindowCopiesModel" "WindowCopiesModel" "row" "[I" : Cond) ∈ gT := gT_t 725 (by decide +kernel) rfl
theorem q_728 : (.methodLink "WindowCopiesLaw" 17 ⟨"WindowCopiesModel", "put", "(I)I"⟩ : Cond) ∈ gT := gT_t 728 (by decide +kernel) rfl
theorem q_729 : (.instanceMethod ⟨"WindowCopiesModel", "put", "(I)I"⟩ : Cond) ∈ gT := gT_t 729 (by decide +kernel) rfl
theorem q_730 : (.selects "WindowCopiesModel" ⟨"WindowCopiesModel", "put", "(I)I"⟩ ⟨"WindowCopiesModel", "put", "(I)I"⟩ : Cond) ∈ gT := gT_t 730 (by decide +kernel) rfl
theorem q_732 : (.methodLink "WindowCopiesModel" 53 ⟨"WindowCopiesModel", "in", "(III)Z"⟩ : Cond) ∈ gT := gT_t 732 (by decide +kernel) rfl
theorem q_733 : (.static ⟨"WindowCopiesModel", "in", "(III)Z"⟩ : Cond) ∈ gT := gT_t 733 (by decide +kernel) rfl
theorem q_735 : (.methodLink "WindowCopiesModel" 57 ⟨"WindowCopiesModel", "changes", "()V"⟩ : Cond) ∈ gT := gT_t 735 (by decide +kernel) rfl
theorem q_737 : (.instanceMethod ⟨"WindowCopiesModel", "changes", "()V"⟩ : Cond) ∈ gT := gT_t 737 (by decide +kernel) rfl
theorem q_739 : (.methodLink "WindowCopiesLaw" 21 ⟨"WindowCopiesModel", "drop", "(I)I"⟩ : Cond) ∈ gT := gT_t 739 (by decide +kernel) rfl
theorem q_740 : (.instanceMethod ⟨"WindowCopiesModel", "drop", "(I)I"⟩ : Cond) ∈ gT := gT_t 740 (by decide +kernel) rfl
theorem q_741 : (.selects "WindowCopiesModel" ⟨"WindowCopiesModel", "drop", "(I)I"⟩ ⟨"WindowCopiesModel", "drop", "(I)I"⟩ : Cond) ∈ gT := gT_t 741 (by decide +kernel) rfl
theorem q_743 : (.methodLink "WindowCopiesLaw" 26 ⟨"WindowCopiesModel", "mend", "(II)I"⟩ : Cond) ∈ gT := gT_t 743 (by decide +kernel) rfl
theorem q_744 : (.instanceMethod ⟨"WindowCopiesModel", "mend", "(II)I"⟩ : Cond) ∈ gT := gT_t 744 (by decide +kernel) rfl
theorem q_745 : (.selects "WindowCopiesModel" ⟨"WindowCopiesModel", "mend", "(II)I"⟩ ⟨"WindowCopiesModel", "mend", "(II)I"⟩ : Cond) ∈ gT := gT_t 745 (by decide +kernel) rfl
theorem q_747 : (.methodLink "WindowCopiesModel" 60 ⟨"WindowCopiesModel", "isPlace", "(I)Z"⟩ : Cond) ∈ gT := gT_t 747 (by decide +kernel) rfl
theorem q_749 : (.instanceMethod ⟨"WindowCopiesModel", "isPlace", "(I)Z"⟩ : Cond) ∈ gT := gT_t 749 (by decide +kernel) rfl
theorem q_751 : (.methodLink "WindowCopiesLaw" 30 ⟨"WindowCopiesModel", "set", "(II)I"⟩ : Cond) ∈ gT := gT_t 751 (by decide +kernel) rfl
theorem q_752 : (.instanceMethod ⟨"WindowCopiesModel", "set", "(II)I"⟩ : Cond) ∈ gT := gT_t 752 (by decide +kernel) rfl
theorem q_753 : (.selects "WindowCopiesModel" ⟨"WindowCopiesModel", "set", "(II)I"⟩ ⟨"WindowCopiesModel", "set", "(II)I"⟩ : Cond) ∈ gT := gT_t 753 (by decide +kernel) rfl
theorem q_755 : (.methodLink "WindowCopiesModel" 64 ⟨"WindowCopiesModel", "least", "(I)I"⟩ : Cond) ∈ gT := gT_t 755 (by decide +kernel) rfl
theorem q_756 : (.static ⟨"WindowCopiesModel", "least", "(I)I"⟩ : Cond) ∈ gT := gT_t 756 (by decide +kernel) rfl
theorem q_758 : (.methodLink "WindowCopiesModel" 68 ⟨"WindowCopiesModel", "most", "(I)I"⟩ : Cond) ∈ gT := gT_t 758 (by decide +kernel) rfl
theorem q_759 : (.static ⟨"WindowCopiesModel", "most", "(I)I"⟩ : Cond) ∈ gT := gT_t 759 (by decide +kernel) rfl
theorem q_761 : (.methodLink "WindowCopiesLaw" 34 ⟨"WindowCopiesModel", "letter", "(I)I"⟩ : Cond) ∈ gT := gT_t 761 (by decide +kernel) rfl
theorem q_762 : (.instanceMethod ⟨"WindowCopiesModel", "letter", "(I)I"⟩ : Cond) ∈ gT := gT_t 762 (by decide +kernel) rfl
theorem q_763 : (.selects "WindowCopiesModel" ⟨"WindowCopiesModel", "letter", "(I)I"⟩ ⟨"WindowCopiesModel", "letter", "(I)I"⟩ : Cond) ∈ gT := gT_t 763 (by decide +kernel) rfl
theorem q_765 : (.methodLink "WindowCopiesLaw" 39 ⟨"WindowCopiesModel", "candidate", "(III)I"⟩ : Cond) ∈ gT := gT_t 765 (by decide +kernel) rfl
theorem q_766 : (.instanceMethod ⟨"WindowCopiesModel", "candidate", "(III)I"⟩ : Cond) ∈ gT := gT_t 766 (by decide +kernel) rfl
theorem q_767 : (.selects "WindowCopiesModel" ⟨"WindowCopiesModel", "candidate", "(III)I"⟩ ⟨"WindowCopiesModel", "candidate", "(III)I"⟩ : Cond) ∈ gT := gT_t 767 (by decide +kernel) rfl
theorem q_769 : (.methodLink "WindowCopiesModel" 79 ⟨"WindowCopiesModel", "distance", "(II)I"⟩ : Cond) ∈ gT := gT_t 769 (by decide +kernel) rfl
theorem q_771 : (.instanceMethod ⟨"WindowCopiesModel", "distance", "(II)I"⟩ : Cond) ∈ gT := gT_t 771 (by decide +kernel) rfl
theorem q_773 : (.methodLink "WindowCopiesModel" 75 ⟨"WindowCopiesModel", "isCandidate", "(II)Z"⟩ : Cond) ∈ gT := gT_t 773 (by decide +kernel) rfl
theorem q_775 : (.instanceMethod ⟨"WindowCopiesModel", "isCandidate", "(II)Z"⟩ : Cond) ∈ gT := gT_t 775 (by decide +kernel) rfl
theorem q_777 : (.methodLink "WindowCopiesModel" 71 ⟨"WindowCopiesModel", "reach", "(II)I"⟩ : Cond) ∈ gT := gT_t 777 (by decide +kernel) rfl
theorem q_779 : (.instanceMethod ⟨"WindowCopiesModel", "reach", "(II)I"⟩ : Cond) ∈ gT := gT_t 779 (by decide +kernel) rfl
theorem q_781 : (.methodLink "WindowCopiesLaw" 43 ⟨"WindowCopiesModel", "found", "(II)I"⟩ : Cond) ∈ gT := gT_t 781 (by decide +kernel) rfl
theorem q_782 : (.instanceMethod ⟨"WindowCopiesModel", "found", "(II)I"⟩ : Cond) ∈ gT := gT_t 782 (by decide +kernel) rfl
theorem q_783 : (.selects "WindowCopiesModel" ⟨"WindowCopiesModel", "found", "(II)I"⟩ ⟨"WindowCopiesModel", "found", "(II)I"⟩ : Cond) ∈ gT := gT_t 783 (by decide +kernel) rfl
theorem q_785 : (.methodLink "WindowCopiesModel" 85 ⟨"WindowCopiesModel", "candidates", "(I)I"⟩ : Cond) ∈ gT := gT_t 785 (by decide +kernel) rfl
theorem q_787 : (.instanceMethod ⟨"WindowCopiesModel", "candidates", "(I)I"⟩ : Cond) ∈ gT := gT_t 787 (by decide +kernel) rfl
theorem q_789 : (.methodLink "WindowCopiesModel" 82 ⟨"WindowCopiesModel", "best", "(I)I"⟩ : Cond) ∈ gT := gT_t 789 (by decide +kernel) rfl
theorem q_791 : (.instanceMethod ⟨"WindowCopiesModel", "best", "(I)I"⟩ : Cond) ∈ gT := gT_t 791 (by decide +kernel) rfl
theorem q_793 : (.methodLink "WindowCopiesModel" 88 ⟨"WindowCopiesModel", "saves", "(I)I"⟩ : Cond) ∈ gT := gT_t 793 (by decide +kernel) rfl
theorem q_795 : (.instanceMethod ⟨"WindowCopiesModel", "saves", "(I)I"⟩ : Cond) ∈ gT := gT_t 795 (by decide +kernel) rfl
theorem q_797 : (.methodLink "WindowCopiesLaw" 47 ⟨"WindowCopiesModel", "isCopy", "(III)I"⟩ : Cond) ∈ gT := gT_t 797 (by decide +kernel) rfl
theorem q_798 : (.instanceMethod ⟨"WindowCopiesModel", "isCopy", "(III)I"⟩ : Cond) ∈ gT := gT_t 798 (by decide +kernel) rfl
theorem q_799 : (.selects "WindowCopiesModel" ⟨"WindowCopiesModel", "isCopy", "(III)I"⟩ ⟨"WindowCopiesModel", "isCopy", "(III)I"⟩ : Cond) ∈ gT := gT_t 799 (by decide +kernel) rfl
theorem q_801 : (.methodLink "WindowCopiesLaw" 51 ⟨"WindowCopiesModel", "part", "(III)I"⟩ : Cond) ∈ gT := gT_t 801 (by decide +kernel) rfl
theorem q_802 : (.instanceMethod ⟨"WindowCopiesModel", "part", "(III)I"⟩ : Cond) ∈ gT := gT_t 802 (by decide +kernel) rfl
theorem q_803 : (.selects "WindowCopiesModel" ⟨"WindowCopiesModel", "part", "(III)I"⟩ ⟨"WindowCopiesModel", "part", "(III)I"⟩ : Cond) ∈ gT := gT_t 803 (by decide +kernel) rfl
theorem q_805 : (.methodLink "WindowCopiesModel" 104 ⟨"WindowCopiesModel", "lays", "(I)V"⟩ : Cond) ∈ gT := gT_t 805 (by decide +kernel) rfl
theorem q_807 : (.instanceMethod ⟨"WindowCopiesModel", "lays", "(I)V"⟩ : Cond) ∈ gT := gT_t 807 (by decide +kernel) rfl
theorem q_809 : (.methodLink "WindowCopiesModel" 94 ⟨"WindowCopiesModel", "weighs", "(I)V"⟩ : Cond) ∈ gT := gT_t 809 (by decide +kernel) rfl
theorem q_811 : (.instanceMethod ⟨"WindowCopiesModel", "weighs", "(I)V"⟩ : Cond) ∈ gT := gT_t 811 (by decide +kernel) rfl
theorem q_813 : (.methodLink "WindowCopiesModel" 101 ⟨"WindowCopiesModel", "takes", "(II)Z"⟩ : Cond) ∈ gT := gT_t 813 (by decide +kernel) rfl
theorem q_815 : (.instanceMethod ⟨"WindowCopiesModel", "takes", "(II)Z"⟩ : Cond) ∈ gT := gT_t 815 (by decide +kernel) rfl
theorem q_817 : (.methodLink "WindowCopiesModel" 91 ⟨"WindowCopiesModel", "savesMore", "(II)Z"⟩ : Cond) ∈ gT := gT_t 817 (by decide +kernel) rfl
theorem q_819 : (.instanceMethod ⟨"WindowCopiesModel", "savesMore", "(II)Z"⟩ : Cond) ∈ gT := gT_t 819 (by decide +kernel) rfl
theorem q_821 : (.methodLink "WindowCopiesModel" 107 ⟨"WindowCopiesModel", "cost", "(I)I"⟩ : Cond) ∈ gT := gT_t 821 (by decide +kernel) rfl
theorem q_823 : (.instanceMethod ⟨"WindowCopiesModel", "cost", "(I)I"⟩ : Cond) ∈ gT := gT_t 823 (by decide +kernel) rfl
theorem q_825 : (.methodLink "WindowCopiesLaw" 55 ⟨"WindowCopiesModel", "total", "(II)I"⟩ : Cond) ∈ gT := gT_t 825 (by decide +kernel) rfl
theorem q_826 : (.instanceMethod ⟨"WindowCopiesModel", "total", "(II)I"⟩ : Cond) ∈ gT := gT_t 826 (by decide +kernel) rfl
theorem q_827 : (.selects "WindowCopiesModel" ⟨"WindowCopiesModel", "total", "(II)I"⟩ ⟨"WindowCopiesModel", "total", "(II)I"⟩ : Cond) ∈ gT := gT_t 827 (by decide +kernel) rfl
theorem q_829 : (.methodLink "WindowCopiesModel" 110 ⟨"WindowCopiesModel", "costAll", "(I)I"⟩ : Cond) ∈ gT := gT_t 829 (by decide +kernel) rfl
theorem q_831 : (.instanceMethod ⟨"WindowCopiesModel", "costAll", "(I)I"⟩ : Cond) ∈ gT := gT_t 831 (by decide +kernel) rfl
theorem q_833 : (.methodLink "WindowCopiesLaw" 59 ⟨"WindowCopiesModel", "partAt", "(II)I"⟩ : Cond) ∈ gT := gT_t 833 (by decide +kernel) rfl
theorem q_834 : (.instanceMethod ⟨"WindowCopiesModel", "partAt", "(II)I"⟩ : Cond) ∈ gT := gT_t 834 (by decide +kernel) rfl
theorem q_835 : (.selects "WindowCopiesModel" ⟨"WindowCopiesModel", "partAt", "(II)I"⟩ ⟨"WindowCopiesModel", "partAt", "(II)I"⟩ : Cond) ∈ gT := gT_t 835 (by decide +kernel) rfl
theorem q_837 : (.methodLink "WindowCopiesLaw" 63 ⟨"WindowCopiesModel", "parting", "(II)I"⟩ : Cond) ∈ gT := gT_t 837 (by decide +kernel) rfl
theorem q_838 : (.instanceMethod ⟨"WindowCopiesModel", "parting", "(II)I"⟩ : Cond) ∈ gT := gT_t 838 (by decide +kernel) rfl
theorem q_839 : (.selects "WindowCopiesModel" ⟨"WindowCopiesModel", "parting", "(II)I"⟩ ⟨"WindowCopiesModel", "parting", "(II)I"⟩ : Cond) ∈ gT := gT_t 839 (by decide +kernel) rfl
theorem q_841 : (.methodLink "WindowCopiesLaw" 67 ⟨"WindowCopiesModel", "repeat", "(I)I"⟩ : Cond) ∈ gT := gT_t 841 (by decide +kernel) rfl
theorem q_842 : (.instanceMethod ⟨"WindowCopiesModel", "repeat", "(I)I"⟩ : Cond) ∈ gT := gT_t 842 (by decide +kernel) rfl
theorem q_843 : (.selects "WindowCopiesModel" ⟨"WindowCopiesModel", "repeat", "(I)I"⟩ ⟨"WindowCopiesModel", "repeat", "(I)I"⟩ : Cond) ∈ gT := gT_t 843 (by decide +kernel) rfl
theorem q_845 : (.methodLink "WindowCopiesModel" 113 ⟨"WindowCopiesModel", "stretch", "(II)I"⟩ : Cond) ∈ gT := gT_t 845 (by decide +kernel) rfl
theorem q_847 : (.instanceMethod ⟨"WindowCopiesModel", "stretch", "(II)I"⟩ : Cond) ∈ gT := gT_t 847 (by decide +kernel) rfl
theorem q_849 : (.methodLink "WindowCopiesLaw" 71 ⟨"WindowCopiesModel", "count", "(I)I"⟩ : Cond) ∈ gT := gT_t 849 (by decide +kernel) rfl
theorem q_850 : (.instanceMethod ⟨"WindowCopiesModel", "count", "(I)I"⟩ : Cond) ∈ gT := gT_t 850 (by decide +kernel) rfl
theorem q_851 : (.selects "WindowCopiesModel" ⟨"WindowCopiesModel", "count", "(I)I"⟩ ⟨"WindowCopiesModel", "count", "(I)I"⟩ : Cond) ∈ gT := gT_t 851 (by decide +kernel) rfl
theorem q_853 : (.methodLink "WindowCopiesModel" 116 ⟨"WindowCopiesModel", "unlike", "()I"⟩ : Cond) ∈ gT := gT_t 853 (by decide +kernel) rfl
theorem q_855 : (.instanceMethod ⟨"WindowCopiesModel", "unlike", "()I"⟩ : Cond) ∈ gT := gT_t 855 (by decide +kernel) rfl
theorem q_857 : (.methodLink "WindowCopiesModel" 120 ⟨"WindowCopiesModel", "cheapest", "()I"⟩ : Cond) ∈ gT := gT_t 857 (by decide +kernel) rfl
theorem q_859 : (.instanceMethod ⟨"WindowCopiesModel", "cheapest", "()I"⟩ : Cond) ∈ gT := gT_t 859 (by decide +kernel) rfl
theorem q_861 : (.methodLink "WindowCopiesLaw" 76 ⟨"WindowCopiesModel", "keep", "()I"⟩ : Cond) ∈ gT := gT_t 861 (by decide +kernel) rfl
theorem q_862 : (.instanceMethod ⟨"WindowCopiesModel", "keep", "()I"⟩ : Cond) ∈ gT := gT_t 862 (by decide +kernel) rfl
theorem q_863 : (.selects "WindowCopiesModel" ⟨"WindowCopiesModel", "keep", "()I"⟩ ⟨"WindowCopiesModel", "keep", "()I"⟩ : Cond) ∈ gT := gT_t 863 (by decide +kernel) rfl
theorem q_865 : (.methodLink "WindowCopiesModel" 130 ⟨"WindowCopiesModel", "copies", "([I[I)V"⟩ : Cond) ∈ gT := gT_t 865 (by decide +kernel) rfl
theorem q_866 : (.static ⟨"WindowCopiesModel", "copies", "([I[I)V"⟩ : Cond) ∈ gT := gT_t 866 (by decide +kernel) rfl
theorem q_868 : (.methodLink "WindowCopiesLaw" 80 ⟨"WindowCopiesModel", "restore", "()I"⟩ : Cond) ∈ gT := gT_t 868 (by decide +kernel) rfl
theorem q_869 : (.instanceMethod ⟨"WindowCopiesModel", "restore", "()I"⟩ : Cond) ∈ gT := gT_t 869 (by decide +kernel) rfl
theorem q_870 : (.selects "WindowCopiesModel" ⟨"WindowCopiesModel", "restore", "()I"⟩ ⟨"WindowCopiesModel", "restore", "()I"⟩ : Cond) ∈ gT := gT_t 870 (by decide +kernel) rfl
theorem q_872 : (.methodLink "WindowCopiesLaw" 84 ⟨"WindowCopiesModel", "undo", "()I"⟩ : Cond) ∈ gT := gT_t 872 (by decide +kernel) rfl
theorem q_873 : (.instanceMethod ⟨"WindowCopiesModel", "undo", "()I"⟩ : Cond) ∈ gT := gT_t 873 (by decide +kernel) rfl
theorem q_874 : (.selects "WindowCopiesModel" ⟨"WindowCopiesModel", "undo", "()I"⟩ ⟨"WindowCopiesModel", "undo", "()I"⟩ : Cond) ∈ gT := gT_t 874 (by decide +kernel) rfl
theorem q_876 : (.methodLink "WindowCopiesLaw" 88 ⟨"WindowCopiesModel", "type", "(I)I"⟩ : Cond) ∈ gT := gT_t 876 (by decide +kernel) rfl
theorem q_877 : (.instanceMethod ⟨"WindowCopiesModel", "type", "(I)I"⟩ : Cond) ∈ gT := gT_t 877 (by decide +kernel) rfl
theorem q_878 : (.selects "WindowCopiesModel" ⟨"WindowCopiesModel", "type", "(I)I"⟩ ⟨"WindowCopiesModel", "type", "(I)I"⟩ : Cond) ∈ gT := gT_t 878 (by decide +kernel) rfl
theorem q_880 : (.methodLink "WindowCopiesLaw" 92 ⟨"WindowCopiesModel", "clearText", "()I"⟩ : Cond) ∈ gT := gT_t 880 (by decide +kernel) rfl
theorem q_881 : (.instanceMethod ⟨"WindowCopiesModel", "clearText", "()I"⟩ : Cond) ∈ gT := gT_t 881 (by decide +kernel) rfl
theorem q_882 : (.selects "WindowCopiesModel" ⟨"WindowCopiesModel", "clearText", "()I"⟩ ⟨"WindowCopiesModel", "clearText", "()I"⟩ : Cond) ∈ gT := gT_t 882 (by decide +kernel) rfl
theorem q_884 : (.methodLink "WindowCopiesLaw" 96 ⟨"WindowCopiesModel", "write", "(I)I"⟩ : Cond) ∈ gT := gT_t 884 (by decide +kernel) rfl
theorem q_885 : (.instanceMethod ⟨"WindowCopiesModel", "write", "(I)I"⟩ : Cond) ∈ gT := gT_t 885 (by decide +kernel) rfl
theorem q_886 : (.selects "WindowCopiesModel" ⟨"WindowCopiesModel", "write", "(I)I"⟩ ⟨"WindowCopiesModel", "write", "(I)I"⟩ : Cond) ∈ gT := gT_t 886 (by decide +kernel) rfl
theorem q_888 : (.methodLink "WindowCopiesModel" 134 ⟨"WindowCopiesModel", "digits", "(I)I"⟩ : Cond) ∈ gT := gT_t 888 (by decide +kernel) rfl
theorem q_889 : (.static ⟨"WindowCopiesModel", "digits", "(I)I"⟩ : Cond) ∈ gT := gT_t 889 (by decide +kernel) rfl
theorem q_891 : (.methodLink "WindowCopiesModel" 137 ⟨"WindowCopiesModel", "writesSign", "(I)V"⟩ : Cond) ∈ gT := gT_t 891 (by decide +kernel) rfl
theorem q_893 : (.instanceMethod ⟨"WindowCopiesModel", "writesSign", "(I)V"⟩ : Cond) ∈ gT := gT_t 893 (by decide +kernel) rfl
theorem q_895 : (.methodLink "WindowCopiesModel" 140 ⟨"WindowCopiesModel", "writesNumber", "(I)V"⟩ : Cond) ∈ gT := gT_t 895 (by decide +kernel) rfl
theorem q_897 : (.instanceMethod ⟨"WindowCopiesModel", "writesNumber", "(I)V"⟩ : Cond) ∈ gT := gT_t 897 (by decide +kernel) rfl
theorem q_899 : (.methodLink "WindowCopiesLaw" 100 ⟨"WindowCopiesModel", "fault", "(I)I"⟩ : Cond) ∈ gT := gT_t 899 (by decide +kernel) rfl
theorem q_900 : (.instanceMethod ⟨"WindowCopiesModel", "fault", "(I)I"⟩ : Cond) ∈ gT := gT_t 900 (by decide +kernel) rfl
theorem q_901 : (.selects "WindowCopiesModel" ⟨"WindowCopiesModel", "fault", "(I)I"⟩ ⟨"WindowCopiesModel", "fault", "(I)I"⟩ : Cond) ∈ gT := gT_t 901 (by decide +kernel) rfl
theorem q_903 : (.methodLink "WindowCopiesModel" 177 ⟨"WindowCopiesModel", "isRight", "()Z"⟩ : Cond) ∈ gT := gT_t 903 (by decide +kernel) rfl
theorem q_905 : (.instanceMethod ⟨"WindowCopiesModel", "isRight", "()Z"⟩ : Cond) ∈ gT := gT_t 905 (by decide +kernel) rfl
theorem q_907 : (.methodLink "WindowCopiesModel" 149 ⟨"WindowCopiesModel", "isAt", "(II)Z"⟩ : Cond) ∈ gT := gT_t 907 (by decide +kernel) rfl
theorem q_909 : (.instanceMethod ⟨"WindowCopiesModel", "isAt", "(II)Z"⟩ : Cond) ∈ gT := gT_t 909 (by decide +kernel) rfl
theorem q_911 : (.methodLink "WindowCopiesModel" 171 ⟨"WindowCopiesModel", "readsCopy", "()Z"⟩ : Cond) ∈ gT := gT_t 911 (by decide +kernel) rfl
theorem q_913 : (.instanceMethod ⟨"WindowCopiesModel", "readsCopy", "()Z"⟩ : Cond) ∈ gT := gT_t 913 (by decide +kernel) rfl
theorem q_915 : (.methodLink "WindowCopiesModel" 158 ⟨"WindowCopiesModel", "numbered", "()Z"⟩ : Cond) ∈ gT := gT_t 915 (by decide +kernel) rfl
theorem q_917 : (.instanceMethod ⟨"WindowCopiesModel", "numbered", "()Z"⟩ : Cond) ∈ gT := gT_t 917 (by decide +kernel) rfl
theorem q_919 : (.methodLink "WindowCopiesModel" 162 ⟨"WindowCopiesModel", "fails", "(I)Z"⟩ : Cond) ∈ gT := gT_t 919 (by decide +kernel) rfl
theorem q_921 : (.instanceMethod ⟨"WindowCopiesModel", "fails", "(I)Z"⟩ : Cond) ∈ gT := gT_t 921 (by decide +kernel) rfl
theorem q_923 : (.methodLink "WindowCopiesModel" 165 ⟨"WindowCopiesModel", "sign", "(I)Z"⟩ : Cond) ∈ gT := gT_t 923 (by decide +kernel) rfl
theorem q_925 : (.instanceMethod ⟨"WindowCopiesModel", "sign", "(I)Z"⟩ : Cond) ∈ gT := gT_t 925 (by decide +kernel) rfl
theorem q_927 : (.methodLink "WindowCopiesModel" 168 ⟨"WindowCopiesModel", "wrong", "(II)I"⟩ : Cond) ∈ gT := gT_t 927 (by decide +kernel) rfl
theorem q_929 : (.instanceMethod ⟨"WindowCopiesModel", "wrong", "(II)I"⟩ : Cond) ∈ gT := gT_t 929 (by decide +kernel) rfl
theorem q_931 : (.methodLink "WindowCopiesModel" 174 ⟨"WindowCopiesModel", "readsLetter", "()Z"⟩ : Cond) ∈ gT := gT_t 931 (by decide +kernel) rfl
theorem q_933 : (.instanceMethod ⟨"WindowCopiesModel", "readsLetter", "()Z"⟩ : Cond) ∈ gT := gT_t 933 (by decide +kernel) rfl
theorem q_935 : (.methodLink "WindowCopiesLaw" 104 ⟨"WindowCopiesModel", "read", "()I"⟩ : Cond) ∈ gT := gT_t 935 (by decide +kernel) rfl
theorem q_936 : (.instanceMethod ⟨"WindowCopiesModel", "read", "()I"⟩ : Cond) ∈ gT := gT_t 936 (by decide +kernel) rfl
theorem q_937 : (.selects "WindowCopiesModel" ⟨"WindowCopiesModel", "read", "()I"⟩ ⟨"WindowCopiesModel", "read", "()I"⟩ : Cond) ∈ gT := gT_t 937 (by decide +kernel) rfl
theorem qs_0 : Cond.selects "WindowCopies$History" ⟨"WindowCopies$History", "slotOf", "(I)I"⟩ ⟨"WindowCopies$History", "slotOf", "(I)I"⟩ ∈ gT := gT_p (q := (⟨"WindowCopies$History", "slotOf", "(I)I"⟩, _)) 0 rfl
theorem qs_1 : Cond.selects "WindowCopies$History" ⟨"WindowCopies$History", "stateAt", "(I)LWindowCopies$State;"⟩ ⟨"WindowCopies$History", "stateAt", "(I)LWindowCopies$State;"⟩ ∈ gT := gT_p (q := (⟨"WindowCopies$History", "stateAt", "(I)LWindowCopies$State;"⟩, _)) 1 rfl
theorem qs_2 : Cond.selects "WindowCopies$Candidates" ⟨"WindowCopies$Candidates", "takeIn", "(II)V"⟩ ⟨"WindowCopies$Candidates", "takeIn", "(II)V"⟩ ∈ gT := gT_p (q := (⟨"WindowCopies$Candidates", "takeIn", "(II)V"⟩, _)) 2 rfl
theorem qs_3 : Cond.selects "WindowCopies$Plan" ⟨"WindowCopies$Plan", "planFound", "(I)V"⟩ ⟨"WindowCopies$Plan", "planFound", "(I)V"⟩ ∈ gT := gT_p (q := (⟨"WindowCopies$Plan", "planFound", "(I)V"⟩, _)) 3 rfl
theorem qs_4 : Cond.selects "WindowCopies$Plan" ⟨"WindowCopies$Plan", "planLetter", "(II)V"⟩ ⟨"WindowCopies$Plan", "planLetter", "(II)V"⟩ ∈ gT := gT_p (q := (⟨"WindowCopies$Plan", "planLetter", "(II)V"⟩, _)) 4 rfl
theorem qs_5 : Cond.selects "WindowCopies$Plan" ⟨"WindowCopies$Plan", "planPart", "(IIII)V"⟩ ⟨"WindowCopies$Plan", "planPart", "(IIII)V"⟩ ∈ gT := gT_p (q := (⟨"WindowCopies$Plan", "planPart", "(IIII)V"⟩, _)) 5 rfl
theorem qs_6 : Cond.selects "WindowCopies$Plan" ⟨"WindowCopies$Plan", "planWeighed", "(I)V"⟩ ⟨"WindowCopies$Plan", "planWeighed", "(I)V"⟩ ∈ gT := gT_p (q := (⟨"WindowCopies$Plan", "planWeighed", "(I)V"⟩, _)) 6 rfl
theorem qs_7 : Cond.selects "WindowCopies$Plan" ⟨"WindowCopies$Plan", "planCheapest", "(I)V"⟩ ⟨"WindowCopies$Plan", "planCheapest", "(I)V"⟩ ∈ gT := gT_p (q := (⟨"WindowCopies$Plan", "planCheapest", "(I)V"⟩, _)) 7 rfl
theorem qs_8 : Cond.selects "WindowCopies$Plan" ⟨"WindowCopies$Plan", "countCopy", "(I)V"⟩ ⟨"WindowCopies$Plan", "countCopy", "(I)V"⟩ ∈ gT := gT_p (q := (⟨"WindowCopies$Plan", "countCopy", "(I)V"⟩, _)) 8 rfl
theorem qs_9 : Cond.selects "WindowCopies$State" ⟨"WindowCopies$State", "holds", "(I)Z"⟩ ⟨"WindowCopies$State", "holds", "(I)Z"⟩ ∈ gT := gT_p (q := (⟨"WindowCopies$State", "holds", "(I)Z"⟩, _)) 9 rfl
theorem qs_10 : Cond.selects "WindowCopies" ⟨"WindowCopies", "cheapestWay", "()I"⟩ ⟨"WindowCopies", "cheapestWay", "()I"⟩ ∈ gT := gT_p (q := (⟨"WindowCopies", "cheapestWay", "()I"⟩, _)) 10 rfl
theorem qs_11 : Cond.selects "WindowCopies" ⟨"WindowCopies", "settingCount", "(I)I"⟩ ⟨"WindowCopies", "settingCount", "(I)I"⟩ ∈ gT := gT_p (q := (⟨"WindowCopies", "settingCount", "(I)I"⟩, _)) 11 rfl
theorem qs_12 : Cond.selects "WindowCopies" ⟨"WindowCopies", "charactersOf", "(I)I"⟩ ⟨"WindowCopies", "charactersOf", "(I)I"⟩ ∈ gT := gT_p (q := (⟨"WindowCopies", "charactersOf", "(I)I"⟩, _)) 12 rfl
theorem qs_13 : Cond.selects "WindowCopies$Text" ⟨"WindowCopies$Text", "appendNumber", "(I)V"⟩ ⟨"WindowCopies$Text", "appendNumber", "(I)V"⟩ ∈ gT := gT_p (q := (⟨"WindowCopies$Text", "appendNumber", "(I)V"⟩, _)) 13 rfl
theorem qs_14 : Cond.selects "WindowCopies$TextReader" ⟨"WindowCopies$TextReader", "takeCopy", "()V"⟩ ⟨"WindowCopies$TextReader", "takeCopy", "()V"⟩ ∈ gT := gT_p (q := (⟨"WindowCopies$TextReader", "takeCopy", "()V"⟩, _)) 14 rfl
theorem qs_15 : Cond.selects "WindowCopies$TextReader" ⟨"WindowCopies$TextReader", "takeNumber", "()I"⟩ ⟨"WindowCopies$TextReader", "takeNumber", "()I"⟩ ∈ gT := gT_p (q := (⟨"WindowCopies$TextReader", "takeNumber", "()I"⟩, _)) 15 rfl
theorem qs_16 : Cond.selects "WindowCopies$TextReader" ⟨"WindowCopies$TextReader", "digitAt", "(I)I"⟩ ⟨"WindowCopies$TextReader", "digitAt", "(I)I"⟩ ∈ gT := gT_p (q := (⟨"WindowCopies$TextReader", "digitAt", "(I)I"⟩, _)) 16 rfl
theorem qs_17 : Cond.selects "WindowCopies$TextReader" ⟨"WindowCopies$TextReader", "blame", "(II)V"⟩ ⟨"WindowCopies$TextReader", "blame", "(II)V"⟩ ∈ gT := gT_p (q := (⟨"WindowCopies$TextReader", "blame", "(II)V"⟩, _)) 17 rfl
theorem qs_18 : Cond.selects "WindowCopies$TextReader" ⟨"WindowCopies$TextReader", "takeSign", "(I)V"⟩ ⟨"WindowCopies$TextReader", "takeSign", "(I)V"⟩ ∈ gT := gT_p (q := (⟨"WindowCopies$TextReader", "takeSign", "(I)V"⟩, _)) 18 rfl
theorem qs_19 : Cond.selects "WindowCopies$TextReader" ⟨"WindowCopies$TextReader", "reasonAgainst", "(II)I"⟩ ⟨"WindowCopies$TextReader", "reasonAgainst", "(II)I"⟩ ∈ gT := gT_p (q := (⟨"WindowCopies$TextReader", "reasonAgainst", "(II)I"⟩, _)) 19 rfl
theorem qs_20 : Cond.selects "WindowCopies$TextReader" ⟨"WindowCopies$TextReader", "takeLetter", "(I)V"⟩ ⟨"WindowCopies$TextReader", "takeLetter", "(I)V"⟩ ∈ gT := gT_p (q := (⟨"WindowCopies$TextReader", "takeLetter", "(I)V"⟩, _)) 20 rfl
theorem qs_21 : Cond.selects "WindowCopiesModel" ⟨"WindowCopiesModel", "changes", "()V"⟩ ⟨"WindowCopiesModel", "changes", "()V"⟩ ∈ gT := gT_p (q := (⟨"WindowCopiesModel", "changes", "()V"⟩, _)) 21 rfl
theorem qs_22 : Cond.selects "WindowCopiesModel" ⟨"WindowCopiesModel", "isPlace", "(I)Z"⟩ ⟨"WindowCopiesModel", "isPlace", "(I)Z"⟩ ∈ gT := gT_p (q := (⟨"WindowCopiesModel", "isPlace", "(I)Z"⟩, _)) 22 rfl
theorem qs_23 : Cond.selects "WindowCopiesModel" ⟨"WindowCopiesModel", "distance", "(II)I"⟩ ⟨"WindowCopiesModel", "distance", "(II)I"⟩ ∈ gT := gT_p (q := (⟨"WindowCopiesModel", "distance", "(II)I"⟩, _)) 23 rfl
theorem qs_24 : Cond.selects "WindowCopiesModel" ⟨"WindowCopiesModel", "isCandidate", "(II)Z"⟩ ⟨"WindowCopiesModel", "isCandidate", "(II)Z"⟩ ∈ gT := gT_p (q := (⟨"WindowCopiesModel", "isCandidate", "(II)Z"⟩, _)) 24 rfl
theorem qs_25 : Cond.selects "WindowCopiesModel" ⟨"WindowCopiesModel", "reach", "(II)I"⟩ ⟨"WindowCopiesModel", "reach", "(II)I"⟩ ∈ gT := gT_p (q := (⟨"WindowCopiesModel", "reach", "(II)I"⟩, _)) 25 rfl
theorem qs_26 : Cond.selects "WindowCopiesModel" ⟨"WindowCopiesModel", "candidates", "(I)I"⟩ ⟨"WindowCopiesModel", "candidates", "(I)I"⟩ ∈ gT := gT_p (q := (⟨"WindowCopiesModel", "candidates", "(I)I"⟩, _)) 26 rfl
theorem qs_27 : Cond.selects "WindowCopiesModel" ⟨"WindowCopiesModel", "best", "(I)I"⟩ ⟨"WindowCopiesModel", "best", "(I)I"⟩ ∈ gT := gT_p (q := (⟨"WindowCopiesModel", "best", "(I)I"⟩, _)) 27 rfl
theorem qs_28 : Cond.selects "WindowCopiesModel" ⟨"WindowCopiesModel", "saves", "(I)I"⟩ ⟨"WindowCopiesModel", "saves", "(I)I"⟩ ∈ gT := gT_p (q := (⟨"WindowCopiesModel", "saves", "(I)I"⟩, _)) 28 rfl
theorem qs_29 : Cond.selects "WindowCopiesModel" ⟨"WindowCopiesModel", "lays", "(I)V"⟩ ⟨"WindowCopiesModel", "lays", "(I)V"⟩ ∈ gT := gT_p (q := (⟨"WindowCopiesModel", "lays", "(I)V"⟩, _)) 29 rfl
theorem qs_30 : Cond.selects "WindowCopiesModel" ⟨"WindowCopiesModel", "weighs", "(I)V"⟩ ⟨"WindowCopiesModel", "weighs", "(I)V"⟩ ∈ gT := gT_p (q := (⟨"WindowCopiesModel", "weighs", "(I)V"⟩, _)) 30 rfl
theorem qs_31 : Cond.selects "WindowCopiesModel" ⟨"WindowCopiesModel", "takes", "(II)Z"⟩ ⟨"WindowCopiesModel", "takes", "(II)Z"⟩ ∈ gT := gT_p (q := (⟨"WindowCopiesModel", "takes", "(II)Z"⟩, _)) 31 rfl
theorem qs_32 : Cond.selects "WindowCopiesModel" ⟨"WindowCopiesModel", "savesMore", "(II)Z"⟩ ⟨"WindowCopiesModel", "savesMore", "(II)Z"⟩ ∈ gT := gT_p (q := (⟨"WindowCopiesModel", "savesMore", "(II)Z"⟩, _)) 32 rfl
theorem qs_33 : Cond.selects "WindowCopiesModel" ⟨"WindowCopiesModel", "cost", "(I)I"⟩ ⟨"WindowCopiesModel", "cost", "(I)I"⟩ ∈ gT := gT_p (q := (⟨"WindowCopiesModel", "cost", "(I)I"⟩, _)) 33 rfl
theorem qs_34 : Cond.selects "WindowCopiesModel" ⟨"WindowCopiesModel", "costAll", "(I)I"⟩ ⟨"WindowCopiesModel", "costAll", "(I)I"⟩ ∈ gT := gT_p (q := (⟨"WindowCopiesModel", "costAll", "(I)I"⟩, _)) 34 rfl
theorem qs_35 : Cond.selects "WindowCopiesModel" ⟨"WindowCopiesModel", "stretch", "(II)I"⟩ ⟨"WindowCopiesModel", "stretch", "(II)I"⟩ ∈ gT := gT_p (q := (⟨"WindowCopiesModel", "stretch", "(II)I"⟩, _)) 35 rfl
theorem qs_36 : Cond.selects "WindowCopiesModel" ⟨"WindowCopiesModel", "unlike", "()I"⟩ ⟨"WindowCopiesModel", "unlike", "()I"⟩ ∈ gT := gT_p (q := (⟨"WindowCopiesModel", "unlike", "()I"⟩, _)) 36 rfl
theorem qs_37 : Cond.selects "WindowCopiesModel" ⟨"WindowCopiesModel", "cheapest", "()I"⟩ ⟨"WindowCopiesModel", "cheapest", "()I"⟩ ∈ gT := gT_p (q := (⟨"WindowCopiesModel", "cheapest", "()I"⟩, _)) 37 rfl
theorem qs_38 : Cond.selects "WindowCopiesModel" ⟨"WindowCopiesModel", "writesSign", "(I)V"⟩ ⟨"WindowCopiesModel", "writesSign", "(I)V"⟩ ∈ gT := gT_p (q := (⟨"WindowCopiesModel", "writesSign", "(I)V"⟩, _)) 38 rfl
theorem qs_39 : Cond.selects "WindowCopiesModel" ⟨"WindowCopiesModel", "writesNumber", "(I)V"⟩ ⟨"WindowCopiesModel", "writesNumber", "(I)V"⟩ ∈ gT := gT_p (q := (⟨"WindowCopiesModel", "writesNumber", "(I)V"⟩, _)) 39 rfl
theorem qs_40 : Cond.selects "WindowCopiesModel" ⟨"WindowCopiesModel", "isRight", "()Z"⟩ ⟨"WindowCopiesModel", "isRight", "()Z"⟩ ∈ gT := gT_p (q := (⟨"WindowCopiesModel", "isRight", "()Z"⟩, _)) 40 rfl
theorem qs_41 : Cond.selects "WindowCopiesModel" ⟨"WindowCopiesModel", "isAt", "(II)Z"⟩ ⟨"WindowCopiesModel", "isAt", "(II)Z"⟩ ∈ gT := gT_p (q := (⟨"WindowCopiesModel", "isAt", "(II)Z"⟩, _)) 41 rfl
theorem qs_42 : Cond.selects "WindowCopiesModel" ⟨"WindowCopiesModel", "readsCopy", "()Z"⟩ ⟨"WindowCopiesModel", "readsCopy", "()Z"⟩ ∈ gT := gT_p (q := (⟨"WindowCopiesModel", "readsCopy", "()Z"⟩, _)) 42 rfl
theorem qs_43 : Cond.selects "WindowCopiesModel" ⟨"WindowCopiesModel", "numbered", "()Z"⟩ ⟨"WindowCopiesModel", "numbered", "()Z"⟩ ∈ gT := gT_p (q := (⟨"WindowCopiesModel", "numbered", "()Z"⟩, _)) 43 rfl
theorem qs_44 : Cond.selects "WindowCopiesModel" ⟨"WindowCopiesModel", "fails", "(I)Z"⟩ ⟨"WindowCopiesModel", "fails", "(I)Z"⟩ ∈ gT := gT_p (q := (⟨"WindowCopiesModel", "fails", "(I)Z"⟩, _)) 44 rfl
theorem qs_45 : Cond.selects "WindowCopiesModel" ⟨"WindowCopiesModel", "sign", "(I)Z"⟩ ⟨"WindowCopiesModel", "sign", "(I)Z"⟩ ∈ gT := gT_p (q := (⟨"WindowCopiesModel", "sign", "(I)Z"⟩, _)) 45 rfl
theorem qs_46 : Cond.selects "WindowCopiesModel" ⟨"WindowCopiesModel", "wrong", "(II)I"⟩ ⟨"WindowCopiesModel", "wrong", "(II)I"⟩ ∈ gT := gT_p (q := (⟨"WindowCopiesModel", "wrong", "(II)I"⟩, _)) 46 rfl
theorem qs_47 : Cond.selects "WindowCopiesModel" ⟨"WindowCopiesModel", "readsLetter", "()Z"⟩ ⟨"WindowCopiesModel", "readsLetter", "()Z"⟩ ∈ gT := gT_p (q := (⟨"WindowCopiesModel", "readsLetter", "()Z"⟩, _)) 47 rfl
def F_WC : u_T := fun k => [("WindowCopies", "state", "LWindowCopies$State;", true), ("WindowCopies", "snapshot", "LWindowCopies$State;", true), ("WindowCopies", "hasSnapshot", "Z", false), ("WindowCopies", "history", "LWindowCopies$History;", true), ("WindowCopies", "candidates", "LWindowCopies$Candidates;", true), ("WindowCopies", "plan", "LWindowCopies$Plan;", true), ("WindowCopies", "stretch", "LWindowCopies$Stretch;", true), ("WindowCopies", "text", "LWindowCopies$Text;", true), ("WindowCopies", "reader", "LWindowCopies$TextReader;", true)].getD k ("", "", "", false)
def F_State : u_T := fun k => [("WindowCopies$State", "letters", "[I", true), ("WindowCopies$State", "settings", "[I", true), ("WindowCopies$State", "size", "I", false)].getD k ("", "", "", false)
def F_History : u_T := fun k => [("WindowCopies$History", "states", "[LWindowCopies$State;", true), ("WindowCopies$History", "oldest", "I", false), ("WindowCopies$History", "size", "I", false)].getD k ("", "", "", false)
def F_Cand : u_T := fun k => [("WindowCopies$Candidates", "state", "LWindowCopies$State;", true), ("WindowCopies$Candidates", "likeLengths", "[I", true), ("WindowCopies$Candidates", "distances", "[I", true), ("WindowCopies$Candidates", "place", "I", false), ("WindowCopies$Candidates", "all", "I", false), ("WindowCopies$Candidates", "lookedAt", "I", false)].getD k ("", "", "", false)
def F_Plan : u_T := fun k => [("WindowCopies$Plan", "state", "LWindowCopies$State;", true), ("WindowCopies$Plan", "candidates", "LWindowCopies$Candidates;", true), ("WindowCopies$Plan", "distances", "[I", true), ("WindowCopies$Plan", "lengths", "[I", true), ("WindowCopies$Plan", "savings", "[I", true), ("WindowCopies$Plan", "leastCosts", "[I", true), ("WindowCopies$Plan", "begins", "[I", true), ("WindowCopies$Plan", "parts", "I", false), ("WindowCopies$Plan", "copies", "I", false), ("WindowCopies$Plan", "copiedLetters", "I", false), ("WindowCopies$Plan", "longestCopy", "I", false)].getD k ("", "", "", false)
def F_Stretch : u_T := fun k => [("WindowCopies$Stretch", "length", "I", false), ("WindowCopies$Stretch", "former", "I", false), ("WindowCopies$Stretch", "latter", "I", false)].getD k ("", "", "", false)
def F_Text : u_T := fun k => [("WindowCopies$Text", "characters", "[I", true), ("WindowCopies$Text", "size", "I", false)].getD k ("", "", "", false)
def F_Reader : u_T := fun k => [("WindowCopies$TextReader", "text", "LWindowCopies$Text;", true), ("WindowCopies$TextReader", "state", "LWindowCopies$State;", true), ("WindowCopies$TextReader", "told", "LWindowCopies$State;", true), ("WindowCopies$TextReader", "next", "I", false), ("WindowCopies$TextReader", "place", "I", false), ("WindowCopies$TextReader", "reason", "I", false)].getD k ("", "", "", false)
def F_Mo : u_T := fun k => [("WindowCopiesModel", "s", "[I", true), ("WindowCopiesModel", "past", "[I", true), ("WindowCopiesModel", "kept", "[I", true), ("WindowCopiesModel", "isKept", "Z", false), ("WindowCopiesModel", "pasts", "I", false), ("WindowCopiesModel", "text", "[I", true), ("WindowCopiesModel", "typed", "I", false), ("WindowCopiesModel", "places", "[I", true), ("WindowCopiesModel", "lengths", "[I", true), ("WindowCopiesModel", "distances", "[I", true), ("WindowCopiesModel", "parts", "I", false), ("WindowCopiesModel", "costs", "[I", true), ("WindowCopiesModel", "nextLength", "[I", true), ("WindowCopiesModel", "nextDistance", "[I", true), ("WindowCopiesModel", "ownLengths", "[I", true), ("WindowCopiesModel", "ownDistances", "[I", true), ("WindowCopiesModel", "spot", "I", false), ("WindowCopiesModel", "reason", "I", false), ("WindowCopiesModel", "number", "I", false), ("WindowCopiesModel", "told", "I", false), ("WindowCopiesModel", "row", "[I", true)].getD k ("", "", "", false)
abbrev classes : List vw_C := [("WindowCopies", F_WC, 9), ("WindowCopies$State", F_State, 3), ("WindowCopies$History", F_History, 3), ("WindowCopies$Candidates", F_Cand, 6), ("WindowCopies$Plan", F_Plan, 11), ("WindowCopies$Stretch", F_Stretch, 3), ("WindowCopies$Text", F_Text, 2), ("WindowCopies$TextReader", F_Reader, 6), ("WindowCopiesModel", F_Mo, 21)]
def isRL : List (List Bool) := [[true, true, false, true, true, true, true, true, true], [true, true, false], [true, false, false], [true, true, true, false, false, false], [true, true, true, true, true, true, true, false, false, false, false], [false, false, false], [true, false], [true, true, true, false, false, false], [true, true, true, false, false, true, false, true, true, true, false, true, true, true, true, true, false, false, false, false, true]]
def tyL : List (List FieldType) := [[.object "WindowCopies$State", .object "WindowCopies$State", .boolean, .object "WindowCopies$History", .object "WindowCopies$Candidates", .object "WindowCopies$Plan", .object "WindowCopies$Stretch", .object "WindowCopies$Text", .object "WindowCopies$TextReader"], [.array .int, .array .int, .int], [.array (.object "WindowCopies$State"), .int, .int], [.object "WindowCopies$State", .array .int, .array .int, .int, .int, .int], [.object "WindowCopies$State", .object "WindowCopies$Candidates", .array .int, .array .int, .array .int, .array .int, .array .int, .int, .int, .int, .int], [.int, .int, .int], [.array .int, .int], [.object "WindowCopies$Text", .object "WindowCopies$State", .object "WindowCopies$State", .int, .int, .int], [.array .int, .array .int, .array .int, .boolean, .int, .array .int, .int, .array .int, .array .int, .array .int, .int, .array .int, .array .int, .array .int, .array .int, .array .int, .int, .int, .int, .int, .array .int]]
theorem u_WC : ∀ w ∈ u_ws "WindowCopies" F_WC 9, w ∈ gT := List.forall_mem_cons.mpr ⟨q_193, List.forall_mem_cons.mpr ⟨q_195, List.forall_mem_cons.mpr ⟨q_197, List.forall_mem_cons.mpr ⟨q_199, List.forall_mem_cons.mpr ⟨q_201, List.forall_mem_cons.mpr ⟨q_203, List.forall_mem_cons.mpr ⟨q_205, List.forall_mem_cons.mpr ⟨q_207, List.forall_mem_cons.mpr ⟨q_209, fun _ h => absurd h List.not_mem_nil⟩⟩⟩⟩⟩⟩⟩⟩⟩
theorem u_State : ∀ w ∈ u_ws "WindowCopies$State" F_State 3, w ∈ gT := List.forall_mem_cons.mpr ⟨q_36, List.forall_mem_cons.mpr ⟨q_38, List.forall_mem_cons.mpr ⟨q_40, fun _ h => absurd h List.not_mem_nil⟩⟩⟩
theorem u_History : ∀ w ∈ u_ws "WindowCopies$History" F_History 3, w ∈ gT := List.forall_mem_cons.mpr ⟨q_56, List.forall_mem_cons.mpr ⟨q_58, List.forall_mem_cons.mpr ⟨q_60, fun _ h => absurd h List.not_mem_nil⟩⟩⟩
theorem u_Cand : ∀ w ∈ u_ws "WindowCopies$Candidates" F_Cand 6, w ∈ gT := List.forall_mem_cons.mpr ⟨q_75, List.forall_mem_cons.mpr ⟨q_77, List.forall_mem_cons.mpr ⟨q_79, List.forall_mem_cons.mpr ⟨q_81, List.forall_mem_cons.mpr ⟨q_83, List.forall_mem_cons.mpr ⟨q_85, fun _ h => absurd h List.not_mem_nil⟩⟩⟩⟩⟩⟩
theorem u_Plan : ∀ w ∈ u_ws "WindowCopies$Plan" F_Plan 11, w ∈ gT := List.forall_mem_cons.mpr ⟨q_105, List.forall_mem_cons.mpr ⟨q_107, List.forall_mem_cons.mpr ⟨q_109, List.forall_mem_cons.mpr ⟨q_111, List.forall_mem_cons.mpr ⟨q_113, List.forall_mem_cons.mpr ⟨q_115, List.forall_mem_cons.mpr ⟨q_117, List.forall_mem_cons.mpr ⟨q_119, List.forall_mem_cons.mpr ⟨q_121, List.forall_mem_cons.mpr ⟨q_123, List.forall_mem_cons.mpr ⟨q_125, fun _ h => absurd h List.not_mem_nil⟩⟩⟩⟩⟩⟩⟩⟩⟩⟩⟩
theorem u_Stretch : ∀ w ∈ u_ws "WindowCopies$Stretch" F_Stretch 3, w ∈ gT := List.forall_mem_cons.mpr ⟨q_137, List.forall_mem_cons.mpr ⟨q_139, List.forall_mem_cons.mpr ⟨q_141, fun _ h => absurd h List.not_mem_nil⟩⟩⟩
theorem u_Text : ∀ w ∈ u_ws "WindowCopies$Text" F_Text 2, w ∈ gT := List.forall_mem_cons.mpr ⟨q_152, List.forall_mem_cons.mpr ⟨q_154, fun _ h => absurd h List.not_mem_nil⟩⟩
theorem u_Reader : ∀ w ∈ u_ws "WindowCopies$TextReader" F_Reader 6, w ∈ gT := List.forall_mem_cons.mpr ⟨q_171, List.forall_mem_cons.mpr ⟨q_173, List.forall_mem_cons.mpr ⟨q_175, List.forall_mem_cons.mpr ⟨q_177, List.forall_mem_cons.mpr ⟨q_179, List.forall_mem_cons.mpr ⟨q_181, fun _ h => absurd h List.not_mem_nil⟩⟩⟩⟩⟩⟩
theorem u_Mo : ∀ w ∈ u_ws "WindowCopiesModel" F_Mo 21, w ∈ gT := List.forall_mem_cons.mpr ⟨q_685, List.forall_mem_cons.mpr ⟨q_687, List.forall_mem_cons.mpr ⟨q_689, List.forall_mem_cons.mpr ⟨q_691, List.forall_mem_cons.mpr ⟨q_693, List.forall_mem_cons.mpr ⟨q_695, List.forall_mem_cons.mpr ⟨q_697, List.forall_mem_cons.mpr ⟨q_699, List.forall_mem_cons.mpr ⟨q_701, List.forall_mem_cons.mpr ⟨q_703, List.forall_mem_cons.mpr ⟨q_705, List.forall_mem_cons.mpr ⟨q_707, List.forall_mem_cons.mpr ⟨q_709, List.forall_mem_cons.mpr ⟨q_711, List.forall_mem_cons.mpr ⟨q_713, List.forall_mem_cons.mpr ⟨q_715, List.forall_mem_cons.mpr ⟨q_717, List.forall_mem_cons.mpr ⟨q_719, List.forall_mem_cons.mpr ⟨q_721, List.forall_mem_cons.mpr ⟨q_723, List.forall_mem_cons.mpr ⟨q_725, fun _ h => absurd h List.not_mem_nil⟩⟩⟩⟩⟩⟩⟩⟩⟩⟩⟩⟩⟩⟩⟩⟩⟩⟩⟩⟩⟩
def nestWs : List Cond := [.fieldLinkNest "WindowCopies$State" 22 "WindowCopies" "FIRST_VALUES" "[I" "WindowCopies", .methodLinkNest "WindowCopies$State" 25 ⟨"WindowCopies", "at", "([II)I"⟩ "WindowCopies", .methodLinkNest "WindowCopies$State" 29 ⟨"WindowCopies", "store", "([III)V"⟩ "WindowCopies", .methodLinkNest "WindowCopies" 50 ⟨"WindowCopies$Stretch", "<init>", "()V"⟩ "WindowCopies", .methodLinkNest "WindowCopies" 57 ⟨"WindowCopies$Text", "<init>", "()V"⟩ "WindowCopies", .methodLinkNest "WindowCopies$Candidates" 38 ⟨"WindowCopies", "store", "([III)V"⟩ "WindowCopies", .methodLinkNest "WindowCopies$Candidates" 55 ⟨"WindowCopies", "at", "([II)I"⟩ "WindowCopies", .methodLinkNest "WindowCopies$Plan" 54 ⟨"WindowCopies", "store", "([III)V"⟩ "WindowCopies", .methodLinkNest "WindowCopies$Plan" 97 ⟨"WindowCopies", "at", "([II)I"⟩ "WindowCopies", .methodLinkNest "WindowCopies$Text" 23 ⟨"WindowCopies", "store", "([III)V"⟩ "WindowCopies", .methodLinkNest "WindowCopies$Text" 19 ⟨"WindowCopies", "at", "([II)I"⟩ "WindowCopies", .methodLinkNest "WindowCopies$TextReader" 92 ⟨"WindowCopies", "isIn", "(III)Z"⟩ "WindowCopies", .methodLinkNest "WindowCopies$TextReader" 60 ⟨"WindowCopies", "isLetter", "(I)Z"⟩ "WindowCopies"]
end
section
/-! THE MEMORY of the two systems. All cells are made by the two constructors, one behind another, from the law's first heap on: cell k lies at b + k. A cell holds whole numbers (fields, elements) and references (to cells); the latter stay once they are set. -/
abbrev mI : Type := Nat → Int → Int
abbrev mR : Type := Nat → Nat → Option Nat
abbrev gX : Type := (Nat → ClassId) × (Nat → Nat → Nat) × ClassId × ClassId × Nat × Nat × Nat × Nat
abbrev gD (Γ : gX) : va_G := (Γ.1, Γ.2.1)
abbrev gI (Γ : gX) : ClassId := Γ.2.2.1
abbrev gS (Γ : gX) : ClassId := Γ.2.2.2.1
abbrev gb (Γ : gX) : Nat := Γ.2.2.2.2.1
abbrev gtL (Γ : gX) : Nat := Γ.2.2.2.2.2.1
abbrev gtH (Γ : gX) : Nat := Γ.2.2.2.2.2.2.1
abbrev gtF (Γ : gX) : Nat := Γ.2.2.2.2.2.2.2
def vI (z : Int) : Value := .int (Int32.ofInt z)
abbrev iR (z : Int) : Prop := -2147483648 ≤ z ∧ z < 2147483648
def rV (b : Nat) (o : Option Nat) : Value := va_rf (o.map (fun k => b + k))
def mU (M : mI) (k : Nat) (j v : Int) : mI := fun a i => if a = k ∧ i = j then v else M a i
def rU (R : mR) (k j : Nat) (v : Option Nat) : mR := fun a i => if a = k ∧ i = j then v else R a i
theorem mU_self (M : mI) (k : Nat) (j v : Int) : mU M k j v k j = v := by simp [mU]
theorem mU_cell {M : mI} {k a : Nat} {j v : Int} (h : a ≠ k) : mU M k j v a = M a := by funext i; simp [mU, h]
theorem mU_slot {M : mI} {k a : Nat} {j v i : Int} (h : i ≠ j) : mU M k j v a i = M a i := by simp [mU, h]
theorem mU_if (M : mI) (k : Nat) (j v i : Int) : mU M k j v k i = if i = j then v else M k i := by simp [mU]
theorem iR_mU {M : mI} {k : Nat} {j v : Int} (h : ∀ a i, iR (M a i)) (hv : iR v) : ∀ a i, iR (mU M k j v a i) := by
  intro a i
  unfold mU
  split
  · exact hv
  · exact h a i
/-- which cell is what: (0, n) a row of n ints, (1, ci) an object of class ci, (2, n) a row of n States -/
def dsL : List (Nat × Nat) := [(1, 0), (1, 1), (0, 60), (0, 5), (1, 1), (0, 60), (0, 5), (1, 2), (2, 4), (1, 1), (0, 60), (0, 5), (1, 1), (0, 60), (0, 5), (1, 1), (0, 60), (0, 5), (1, 1), (0, 60), (0, 5), (1, 3), (0, 61), (0, 60), (1, 4), (0, 180), (0, 180), (0, 62), (0, 61), (0, 60), (1, 5), (1, 6), (0, 120), (1, 7), (1, 1), (0, 60), (0, 5), (1, 8), (0, 66), (0, 264), (0, 66), (0, 120), (0, 60), (0, 60), (0, 60), (0, 61), (0, 60), (0, 60), (0, 60), (0, 60), (0, 60)]
def isR (ci j : Nat) : Bool := (isRL.getD ci []).getD j false
def r0L : List (List (Option Nat)) := [[some 1, some 4, none, some 7, some 21, some 24, some 30, some 31, some 33], [some 2, some 3], [], [], [some 5, some 6], [], [], [some 8], [some 9, some 12, some 15, some 18], [some 10, some 11], [], [], [some 13, some 14], [], [], [some 16, some 17], [], [], [some 19, some 20], [], [], [some 1, some 22, some 23], [], [], [some 1, some 21, some 25, some 26, some 27, some 28, some 29], [], [], [], [], [], [], [some 32], [], [some 31, some 1, some 34], [some 35, some 36], [], [], [some 38, some 39, some 40, none, none, some 41, none, some 42, some 43, some 44, none, some 45, some 46, some 47, some 48, some 49, none, none, none, none, some 50]]
def R0 : mR := fun k j => (r0L.getD k []).getD j none
def cV (Γ : gX) (R : mR) (M : mI) (ci k j : Nat) : Value := if isR ci j = true then rV (gb Γ) (R k j) else vI (M k j)
def cE (Γ : gX) (R : mR) (M : mI) (H : Heap) (k : Nat) : Prop :=
  (∀ n : Nat, dsL[k]? = some (0, n) → H[gb Γ + k]? = some (arrV (gI Γ) n (fun j => vI (M k j)))) ∧
  (∀ ci : Nat, dsL[k]? = some (1, ci) → ∃ r : vw_C, classes[ci]? = some r ∧ t_OB (gb Γ + k) (Γ.1 ci) r.2.2 (Γ.2.1 ci) H (cV Γ R M ci k)) ∧
  (∀ n : Nat, dsL[k]? = some (2, n) → H[gb Γ + k]? = some (arrV (gS Γ) n (fun j => rV (gb Γ) (R k j))))
def Hp (Γ : gX) (R : mR) (K : Nat) (M : mI) (H : Heap) : Prop := H.size = gb Γ + K ∧ (∀ k i, iR (M k i)) ∧ ∀ k : Nat, k < K → cE Γ R M H k
def gA (Γ : gX) : Nat → Prop := fun q => gb Γ ≤ q
/-- a static row of five ints that nobody writes -/
def sT (Γ : gX) (t : Nat) (n : String) (f : Int → Int) (U : State) : Prop := va_Z "WindowCopies" n "[I" (.ref t) (gA Γ) U U.heap ∧ va_T .int t 5 (fun j => vI (f j)) (gA Γ) U U.heap
def fLow (j : Int) : Int := if j = 1 then 2 else 1
def fHigh (j : Int) : Int := if j = 1 then 6 else if j = 3 then 20 else 60
def fFirst (j : Int) : Int := if j = 0 then 20 else if j = 1 then 3 else if j = 4 then 18 else 8
def Vf (Γ : gX) (U : State) : Prop := va_K (gD Γ) classes [(gI Γ, .int), (gS Γ, .object "WindowCopies$State")] U ∧ (∀ w ∈ nestWs, va_Nw w U) ∧ va_AO "WindowCopies$State" U ∧ sT Γ (gtL Γ) "LOWEST_VALUES" fLow U ∧ sT Γ (gtH Γ) "HIGHEST_VALUES" fHigh U ∧ sT Γ (gtF Γ) "FIRST_VALUES" fFirst U
theorem sT.moved {Γ : gX} {t : Nat} {n : String} {f : Int → Int} {u U : State} (h : sT Γ t n f u) (hvm : u.vm.Alike U.vm) (hh : ∀ q, q < gb Γ → U.heap[q]? = u.heap[q]?) : sT Γ t n f U := by
  have hq : ∀ a : Nat, a < u.heap.size → ¬ gA Γ a → U.heap[a]? = u.heap[a]? := fun a _ ha => hh a (Nat.not_le.mp ha)
  exact ⟨(va_Z.moved hvm h.1).kept hq, (va_T.moved hvm h.2).kept hq⟩
theorem nest_moved {s U : State} (hW : s.WarmedH U.vm) (h : ∀ w ∈ nestWs, va_Nw w s) : ∀ w ∈ nestWs, va_Nw w U := by
  intro w hw
  have h1 := h w hw
  unfold nestWs at hw
  simp only [List.mem_cons, List.not_mem_nil, or_false] at hw
  rcases hw with rfl | rfl | rfl | rfl | rfl | rfl | rfl | rfl | rfl | rfl | rfl | rfl | rfl
  all_goals first | exact va_Nw.warmF hW h1 | exact va_Nw.warmM hW h1
theorem Vf.moved {Γ : gX} {s U : State} (h : Vf Γ s) (hW : s.WarmedH U.vm) (hh : ∀ q, q < gb Γ → U.heap[q]? = s.heap[q]?) : Vf Γ U := by
  obtain ⟨h1, h2, h3, h4, h5, h6⟩ := h
  exact ⟨va_K.moved hW.alike h1, nest_moved hW h2, va_AO.moved hW.alike h3, h4.moved hW.alike hh, h5.moved hW.alike hh, h6.moved hW.alike hh⟩
theorem Vf.same {Γ : gX} {s U : State} (h : Vf Γ s) (hv : s.vm = U.vm) (hh : U.heap = s.heap) : Vf Γ U := by
  obtain ⟨h1, h2, h3, h4, h5, h6⟩ := h
  have ha : s.vm.Alike U.vm := by rw [hv]; exact Vm.Alike.refl _
  have hq : ∀ q, q < gb Γ → U.heap[q]? = s.heap[q]? := fun q _ => by rw [hh]
  refine ⟨va_K.moved ha h1, fun w hw => ?_, va_AO.moved ha h3, h4.moved ha hq, h5.moved ha hq, h6.moved ha hq⟩
  have h7 := h2 w hw
  unfold nestWs at hw
  simp only [List.mem_cons, List.not_mem_nil, or_false] at hw
  rcases hw with rfl | rfl | rfl | rfl | rfl | rfl | rfl | rfl | rfl | rfl | rfl | rfl | rfl
  all_goals exact va_Nw.same rfl hv h7
/-! the judgement: at pc, with the locals L (all of one slot), the operand stack st and the memory M, the machine comes to the end -/
abbrev XT : Type := Program × Launch × Env × Room × State × MethodId × Array Value × List Frame × Method × Code × (State → Prop)
abbrev xp (X : XT) : Program := X.1
abbrev xl (X : XT) : Launch := X.2.1
abbrev xe (X : XT) : Env := X.2.2.1
abbrev xR (X : XT) : Room := X.2.2.2.1
abbrev xs (X : XT) : State := X.2.2.2.2.1
abbrev xm (X : XT) : MethodId := X.2.2.2.2.2.1
abbrev xa (X : XT) : Array Value := X.2.2.2.2.2.2.1
abbrev xw (X : XT) : List Frame := X.2.2.2.2.2.2.2.1
abbrev xt (X : XT) : Method := X.2.2.2.2.2.2.2.2.1
abbrev xc (X : XT) : Code := X.2.2.2.2.2.2.2.2.2.1
abbrev xQ (X : XT) : State → Prop := X.2.2.2.2.2.2.2.2.2.2
abbrev ZT : Type := mR × Nat × Nat × Nat
def lh (ls : Array Slot) (nL : Nat) (L : List (Option Value)) : Prop := ls.size = nL ∧ (∀ (i : Nat) (v : Value), L[i]? = some (some v) → ls[i]? = some (.val v)) ∧ ∀ i : Nat, ls[i]? ≠ some .second ∧ ∀ v : Value, ls[i]? = some (.val v) → v.category = 1
theorem lh_store {ls : Array Slot} {nL : Nat} {L : List (Option Value)} {i : Nat} {v : Value} (h : lh ls nL L) (hi : i < nL) (hc : v.category = 1) : ∃ ls', storeLocals ls i v = some ls' ∧ lh ls' nL (L.set i (some v)) := by
  obtain ⟨h1, h2, h3⟩ := h
  have hi' : i < ls.size := by omega
  have hx : ls[i]? = some ls[i] := Array.getElem?_eq_getElem hi'
  refine ⟨ls.setIfInBounds i (.val v), ?_, by simp [h1], ?_, ?_⟩
  · have h3i := h3 i
    generalize ls[i] = x at hx
    refine storeLocals_cat1 hx hc ?_
    cases x with
    | second => exact absurd hx h3i.1
    | val old => exact h3i.2 old hx
    | unset => trivial
  · intro j w hw
    by_cases hj : i = j
    · subst hj
      by_cases hl : i < L.length
      · rw [List.getElem?_set_self hl] at hw
        cases hw
        simp [hi']
      · rw [List.getElem?_eq_none (by simpa using hl)] at hw
        cases hw
    · rw [List.getElem?_set_ne hj] at hw
      rw [Array.getElem?_setIfInBounds_ne hj]
      exact h2 j w hw
  · intro j
    by_cases hj : i = j
    · subst hj
      refine ⟨by simp [hi'], fun w hw => ?_⟩
      simp [hi'] at hw
      rw [← hw]
      exact hc
    · rw [Array.getElem?_setIfInBounds_ne hj]
      exact h3 j
theorem lh_entry (av : List Value) (n : Nat) (hc : ∀ v ∈ av, v.category = 1) (hn : av.length ≤ n) : lh ((lg_sl av ++ List.replicate (n - (lg_sl av).length) Slot.unset).toArray) n (av.map some ++ List.replicate (n - av.length) none) := by
  have e : lg_sl av = av.map Slot.val := by
    clear hn
    induction av with
    | nil => rfl
    | cons v t ih =>
      have hv : v.category = 1 := hc v List.mem_cons_self
      have ht := ih (fun w hw => hc w (List.mem_cons_of_mem _ hw))
      unfold lg_sl at ht ⊢
      simp [hv, ht]
  rw [e]
  refine ⟨by simp; omega, fun i v hv => ?_, fun i => ?_⟩
  · simp only [List.getElem?_toArray]
    by_cases hi : i < av.length
    · rw [List.getElem?_append_left (by simpa using hi)] at hv ⊢
      rw [List.getElem?_map] at hv ⊢
      cases hw : av[i]? with
      | none => rw [hw] at hv; cases hv
      | some w => rw [hw] at hv; cases hv; rfl
    · rw [List.getElem?_append_right (by simpa using hi)] at hv
      have := List.eq_of_mem_replicate (List.mem_of_getElem? hv)
      cases this
  · simp only [List.getElem?_toArray]
    by_cases hi : i < av.length
    · rw [List.getElem?_append_left (by simpa using hi), List.getElem?_map]
      cases hw : av[i]? with
      | none => exact ⟨by simp, fun v hv => by simp at hv⟩
      | some w =>
        refine ⟨by simp, fun v hv => ?_⟩
        simp at hv
        rw [← hv]
        exact hc w (List.mem_of_getElem? hw)
    · rw [List.getElem?_append_right (by simpa using hi)]
      refine ⟨fun h => ?_, fun v hv => ?_⟩
      · have := List.eq_of_mem_replicate (List.mem_of_getElem? h)
        cases this
      · have := List.eq_of_mem_replicate (List.mem_of_getElem? hv)
        cases this
def G (Γ : gX) (X : XT) (nL : Nat) (Z : ZT) (pc : Nat) (L : List (Option Value)) (st : List Value) (M : mI) : Prop :=
  ∀ (H : Heap) (locs : List Loc) (ls : Array Slot), Hp Γ Z.1 Z.2.1 M H → (∀ q, q < gb Γ → H[q]? = (xs X).heap[q]?) → (∀ q ∈ locs, gb Γ ≤ q.base) → lh ls nL L → W (xp X) (xl X) (xe X) (xR X) (xs X) (xm X) (xa X) (xw X) (xt X) (xc X) H locs Z.2.2.1 Z.2.2.2 (xQ X) (F0 (xm X) pc ls st)
def Cx (Γ : gX) (X : XT) (nL h : Nat) (cc : ByteArray) (own : String) : Prop := (xp X).tables.exec = Jvm.exec ∧ (xc X).code = cc ∧ (xc X).maxLocals = nL ∧ (xs X).vm.findClass own = some (xm X).cls ∧ (∀ w ∈ gT, w.before (xa X) (xs X) = true) ∧ (xt X).locks = false ∧ Vf Γ (xs X) ∧ h ≤ (xR X).frames ∧ 40 * h ≤ (xR X).locals
theorem i32_toInt {z : Int} (h : iR z) : (Int32.ofInt z).toInt = z := Int32.toInt_ofInt_of_le (by omega) (by omega)
theorem i32_lt {x y : Int} (hx : iR x) (hy : iR y) : Int32.ofInt x < Int32.ofInt y ↔ x < y := by rw [Int32.lt_iff_toInt_lt, i32_toInt hx, i32_toInt hy]
theorem i32_le {x y : Int} (hx : iR x) (hy : iR y) : Int32.ofInt x ≤ Int32.ofInt y ↔ x ≤ y := by rw [Int32.le_iff_toInt_le, i32_toInt hx, i32_toInt hy]
theorem i32_eq {x y : Int} (hx : iR x) (hy : iR y) : Int32.ofInt x = Int32.ofInt y ↔ x = y := by rw [← Int32.toInt_inj, i32_toInt hx, i32_toInt hy]
theorem i32_0 : (0 : Int32) = Int32.ofInt 0 := rfl
theorem i32_of (x : Int32) : vI x.toInt = .int x := by unfold vI; rw [Int32.ofInt_toInt]
theorem i32_clamp {z : Int} (h0 : 0 ≤ z) (h : z < 2147483648) : (Int32.ofInt z).toNatClampNeg = z.toNat := by
  show (Int32.ofInt z).toInt.toNat = _
  rw [i32_toInt ⟨by omega, h⟩]
theorem i32_in {z : Int} {n : Nat} (h0 : 0 ≤ z) (h : z < n) (hn : n < 2147483648) : ¬ (Int32.ofInt z < 0 ∨ n ≤ (Int32.ofInt z).toNatClampNeg) := by
  rw [i32_clamp h0 (by omega), i32_0, i32_lt ⟨by omega, by omega⟩ ⟨by omega, by omega⟩]
  omega
end
section
/-! rows: an instruction a row, over G -/
section GR
variable {Γ : gX} {X : XT} {nL h : Nat} {Z : ZT} {pc : Nat} {L : List (Option Value)} {st : List Value} {M : mI} {cc : ByteArray} {own : String}
theorem g_iconst {n : Int} (hX : Cx Γ X nL h cc own) (hdg : decode cc pc = .ok (.iconst n, 1)) (k : G Γ X nL Z (pc + 1) L (vI n :: st) M) : G Γ X nL Z pc L st M :=
  fun H locs ls h1 h2 h3 h4 => lv_iconst hX.1 hX.2.1 hdg rfl (k H locs ls h1 h2 h3 h4)
theorem g_bipush {n : Int} (hX : Cx Γ X nL h cc own) (hdg : decode cc pc = .ok (.bipush n, 2)) (hn : (Int8.ofInt n).toInt32 = Int32.ofInt n) (k : G Γ X nL Z (pc + 2) L (vI n :: st) M) : G Γ X nL Z pc L st M :=
  fun H locs ls h1 h2 h3 h4 => lv_bipush hX.1 hX.2.1 hdg hn (k H locs ls h1 h2 h3 h4)
theorem g_sipush {n : Int} (hX : Cx Γ X nL h cc own) (hdg : decode cc pc = .ok (.sipush n, 3)) (hn : (Int16.ofInt n).toInt32 = Int32.ofInt n) (k : G Γ X nL Z (pc + 3) L (vI n :: st) M) : G Γ X nL Z pc L st M :=
  fun H locs ls h1 h2 h3 h4 => lv_sipush hX.1 hX.2.1 hdg hn (k H locs ls h1 h2 h3 h4)
theorem g_iload_n {q : Fin 4} {x : Int} (hX : Cx Γ X nL h cc own) (hdg : decode cc pc = .ok (.iload_n q, 1)) (hl : L[(q : Nat)]? = some (some (vI x))) (k : G Γ X nL Z (pc + 1) L (vI x :: st) M) : G Γ X nL Z pc L st M :=
  fun H locs ls h1 h2 h3 h4 => lv_iload_n hX.1 hX.2.1 hdg rfl (h4.2.1 _ _ hl) (k H locs ls h1 h2 h3 h4)
theorem g_iload {q : Nat} {x : Int} (hX : Cx Γ X nL h cc own) (hdg : decode cc pc = .ok (.iload q, 2)) (hl : L[q]? = some (some (vI x))) (k : G Γ X nL Z (pc + 2) L (vI x :: st) M) : G Γ X nL Z pc L st M :=
  fun H locs ls h1 h2 h3 h4 => lv_iload hX.1 hX.2.1 hdg (h4.2.1 _ _ hl) (k H locs ls h1 h2 h3 h4)
theorem g_aload_n {q : Fin 4} {x : Nat} (hX : Cx Γ X nL h cc own) (hdg : decode cc pc = .ok (.aload_n q, 1)) (hl : L[(q : Nat)]? = some (some (.ref x))) (k : G Γ X nL Z (pc + 1) L (.ref x :: st) M) : G Γ X nL Z pc L st M :=
  fun H locs ls h1 h2 h3 h4 => lv_aload_n hX.1 hX.2.1 hdg rfl (h4.2.1 _ _ hl) (k H locs ls h1 h2 h3 h4)
theorem g_istore_n {q : Fin 4} {x : Int} (hX : Cx Γ X nL h cc own) (hdg : decode cc pc = .ok (.istore_n q, 1)) (hn : (q : Nat) < nL) (k : G Γ X nL Z (pc + 1) (L.set q (some (vI x))) st M) : G Γ X nL Z pc L (vI x :: st) M := by
  intro H locs ls h1 h2 h3 h4
  obtain ⟨ls', e', h'⟩ := lh_store (v := vI x) h4 hn rfl
  intro T hT Y
  obtain ⟨t, a, b⟩ := k H locs ls' h1 h2 h3 h' T hT Y
  refine ⟨t, ?_, b⟩
  have hb := hX.2.1
  have hx := hX.1
  unfold vI at e' ⊢
  jvm_step Y.here [Y.here.top, ↓top_set Y.here.top, hx, hb, hdg, e']
  exact a
theorem g_istore {q : Nat} {x : Int} (hX : Cx Γ X nL h cc own) (hdg : decode cc pc = .ok (.istore q, 2)) (hn : (q : Nat) < nL) (k : G Γ X nL Z (pc + 2) (L.set q (some (vI x))) st M) : G Γ X nL Z pc L (vI x :: st) M := by
  intro H locs ls h1 h2 h3 h4
  obtain ⟨ls', e', h'⟩ := lh_store (v := vI x) h4 hn rfl
  intro T hT Y
  obtain ⟨t, a, b⟩ := k H locs ls' h1 h2 h3 h' T hT Y
  refine ⟨t, ?_, b⟩
  have hb := hX.2.1
  have hx := hX.1
  unfold vI at e' ⊢
  jvm_step Y.here [Y.here.top, ↓top_set Y.here.top, hx, hb, hdg, e']
  exact a
theorem g_astore_n {q : Fin 4} {x : Nat} (hX : Cx Γ X nL h cc own) (hdg : decode cc pc = .ok (.astore_n q, 1)) (hn : (q : Nat) < nL) (k : G Γ X nL Z (pc + 1) (L.set q (some (.ref x))) st M) : G Γ X nL Z pc L (.ref x :: st) M := by
  intro H locs ls h1 h2 h3 h4
  obtain ⟨ls', e', h'⟩ := lh_store (v := .ref x) h4 hn rfl
  intro T hT Y
  obtain ⟨t, a, b⟩ := k H locs ls' h1 h2 h3 h' T hT Y
  refine ⟨t, ?_, b⟩
  have hb := hX.2.1
  have hx := hX.1
  jvm_step Y.here [Y.here.top, ↓top_set Y.here.top, hx, hb, hdg, e', Value.isRef]
  exact a
theorem g_iinc {i : Nat} {n x : Int} (hX : Cx Γ X nL h cc own) (hdg : decode cc pc = .ok (.iinc i n, 3)) (hl : L[i]? = some (some (vI x))) (hn : i < nL) (k : G Γ X nL Z (pc + 3) (L.set i (some (vI (x + n)))) st M) : G Γ X nL Z pc L st M := by
  intro H locs ls h1 h2 h3 h4
  obtain ⟨ls', e', h'⟩ := lh_store (v := vI (x + n)) h4 hn rfl
  have hg : ls[i]? = some (.val (.int (Int32.ofInt x))) := h4.2.1 _ _ hl
  intro T hT Y
  obtain ⟨t, a, b⟩ := k H locs ls' h1 h2 h3 h' T hT Y
  refine ⟨t, ?_, b⟩
  have hb := hX.2.1
  have hx := hX.1
  unfold vI at e'
  rw [Int32.ofInt_add] at e'
  jvm_step Y.here [Y.here.top, ↓top_set Y.here.top, hx, hb, hdg, hg, e']
  exact a
theorem g_iadd {x y : Int} (hX : Cx Γ X nL h cc own) (hdg : decode cc pc = .ok (.iadd, 1)) (k : G Γ X nL Z (pc + 1) L (vI (x + y) :: st) M) : G Γ X nL Z pc L (vI y :: vI x :: st) M := by
  intro H locs ls h1 h2 h3 h4
  have k' := k H locs ls h1 h2 h3 h4
  unfold vI at k'
  rw [Int32.ofInt_add] at k'
  exact lv_iadd hX.1 hX.2.1 hdg k'
theorem g_isub {x y : Int} (hX : Cx Γ X nL h cc own) (hdg : decode cc pc = .ok (.isub, 1)) (k : G Γ X nL Z (pc + 1) L (vI (x - y) :: st) M) : G Γ X nL Z pc L (vI y :: vI x :: st) M := by
  intro H locs ls h1 h2 h3 h4
  have k' := k H locs ls h1 h2 h3 h4
  unfold vI at k'
  rw [Int32.ofInt_sub] at k'
  exact lv_isub hX.1 hX.2.1 hdg k'
theorem g_imul {x y : Int} (hX : Cx Γ X nL h cc own) (hdg : decode cc pc = .ok (.imul, 1)) (k : G Γ X nL Z (pc + 1) L (vI (x * y) :: st) M) : G Γ X nL Z pc L (vI y :: vI x :: st) M := by
  intro H locs ls h1 h2 h3 h4
  have k' := k H locs ls h1 h2 h3 h4
  unfold vI at k'
  rw [Int32.ofInt_mul] at k'
  exact lv_imul hX.1 hX.2.1 hdg k'
theorem i32_div {x y : Int} (hx : 0 ≤ x ∧ x < 2147483648) (hy : 0 < y ∧ y < 2147483648) : Int32.ofInt x / Int32.ofInt y = Int32.ofInt (x / y) := by
  have h1 : 0 ≤ x / y := Int.ediv_nonneg hx.1 (by omega)
  have h2 : x / y ≤ x := Int.ediv_le_self y hx.1
  rw [← Int32.toInt_inj, i32_toInt ⟨by omega, by omega⟩, Int32.toInt_div_of_ne_right _ _ (by rw [Ne, show (-1 : Int32) = Int32.ofInt (-1) from rfl, i32_eq ⟨by omega, by omega⟩ ⟨by omega, by omega⟩]; omega), i32_toInt ⟨by omega, by omega⟩, i32_toInt ⟨by omega, by omega⟩]
  exact Int.tdiv_eq_ediv_of_nonneg hx.1
theorem g_idiv {x y : Int} (hX : Cx Γ X nL h cc own) (hx : 0 ≤ x ∧ x < 2147483648) (hy : 0 < y ∧ y < 2147483648) (hdg : decode cc pc = .ok (.idiv, 1)) (k : G Γ X nL Z (pc + 1) L (vI (x / y) :: st) M) : G Γ X nL Z pc L (vI y :: vI x :: st) M := by
  intro H locs ls h1 h2 h3 h4
  have k' := k H locs ls h1 h2 h3 h4
  unfold vI at k'
  rw [← i32_div hx hy] at k'
  exact lv_idiv hX.1 hX.2.1 hdg (by rw [i32_0, i32_eq ⟨by omega, by omega⟩ ⟨by omega, by omega⟩]; omega) k'
theorem g_irem {x y : Int} (hX : Cx Γ X nL h cc own) (hx : 0 ≤ x ∧ x < 2147483648) (hy : 0 < y ∧ y < 2147483648) (hdg : decode cc pc = .ok (.irem, 1)) (k : G Γ X nL Z (pc + 1) L (vI (x % y) :: st) M) : G Γ X nL Z pc L (vI y :: vI x :: st) M := by
  intro H locs ls h1 h2 h3 h4
  have k' := k H locs ls h1 h2 h3 h4
  unfold vI at k'
  have e : x % y = x - x / y * y := by rw [Int.mul_comm]; exact Int.emod_def x y
  rw [e, Int32.ofInt_sub, Int32.ofInt_mul, ← i32_div hx hy] at k'
  exact lv_irem hX.1 hX.2.1 hdg (by rw [i32_0, i32_eq ⟨by omega, by omega⟩ ⟨by omega, by omega⟩]; omega) k'
theorem g_dup {v : Value} (hX : Cx Γ X nL h cc own) (hdg : decode cc pc = .ok (.dup, 1)) (hc : v.category = 1) (k : G Γ X nL Z (pc + 1) L (v :: v :: st) M) : G Γ X nL Z pc L (v :: st) M :=
  fun H locs ls h1 h2 h3 h4 => lv_dup hX.1 hX.2.1 hdg hc (k H locs ls h1 h2 h3 h4)
theorem g_dup2 {v w : Value} (hX : Cx Γ X nL h cc own) (hdg : decode cc pc = .ok (.dup2, 1)) (hc : v.category = 1) (hd : w.category = 1) (k : G Γ X nL Z (pc + 1) L (v :: w :: v :: w :: st) M) : G Γ X nL Z pc L (v :: w :: st) M :=
  fun H locs ls h1 h2 h3 h4 => lv_dup2_11 hX.1 hX.2.1 hdg hc hd (k H locs ls h1 h2 h3 h4)
theorem g_goto {off : Int} (tgt : Nat) (hX : Cx Γ X nL h cc own) (hdg : decode cc pc = .ok (.goto off, 3)) (ht : (pc : Int) + off = (tgt : Int)) (k : G Γ X nL Z tgt L st M) : G Γ X nL Z pc L st M :=
  fun H locs ls h1 h2 h3 h4 => lv_goto hX.1 hX.2.1 hdg ht (k H locs ls h1 h2 h3 h4)
theorem g_if_eq {x off : Int} (tgt : Nat) (hX : Cx Γ X nL h cc own) (hdg : decode cc pc = .ok (.ifCond .eq off, 3)) (ht : (pc : Int) + off = (tgt : Int)) (hx : iR x) (kt : x = 0 → G Γ X nL Z tgt L st M) (kf : x ≠ 0 → G Γ X nL Z (pc + 3) L st M) : G Γ X nL Z pc L (vI x :: st) M :=
  fun H locs ls h1 h2 h3 h4 => lv_if_eq hX.1 hX.2.1 hdg ht (fun q => kt ((i32_eq hx ⟨by omega, by omega⟩).mp (by rw [q, i32_0])) H locs ls h1 h2 h3 h4) (fun q => kf (fun e => q (by rw [e, i32_0])) H locs ls h1 h2 h3 h4)
theorem g_if_ne {x off : Int} (tgt : Nat) (hX : Cx Γ X nL h cc own) (hdg : decode cc pc = .ok (.ifCond .ne off, 3)) (ht : (pc : Int) + off = (tgt : Int)) (hx : iR x) (kt : x ≠ 0 → G Γ X nL Z tgt L st M) (kf : x = 0 → G Γ X nL Z (pc + 3) L st M) : G Γ X nL Z pc L (vI x :: st) M :=
  fun H locs ls h1 h2 h3 h4 => lv_if_ne hX.1 hX.2.1 hdg ht (fun q => kt (fun e => q (by rw [e, i32_0])) H locs ls h1 h2 h3 h4) (fun q => kf ((i32_eq hx ⟨by omega, by omega⟩).mp (by rw [q, i32_0])) H locs ls h1 h2 h3 h4)
theorem g_if_lt {x off : Int} (tgt : Nat) (hX : Cx Γ X nL h cc own) (hdg : decode cc pc = .ok (.ifCond .lt off, 3)) (ht : (pc : Int) + off = (tgt : Int)) (hx : iR x) (kt : x < 0 → G Γ X nL Z tgt L st M) (kf : 0 ≤ x → G Γ X nL Z (pc + 3) L st M) : G Γ X nL Z pc L (vI x :: st) M :=
  fun H locs ls h1 h2 h3 h4 => lv_if_lt hX.1 hX.2.1 hdg ht (fun q => kt (by rw [i32_0, i32_lt hx ⟨by omega, by omega⟩] at q; exact q) H locs ls h1 h2 h3 h4) (fun q => kf (by rw [i32_0, i32_lt hx ⟨by omega, by omega⟩] at q; omega) H locs ls h1 h2 h3 h4)
theorem g_if_ge {x off : Int} (tgt : Nat) (hX : Cx Γ X nL h cc own) (hdg : decode cc pc = .ok (.ifCond .ge off, 3)) (ht : (pc : Int) + off = (tgt : Int)) (hx : iR x) (kt : 0 ≤ x → G Γ X nL Z tgt L st M) (kf : x < 0 → G Γ X nL Z (pc + 3) L st M) : G Γ X nL Z pc L (vI x :: st) M :=
  fun H locs ls h1 h2 h3 h4 => lv_if_ge hX.1 hX.2.1 hdg ht (fun q => kt (by first | (rw [i32_0, i32_le ⟨by omega, by omega⟩ hx] at q; exact q) | (rw [i32_0, i32_lt hx ⟨by omega, by omega⟩] at q; omega)) H locs ls h1 h2 h3 h4) (fun q => kf (by first | (rw [i32_0, i32_le ⟨by omega, by omega⟩ hx] at q; omega) | (rw [i32_0, i32_lt hx ⟨by omega, by omega⟩] at q; omega)) H locs ls h1 h2 h3 h4)
theorem g_if_gt {x off : Int} (tgt : Nat) (hX : Cx Γ X nL h cc own) (hdg : decode cc pc = .ok (.ifCond .gt off, 3)) (ht : (pc : Int) + off = (tgt : Int)) (hx : iR x) (kt : 0 < x → G Γ X nL Z tgt L st M) (kf : x ≤ 0 → G Γ X nL Z (pc + 3) L st M) : G Γ X nL Z pc L (vI x :: st) M :=
  fun H locs ls h1 h2 h3 h4 => lv_if_gt hX.1 hX.2.1 hdg ht (fun q => kt (by first | (rw [i32_0, i32_lt ⟨by omega, by omega⟩ hx] at q; exact q) | (rw [i32_0, i32_le hx ⟨by omega, by omega⟩] at q; omega)) H locs ls h1 h2 h3 h4) (fun q => kf (by first | (rw [i32_0, i32_lt ⟨by omega, by omega⟩ hx] at q; omega) | (rw [i32_0, i32_le hx ⟨by omega, by omega⟩] at q; omega)) H locs ls h1 h2 h3 h4)
theorem g_if_le {x off : Int} (tgt : Nat) (hX : Cx Γ X nL h cc own) (hdg : decode cc pc = .ok (.ifCond .le off, 3)) (ht : (pc : Int) + off = (tgt : Int)) (hx : iR x) (kt : x ≤ 0 → G Γ X nL Z tgt L st M) (kf : 0 < x → G Γ X nL Z (pc + 3) L st M) : G Γ X nL Z pc L (vI x :: st) M :=
  fun H locs ls h1 h2 h3 h4 => lv_if_le hX.1 hX.2.1 hdg ht (fun q => kt (by first | (rw [i32_0, i32_le hx ⟨by omega, by omega⟩] at q; omega) | (rw [i32_0, i32_lt ⟨by omega, by omega⟩ hx] at q; omega)) H locs ls h1 h2 h3 h4) (fun q => kf (by first | (rw [i32_0, i32_le hx ⟨by omega, by omega⟩] at q; omega) | (rw [i32_0, i32_lt ⟨by omega, by omega⟩ hx] at q; omega)) H locs ls h1 h2 h3 h4)
theorem g_icmp_eq {x y off : Int} (tgt : Nat) (hX : Cx Γ X nL h cc own) (hdg : decode cc pc = .ok (.if_icmp .eq off, 3)) (ht : (pc : Int) + off = (tgt : Int)) (hx : iR x) (hy : iR y) (kt : x = y → G Γ X nL Z tgt L st M) (kf : x ≠ y → G Γ X nL Z (pc + 3) L st M) : G Γ X nL Z pc L (vI y :: vI x :: st) M :=
  fun H locs ls h1 h2 h3 h4 => lv_icmp_eq hX.1 hX.2.1 hdg ht (fun q => kt ((i32_eq hx hy).mp q) H locs ls h1 h2 h3 h4) (fun q => kf (fun e => q (by rw [e])) H locs ls h1 h2 h3 h4)
theorem g_icmp_ne {x y off : Int} (tgt : Nat) (hX : Cx Γ X nL h cc own) (hdg : decode cc pc = .ok (.if_icmp .ne off, 3)) (ht : (pc : Int) + off = (tgt : Int)) (hx : iR x) (hy : iR y) (kt : x ≠ y → G Γ X nL Z tgt L st M) (kf : x = y → G Γ X nL Z (pc + 3) L st M) : G Γ X nL Z pc L (vI y :: vI x :: st) M :=
  fun H locs ls h1 h2 h3 h4 => lv_icmp_ne hX.1 hX.2.1 hdg ht (fun q => kt (fun e => q (by rw [e])) H locs ls h1 h2 h3 h4) (fun q => kf ((i32_eq hx hy).mp q) H locs ls h1 h2 h3 h4)
theorem g_icmp_lt {x y off : Int} (tgt : Nat) (hX : Cx Γ X nL h cc own) (hdg : decode cc pc = .ok (.if_icmp .lt off, 3)) (ht : (pc : Int) + off = (tgt : Int)) (hx : iR x) (hy : iR y) (kt : x < y → G Γ X nL Z tgt L st M) (kf : y ≤ x → G Γ X nL Z (pc + 3) L st M) : G Γ X nL Z pc L (vI y :: vI x :: st) M :=
  fun H locs ls h1 h2 h3 h4 => lv_icmp_lt hX.1 hX.2.1 hdg ht (fun q => kt ((i32_lt hx hy).mp q) H locs ls h1 h2 h3 h4) (fun q => kf (by rw [i32_lt hx hy] at q; omega) H locs ls h1 h2 h3 h4)
theorem g_icmp_ge {x y off : Int} (tgt : Nat) (hX : Cx Γ X nL h cc own) (hdg : decode cc pc = .ok (.if_icmp .ge off, 3)) (ht : (pc : Int) + off = (tgt : Int)) (hx : iR x) (hy : iR y) (kt : y ≤ x → G Γ X nL Z tgt L st M) (kf : x < y → G Γ X nL Z (pc + 3) L st M) : G Γ X nL Z pc L (vI y :: vI x :: st) M :=
  fun H locs ls h1 h2 h3 h4 => lv_icmp_ge hX.1 hX.2.1 hdg ht (fun q => kt (by first | exact (i32_le hy hx).mp q | (rw [i32_lt hx hy] at q; omega)) H locs ls h1 h2 h3 h4) (fun q => kf (by first | (rw [i32_lt hx hy] at q; omega) | (rw [i32_le hy hx] at q; omega)) H locs ls h1 h2 h3 h4)
theorem g_icmp_gt {x y off : Int} (tgt : Nat) (hX : Cx Γ X nL h cc own) (hdg : decode cc pc = .ok (.if_icmp .gt off, 3)) (ht : (pc : Int) + off = (tgt : Int)) (hx : iR x) (hy : iR y) (kt : y < x → G Γ X nL Z tgt L st M) (kf : x ≤ y → G Γ X nL Z (pc + 3) L st M) : G Γ X nL Z pc L (vI y :: vI x :: st) M :=
  fun H locs ls h1 h2 h3 h4 => lv_icmp_gt hX.1 hX.2.1 hdg ht (fun q => kt (by first | exact (i32_lt hy hx).mp q | (rw [i32_le hx hy] at q; omega)) H locs ls h1 h2 h3 h4) (fun q => kf (by first | (rw [i32_lt hy hx] at q; omega) | (rw [i32_le hx hy] at q; omega)) H locs ls h1 h2 h3 h4)
theorem g_icmp_le {x y off : Int} (tgt : Nat) (hX : Cx Γ X nL h cc own) (hdg : decode cc pc = .ok (.if_icmp .le off, 3)) (ht : (pc : Int) + off = (tgt : Int)) (hx : iR x) (hy : iR y) (kt : x ≤ y → G Γ X nL Z tgt L st M) (kf : y < x → G Γ X nL Z (pc + 3) L st M) : G Γ X nL Z pc L (vI y :: vI x :: st) M :=
  fun H locs ls h1 h2 h3 h4 => lv_icmp_le hX.1 hX.2.1 hdg ht (fun q => kt (by first | exact (i32_le hx hy).mp q | (rw [i32_lt hy hx] at q; omega)) H locs ls h1 h2 h3 h4) (fun q => kf (by first | (rw [i32_le hx hy] at q; omega) | (rw [i32_lt hy hx] at q; omega)) H locs ls h1 h2 h3 h4)
/-- the memory's numbers are ints -/
theorem g_rng (k : (∀ a i, iR (M a i)) → G Γ X nL Z pc L st M) : G Γ X nL Z pc L st M := fun H locs ls h1 h2 h3 h4 => k h1.2.1 H locs ls h1 h2 h3 h4
def DS (Z : ZT) (k : Nat) (q : Nat × Nat) : Prop := dsL[k]? = some q ∧ k < Z.2.1
def FL (own : String) (idx ci j : Nat) : Prop := ∃ r : vw_C, classes[ci]? = some r ∧ j < r.2.2 ∧ Cond.fieldLink own idx r.1 (r.2.1 j).2.1 (r.2.1 j).2.2.1 ∈ gT
def CF (q : vw_C) (ci : Nat) : Prop := (∀ k, k < q.2.2 → (q.2.1 k).1 = q.1) ∧ (∀ w ∈ u_ws q.1 q.2.1 q.2.2, w ∈ gT) ∧ (∀ k, k < q.2.2 → parseFieldDescriptor (q.2.1 k).2.2.1 = some ((tyL.getD ci []).getD k .int)) ∧ ∀ a, a < q.2.2 → ∀ b, b < q.2.2 → a ≠ b → (q.2.1 a).2.1 ≠ (q.2.1 b).2.1
theorem cf_ok : ∀ (ci : Nat) (q : vw_C), classes[ci]? = some q → CF q ci := by
  intro ci q hq
  match ci, hq with
  | 0, hq => cases hq; exact ⟨by decide +kernel, u_WC, by decide +kernel, by decide +kernel⟩
  | 1, hq => cases hq; exact ⟨by decide +kernel, u_State, by decide +kernel, by decide +kernel⟩
  | 2, hq => cases hq; exact ⟨by decide +kernel, u_History, by decide +kernel, by decide +kernel⟩
  | 3, hq => cases hq; exact ⟨by decide +kernel, u_Cand, by decide +kernel, by decide +kernel⟩
  | 4, hq => cases hq; exact ⟨by decide +kernel, u_Plan, by decide +kernel, by decide +kernel⟩
  | 5, hq => cases hq; exact ⟨by decide +kernel, u_Stretch, by decide +kernel, by decide +kernel⟩
  | 6, hq => cases hq; exact ⟨by decide +kernel, u_Text, by decide +kernel, by decide +kernel⟩
  | 7, hq => cases hq; exact ⟨by decide +kernel, u_Reader, by decide +kernel, by decide +kernel⟩
  | 8, hq => cases hq; exact ⟨by decide +kernel, u_Mo, by decide +kernel, by decide +kernel⟩
  | k + 9, hq => simp [classes] at hq
theorem g_get {k ci j idx : Nat} (hX : Cx Γ X nL h cc own) (hd : DS Z k (1, ci)) (hF : FL own idx ci j) (hdg : decode cc pc = .ok (.getfield idx, 3)) (kk : G Γ X nL Z (pc + 3) L (cV Γ Z.1 M ci k j :: st) M) : G Γ X nL Z pc L (.ref (gb Γ + k) :: st) M := by
  intro H locs ls h1 h2 h3 h4
  obtain ⟨q, hc, hj, hl⟩ := hF
  obtain ⟨hdec, hin, -, -⟩ := cf_ok ci q hc
  obtain ⟨r, hr, cell, q1, q2, q3, q4⟩ := (h1.2.2 k hd.2).2.1 ci hd.1
  have erq : r = q := Option.some.inj (hr.symm.trans hc)
  subst erq
  obtain ⟨hx, hb, hml, hown, hts, hlk, hV, -⟩ := hX
  obtain ⟨hS, hfc, kC, hkC, hkind⟩ := hV.1.1 ci _ hc
  obtain ⟨cf, kf, fi, f, hi, hsl⟩ := hS j hj
  have hts' : ∀ w ∈ u_ws r.1 r.2.1 r.2.2, w.before (xa X) (xs X) = true := fun w hw => hts w (hin w hw)
  refine W.getf hx hb hown (hts _ hl) (by rw [← hdec j hj]; exact hi) (u_facts hfc hkC (u_lays hts' (fun _ w => w) hj) hi).1 q1 (by rw [q3]; exact fun h => by cases h) (v := cV Γ Z.1 M ci k j) ?_ rfl rfl hdg (kk H locs ls h1 h2 h3 h4)
  rw [hsl]
  exact q4 j hj
theorem g_getI {k ci j idx : Nat} (hX : Cx Γ X nL h cc own) (hF : FL own idx ci j) (hdg : decode cc pc = .ok (.getfield idx, 3)) (jj : Int) (hd : DS Z k (1, ci)) (hjj : ((j : Nat) : Int) = jj) (hr : isR ci j = false) (kk : iR (M k jj) → G Γ X nL Z (pc + 3) L (vI (M k jj) :: st) M) : G Γ X nL Z pc L (.ref (gb Γ + k) :: st) M :=
  g_rng fun hr' => g_get hX hd hF hdg (by subst hjj; have e : cV Γ Z.1 M ci k j = vI (M k j) := by (unfold cV; rw [hr]; rfl)
                                          rw [e]; exact kk (hr' _ _))
theorem g_getR {k ci j idx k' : Nat} (hX : Cx Γ X nL h cc own) (hF : FL own idx ci j) (hdg : decode cc pc = .ok (.getfield idx, 3)) (hd : DS Z k (1, ci)) (hk : Z.1 k j = some k') (hr : isR ci j = true) (kk : G Γ X nL Z (pc + 3) L (.ref (gb Γ + k') :: st) M) : G Γ X nL Z pc L (.ref (gb Γ + k) :: st) M :=
  g_get hX hd hF hdg (by have e : cV Γ Z.1 M ci k j = .ref (gb Γ + k') := by (unfold cV; rw [hr, hk]; rfl)
                         rw [e]; exact kk)
theorem cE_other {R : mR} {M M' : mI} {H H' : Heap} {k : Nat} (hE : cE Γ R M H k) (hM : M' k = M k) (hH : H'[gb Γ + k]? = H[gb Γ + k]?) : cE Γ R M' H' k := by
  refine ⟨fun n hn => ?_, fun ci hc => ?_, fun n hn => ?_⟩
  · rw [hH, hM]; exact hE.1 n hn
  · obtain ⟨r, h1, h2⟩ := hE.2.1 ci hc
    refine ⟨r, h1, ?_⟩
    have e : cV Γ R M' ci k = cV Γ R M ci k := by funext j; unfold cV; rw [hM]
    rw [e]
    exact h2.kept hH
  · rw [hH]; exact hE.2.2 n hn
theorem Hp_put {R : mR} {K : Nat} {M : mI} {H H' : Heap} {k : Nat} {j v : Int} (h1 : Hp Γ R K M H) (hv : iR v) (hsz : H'.size = H.size) (oq : ∀ q, q ≠ gb Γ + k → H'[q]? = H[q]?) (hE : cE Γ R (mU M k j v) H' k) : Hp Γ R K (mU M k j v) H' := by
  refine ⟨by rw [hsz]; exact h1.1, iR_mU h1.2.1 hv, fun a ha => ?_⟩
  by_cases hk : a = k
  · subst hk; exact hE
  · exact cE_other (h1.2.2 a ha) (mU_cell hk) (oq _ (by omega))
theorem loc_put {locs : List Loc} {k : Nat} {i : Nat} (h3 : ∀ q ∈ locs, gb Γ ≤ q.base) : ∀ q ∈ locs ++ [⟨gb Γ + k, i⟩], gb Γ ≤ q.base := by
  intro q hq
  rcases List.mem_append.mp hq with h | h
  · exact h3 q h
  · rw [List.mem_singleton.mp h]
    exact Nat.le_add_right _ _
theorem g_put {k ci j idx : Nat} {x jj : Int} (hX : Cx Γ X nL h cc own) (hF : FL own idx ci j) (hdg : decode cc pc = .ok (.putfield idx, 3)) (hd : DS Z k (1, ci)) (hjj : ((j : Nat) : Int) = jj) (hr : isR ci j = false) (hfin : ∀ q : vw_C, classes[ci]? = some q → (q.2.1 j).2.2.2 = false) {ty : FieldType} (hty : (tyL.getD ci []).getD j .int = ty) (hn : narrow ty (vI x) = vI x) (hfit : fits ty (vI x) = true) (hv : iR x) (kk : G Γ X nL Z (pc + 3) L st (mU M k jj x)) : G Γ X nL Z pc L (vI x :: .ref (gb Γ + k) :: st) M := by
  intro H locs ls h1 h2 h3 h4
  subst hjj
  obtain ⟨q, hc, hj, hl⟩ := hF
  obtain ⟨hdec, hin, hpd, hnm⟩ := cf_ok ci q hc
  obtain ⟨r, hr', cell, q1, q2, q3, q4⟩ := (h1.2.2 k hd.2).2.1 ci hd.1
  have erq : r = q := Option.some.inj (hr'.symm.trans hc)
  subst erq
  obtain ⟨hx, hb, hml, hown, hts, hlk, hV, -⟩ := hX
  have hts' : ∀ w ∈ u_ws r.1 r.2.1 r.2.2, w.before (xa X) (xs X) = true := fun w hw => hts w (hin w hw)
  have hap := va_apart (own := own) hts' (fun _ w => w) (fun k => (tyL.getD ci []).getD k .int) hpd hnm hV.1 hc
  obtain ⟨hS, hfc, kC, hkC, hkind⟩ := hV.1.1 ci _ hc
  obtain ⟨cf, kf, fi, f, hi, hsl⟩ := hS j hj
  have hlay := hts' _ (u_in_lay hj)
  unfold u_lay at hlay
  rw [if_neg (by rw [hfin r hc]; decide)] at hlay
  have hst := (u_facts hfc hkC (u_lays hts' (fun _ w => w) hj) hi).1
  have h6 := u_store hfc hkC hkind hlay hi (hpd j hj) (by rw [hty]; exact hn) (by rw [hty]; exact hfit)
  refine W.putK hx hb (f := f) ⟨hown, hts _ hl, ⟨_, _, _, by rw [← hdec j hj]; exact hi⟩, hst⟩ (by rw [q2]; exact h6) q1 q3 (by rw [hsl]; exact k2_hasslot (q4 j hj)) rfl rfl hdg fun H' e1 e2 e3 => ?_
  rw [hsl] at e1 ⊢
  refine kk H' _ ls (Hp_put h1 hv e2 e3 ⟨fun n hn' => ?_, fun ci' hc' => ?_, fun n hn' => ?_⟩) (fun q hq => by rw [e3 q (Nat.ne_of_lt (Nat.lt_of_lt_of_le hq (Nat.le_add_right _ _)))]; exact h2 q hq) (loc_put h3) h4
  · cases hd.1.symm.trans hn'
  · cases hd.1.symm.trans hc'
    refine ⟨_, hc, t_OB.to (V := updV (cV Γ Z.1 M ci k) j (vI x)) ⟨_, e1, q2, q3, t_set q4 hap hj (vI x)⟩ (fun i hi => ?_)⟩
    unfold updV cV
    by_cases hij : i = j
    · subst hij
      rw [if_pos rfl, hr]
      rw [if_neg (by decide), mU_self]
    · rw [if_neg hij, mU_slot (by omega)]
  · cases hd.1.symm.trans hn'
theorem g_putI {k ci j idx : Nat} {x : Int} (hX : Cx Γ X nL h cc own) (hF : FL own idx ci j) (hdg : decode cc pc = .ok (.putfield idx, 3)) (jj : Int) (hd : DS Z k (1, ci)) (hjj : ((j : Nat) : Int) = jj) (hr : isR ci j = false) (hfin : ∀ q : vw_C, classes[ci]? = some q → (q.2.1 j).2.2.2 = false) (hty : (tyL.getD ci []).getD j .int = .int) (hv : iR x) (kk : G Γ X nL Z (pc + 3) L st (mU M k jj x)) : G Γ X nL Z pc L (vI x :: .ref (gb Γ + k) :: st) M :=
  g_put hX hF hdg hd hjj hr hfin hty rfl rfl hv kk
theorem g_putZ {k ci j idx : Nat} {x : Int} (hX : Cx Γ X nL h cc own) (hF : FL own idx ci j) (hdg : decode cc pc = .ok (.putfield idx, 3)) (jj : Int) (hd : DS Z k (1, ci)) (hjj : ((j : Nat) : Int) = jj) (hr : isR ci j = false) (hfin : ∀ q : vw_C, classes[ci]? = some q → (q.2.1 j).2.2.2 = false) (hty : (tyL.getD ci []).getD j .int = .boolean) (hv : x = 0 ∨ x = 1) (kk : G Γ X nL Z (pc + 3) L st (mU M k jj x)) : G Γ X nL Z pc L (vI x :: .ref (gb Γ + k) :: st) M :=
  g_put hX hF hdg hd hjj hr hfin hty (by rcases hv with rfl | rfl <;> rfl) (by rcases hv with rfl | rfl <;> rfl) (by omega) kk
theorem ds_small : ∀ k n : Nat, dsL[k]? = some (0, n) → n < 2147483648 := by
  intro k n hk
  have h : ∀ q ∈ dsL, q.2 < 2147483648 := by decide +kernel
  exact h _ (List.mem_of_getElem? hk)
theorem g_iald {k n : Nat} {i : Int} (hX : Cx Γ X nL h cc own) (hdg : decode cc pc = .ok (.iaload, 1)) (hd : DS Z k (0, n)) (hi : 0 ≤ i ∧ i < n) (kk : iR (M k i) → G Γ X nL Z (pc + 1) L (vI (M k i) :: st) M) : G Γ X nL Z pc L (vI i :: .ref (gb Γ + k) :: st) M := by
  intro H locs ls h1 h2 h3 h4
  have hn := ds_small k n hd.1
  have hE := (h1.2.2 k hd.2).1 n hd.1
  have hj : i.toNat < n := by omega
  have hz : ((i.toNat : Nat) : Int) = i := by omega
  obtain ⟨hx, hb, hml, hown, hts, hlk, hV, -⟩ := hX
  have hcl := i32_clamp hi.1 (show i < 2147483648 by omega)
  refine W.iald (v := vI (M k i)) hx hb hE ((hV.1.2 0 _ rfl).1 n (fun j => vI (M k j))) (fun q => by cases q) (by rw [arrV_size]; exact i32_in hi.1 hi.2 hn) (by rw [hcl, arrV_read _ _ hj, hz]) rfl rfl hdg (kk (h1.2.1 k i) H locs ls h1 h2 h3 h4)
theorem g_iast {k n : Nat} {i x : Int} (hX : Cx Γ X nL h cc own) (hdg : decode cc pc = .ok (.iastore, 1)) (hd : DS Z k (0, n)) (hi : 0 ≤ i ∧ i < n) (hv : iR x) (kk : G Γ X nL Z (pc + 1) L st (mU M k i x)) : G Γ X nL Z pc L (vI x :: vI i :: .ref (gb Γ + k) :: st) M := by
  intro H locs ls h1 h2 h3 h4
  have hn := ds_small k n hd.1
  have hE := (h1.2.2 k hd.2).1 n hd.1
  have hj : i.toNat < n := by omega
  have hz : ((i.toNat : Nat) : Int) = i := by omega
  obtain ⟨hx, hb, hml, hown, hts, hlk, hV, -⟩ := hX
  have hcl := i32_clamp hi.1 (show i < 2147483648 by omega)
  refine W.iast hx hb hE ((hV.1.2 0 _ rfl).1 n (fun j => vI (M k j))) (fun q => by cases q) (by rw [arrV_size]; exact i32_in hi.1 hi.2 hn) rfl rfl hdg fun H' e1 e2 e3 => ?_
  refine kk H' _ ls (Hp_put h1 hv e2 e3 ⟨fun n' hn' => ?_, fun ci' hc' => ?_, fun n' hn' => ?_⟩) (fun q hq => by rw [e3 q (Nat.ne_of_lt (Nat.lt_of_lt_of_le hq (Nat.le_add_right _ _)))]; exact h2 q hq) (loc_put h3) h4
  · cases hd.1.symm.trans hn'
    rw [e1, hcl, arrV_store]
    congr 2
    funext j
    unfold updV
    by_cases hij : j = i.toNat
    · subst hij
      rw [if_pos rfl, hz, mU_self]
      rfl
    · rw [if_neg hij, mU_slot (by omega)]
  · cases hd.1.symm.trans hc'
  · cases hd.1.symm.trans hn'
theorem g_alen {k n : Nat} (hX : Cx Γ X nL h cc own) (hdg : decode cc pc = .ok (.arraylength, 1)) (hd : DS Z k (0, n)) (kk : G Γ X nL Z (pc + 1) L (vI n :: st) M) : G Γ X nL Z pc L (.ref (gb Γ + k) :: st) M := by
  intro H locs ls h1 h2 h3 h4
  have hE := (h1.2.2 k hd.2).1 n hd.1
  obtain ⟨hx, hb, hml, hown, hts, hlk, hV, -⟩ := hX
  exact W.alen (n := Int32.ofInt n) hx hb hE ((hV.1.2 0 _ rfl).1 n (fun j => vI (M k j))) (by rw [arrV_size]; rfl) rfl rfl hdg (kk H locs ls h1 h2 h3 h4)
theorem g_alenS {k n : Nat} (hX : Cx Γ X nL h cc own) (hdg : decode cc pc = .ok (.arraylength, 1)) (hd : DS Z k (2, n)) (kk : G Γ X nL Z (pc + 1) L (vI n :: st) M) : G Γ X nL Z pc L (.ref (gb Γ + k) :: st) M := by
  intro H locs ls h1 h2 h3 h4
  have hE := (h1.2.2 k hd.2).2.2 n hd.1
  obtain ⟨hx, hb, hml, hown, hts, hlk, hV, -⟩ := hX
  exact W.alen (n := Int32.ofInt n) hx hb hE ((hV.1.2 1 _ rfl).1 n (fun j => rV (gb Γ) (Z.1 k j))) (by rw [arrV_size]; rfl) rfl rfl hdg (kk H locs ls h1 h2 h3 h4)
theorem ds_small2 : ∀ k n : Nat, dsL[k]? = some (2, n) → n < 2147483648 := by
  intro k n hk
  have h : ∀ q ∈ dsL, q.2 < 2147483648 := by decide +kernel
  exact h _ (List.mem_of_getElem? hk)
theorem g_aald {k n k' : Nat} {i : Int} (hX : Cx Γ X nL h cc own) (hdg : decode cc pc = .ok (.aaload, 1)) (hd : DS Z k (2, n)) (hi : 0 ≤ i ∧ i < n) (hr : Z.1 k i.toNat = some k') (kk : G Γ X nL Z (pc + 1) L (.ref (gb Γ + k') :: st) M) : G Γ X nL Z pc L (vI i :: .ref (gb Γ + k) :: st) M := by
  intro H locs ls h1 h2 h3 h4
  have hn := ds_small2 k n hd.1
  have hE := (h1.2.2 k hd.2).2.2 n hd.1
  have hj : i.toNat < n := by omega
  obtain ⟨hx, hb, hml, hown, hts, hlk, hV, -⟩ := hX
  have hcl := i32_clamp hi.1 (show i < 2147483648 by omega)
  exact W.aald (v := .ref (gb Γ + k')) (ty := .object "WindowCopies$State") hx hb hE ((hV.1.2 1 _ rfl).1 n (fun j => rV (gb Γ) (Z.1 k j))) rfl (fun q => by cases q) (by rw [arrV_size]; exact i32_in hi.1 hi.2 hn) (by rw [hcl, arrV_read _ _ hj, hr]; rfl) rfl rfl hdg (kk H locs ls h1 h2 h3 h4)
theorem g_null (hX : Cx Γ X nL h cc own) (hdg : decode cc pc = .ok (.aconst_null, 1)) (k : G Γ X nL Z (pc + 1) L (.null :: st) M) : G Γ X nL Z pc L st M :=
  fun H locs ls h1 h2 h3 h4 => lv_null hX.1 hX.2.1 hdg (k H locs ls h1 h2 h3 h4)
theorem g_ifnull {a : Nat} {off : Int} (hX : Cx Γ X nL h cc own) (hdg : decode cc pc = .ok (.ifnull off, 3)) (k : G Γ X nL Z (pc + 3) L st M) : G Γ X nL Z pc L (.ref a :: st) M :=
  fun H locs ls h1 h2 h3 h4 => lv_ifnull hX.1 hX.2.1 hdg (k H locs ls h1 h2 h3 h4)
theorem g_ifnullN {off : Int} (tgt : Nat) (hX : Cx Γ X nL h cc own) (hdg : decode cc pc = .ok (.ifnull off, 3)) (ht : (pc : Int) + off = (tgt : Int)) (k : G Γ X nL Z tgt L st M) : G Γ X nL Z pc L (.null :: st) M :=
  fun H locs ls h1 h2 h3 h4 => lv_ifnullN hX.1 hX.2.1 hdg ht (k H locs ls h1 h2 h3 h4)
end GR
end
