section
/-- a private method of a class that the tables say can be made, by its rows of tables_1 -/
def lw_okq (q : MethodName × Nat) : Prop := (q.1.cls ≠ "java/lang/invoke/MethodHandle" ∧ q.1.cls ≠ "java/lang/invoke/VarHandle") ∧ Cond.instantiable q.1.cls q.2 ∈ tables_1 ∧ Cond.privateMethod q.1 ∈ tables_1 ∧ Cond.instanceMethod q.1 ∈ tables_1
theorem lw_p0 : lw_okq (⟨"WindowCopies$History", "slotOf", "(I)I"⟩, 3) := ⟨⟨by decide +kernel, by decide +kernel⟩, List.mem_of_getElem? (i := 45) (by decide +kernel), List.mem_of_getElem? (i := 231) (by decide +kernel), List.mem_of_getElem? (i := 232) (by decide +kernel)⟩
theorem lw_p1 : lw_okq (⟨"WindowCopies$History", "stateAt", "(I)LWindowCopies$State;"⟩, 3) := ⟨⟨by decide +kernel, by decide +kernel⟩, List.mem_of_getElem? (i := 45) (by decide +kernel), List.mem_of_getElem? (i := 235) (by decide +kernel), List.mem_of_getElem? (i := 236) (by decide +kernel)⟩
theorem lw_p2 : lw_okq (⟨"WindowCopies$Candidates", "takeIn", "(II)V"⟩, 6) := ⟨⟨by decide +kernel, by decide +kernel⟩, List.mem_of_getElem? (i := 64) (by decide +kernel), List.mem_of_getElem? (i := 328) (by decide +kernel), List.mem_of_getElem? (i := 329) (by decide +kernel)⟩
theorem lw_p3 : lw_okq (⟨"WindowCopies$Plan", "planFound", "(I)V"⟩, 11) := ⟨⟨by decide +kernel, by decide +kernel⟩, List.mem_of_getElem? (i := 89) (by decide +kernel), List.mem_of_getElem? (i := 385) (by decide +kernel), List.mem_of_getElem? (i := 386) (by decide +kernel)⟩
theorem lw_p4 : lw_okq (⟨"WindowCopies$Plan", "planLetter", "(II)V"⟩, 11) := ⟨⟨by decide +kernel, by decide +kernel⟩, List.mem_of_getElem? (i := 89) (by decide +kernel), List.mem_of_getElem? (i := 390) (by decide +kernel), List.mem_of_getElem? (i := 391) (by decide +kernel)⟩
theorem lw_p5 : lw_okq (⟨"WindowCopies$Plan", "planPart", "(IIII)V"⟩, 11) := ⟨⟨by decide +kernel, by decide +kernel⟩, List.mem_of_getElem? (i := 89) (by decide +kernel), List.mem_of_getElem? (i := 394) (by decide +kernel), List.mem_of_getElem? (i := 395) (by decide +kernel)⟩
theorem lw_p6 : lw_okq (⟨"WindowCopies$Plan", "planWeighed", "(I)V"⟩, 11) := ⟨⟨by decide +kernel, by decide +kernel⟩, List.mem_of_getElem? (i := 89) (by decide +kernel), List.mem_of_getElem? (i := 401) (by decide +kernel), List.mem_of_getElem? (i := 402) (by decide +kernel)⟩
theorem lw_p7 : lw_okq (⟨"WindowCopies$Plan", "planCheapest", "(I)V"⟩, 11) := ⟨⟨by decide +kernel, by decide +kernel⟩, List.mem_of_getElem? (i := 89) (by decide +kernel), List.mem_of_getElem? (i := 414) (by decide +kernel), List.mem_of_getElem? (i := 415) (by decide +kernel)⟩
theorem lw_p8 : lw_okq (⟨"WindowCopies$Plan", "countCopy", "(I)V"⟩, 11) := ⟨⟨by decide +kernel, by decide +kernel⟩, List.mem_of_getElem? (i := 89) (by decide +kernel), List.mem_of_getElem? (i := 425) (by decide +kernel), List.mem_of_getElem? (i := 426) (by decide +kernel)⟩
theorem lw_p9 : lw_okq (⟨"WindowCopies$State", "holds", "(I)Z"⟩, 3) := ⟨⟨by decide +kernel, by decide +kernel⟩, List.mem_of_getElem? (i := 20) (by decide +kernel), List.mem_of_getElem? (i := 506) (by decide +kernel), List.mem_of_getElem? (i := 507) (by decide +kernel)⟩
theorem lw_p10 : lw_okq (⟨"WindowCopies", "cheapestWay", "()I"⟩, 9) := ⟨⟨by decide +kernel, by decide +kernel⟩, List.mem_of_getElem? (i := 12) (by decide +kernel), List.mem_of_getElem? (i := 510) (by decide +kernel), List.mem_of_getElem? (i := 511) (by decide +kernel)⟩
theorem lw_p11 : lw_okq (⟨"WindowCopies", "settingCount", "(I)I"⟩, 9) := ⟨⟨by decide +kernel, by decide +kernel⟩, List.mem_of_getElem? (i := 12) (by decide +kernel), List.mem_of_getElem? (i := 522) (by decide +kernel), List.mem_of_getElem? (i := 523) (by decide +kernel)⟩
theorem lw_p12 : lw_okq (⟨"WindowCopies", "charactersOf", "(I)I"⟩, 9) := ⟨⟨by decide +kernel, by decide +kernel⟩, List.mem_of_getElem? (i := 12) (by decide +kernel), List.mem_of_getElem? (i := 564) (by decide +kernel), List.mem_of_getElem? (i := 565) (by decide +kernel)⟩
theorem lw_p13 : lw_okq (⟨"WindowCopies$Text", "appendNumber", "(I)V"⟩, 2) := ⟨⟨by decide +kernel, by decide +kernel⟩, List.mem_of_getElem? (i := 145) (by decide +kernel), List.mem_of_getElem? (i := 579) (by decide +kernel), List.mem_of_getElem? (i := 580) (by decide +kernel)⟩
theorem lw_p14 : lw_okq (⟨"WindowCopies$TextReader", "takeCopy", "()V"⟩, 6) := ⟨⟨by decide +kernel, by decide +kernel⟩, List.mem_of_getElem? (i := 158) (by decide +kernel), List.mem_of_getElem? (i := 603) (by decide +kernel), List.mem_of_getElem? (i := 604) (by decide +kernel)⟩
theorem lw_p15 : lw_okq (⟨"WindowCopies$TextReader", "takeNumber", "()I"⟩, 6) := ⟨⟨by decide +kernel, by decide +kernel⟩, List.mem_of_getElem? (i := 158) (by decide +kernel), List.mem_of_getElem? (i := 607) (by decide +kernel), List.mem_of_getElem? (i := 608) (by decide +kernel)⟩
def lw_privs_1 : List (MethodName × Nat) := [(⟨"WindowCopies$History", "slotOf", "(I)I"⟩, 3), (⟨"WindowCopies$History", "stateAt", "(I)LWindowCopies$State;"⟩, 3), (⟨"WindowCopies$Candidates", "takeIn", "(II)V"⟩, 6), (⟨"WindowCopies$Plan", "planFound", "(I)V"⟩, 11), (⟨"WindowCopies$Plan", "planLetter", "(II)V"⟩, 11), (⟨"WindowCopies$Plan", "planPart", "(IIII)V"⟩, 11), (⟨"WindowCopies$Plan", "planWeighed", "(I)V"⟩, 11), (⟨"WindowCopies$Plan", "planCheapest", "(I)V"⟩, 11), (⟨"WindowCopies$Plan", "countCopy", "(I)V"⟩, 11), (⟨"WindowCopies$State", "holds", "(I)Z"⟩, 3), (⟨"WindowCopies", "cheapestWay", "()I"⟩, 9), (⟨"WindowCopies", "settingCount", "(I)I"⟩, 9), (⟨"WindowCopies", "charactersOf", "(I)I"⟩, 9), (⟨"WindowCopies$Text", "appendNumber", "(I)V"⟩, 2), (⟨"WindowCopies$TextReader", "takeCopy", "()V"⟩, 6), (⟨"WindowCopies$TextReader", "takeNumber", "()I"⟩, 6)]
theorem lw_r1 : ∀ q ∈ lw_privs_1, lw_okq q := List.forall_mem_cons.mpr ⟨lw_p0, List.forall_mem_cons.mpr ⟨lw_p1, List.forall_mem_cons.mpr ⟨lw_p2, List.forall_mem_cons.mpr ⟨lw_p3, List.forall_mem_cons.mpr ⟨lw_p4, List.forall_mem_cons.mpr ⟨lw_p5, List.forall_mem_cons.mpr ⟨lw_p6, List.forall_mem_cons.mpr ⟨lw_p7, List.forall_mem_cons.mpr ⟨lw_p8, List.forall_mem_cons.mpr ⟨lw_p9, List.forall_mem_cons.mpr ⟨lw_p10, List.forall_mem_cons.mpr ⟨lw_p11, List.forall_mem_cons.mpr ⟨lw_p12, List.forall_mem_cons.mpr ⟨lw_p13, List.forall_mem_cons.mpr ⟨lw_p14, List.forall_mem_cons.mpr ⟨lw_p15, fun _ h => absurd h List.not_mem_nil⟩⟩⟩⟩⟩⟩⟩⟩⟩⟩⟩⟩⟩⟩⟩⟩
theorem lw_p16 : lw_okq (⟨"WindowCopies$TextReader", "digitAt", "(I)I"⟩, 6) := ⟨⟨by decide +kernel, by decide +kernel⟩, List.mem_of_getElem? (i := 158) (by decide +kernel), List.mem_of_getElem? (i := 611) (by decide +kernel), List.mem_of_getElem? (i := 612) (by decide +kernel)⟩
theorem lw_p17 : lw_okq (⟨"WindowCopies$TextReader", "blame", "(II)V"⟩, 6) := ⟨⟨by decide +kernel, by decide +kernel⟩, List.mem_of_getElem? (i := 158) (by decide +kernel), List.mem_of_getElem? (i := 616) (by decide +kernel), List.mem_of_getElem? (i := 617) (by decide +kernel)⟩
theorem lw_p18 : lw_okq (⟨"WindowCopies$TextReader", "takeSign", "(I)V"⟩, 6) := ⟨⟨by decide +kernel, by decide +kernel⟩, List.mem_of_getElem? (i := 158) (by decide +kernel), List.mem_of_getElem? (i := 620) (by decide +kernel), List.mem_of_getElem? (i := 621) (by decide +kernel)⟩
theorem lw_p19 : lw_okq (⟨"WindowCopies$TextReader", "reasonAgainst", "(II)I"⟩, 6) := ⟨⟨by decide +kernel, by decide +kernel⟩, List.mem_of_getElem? (i := 158) (by decide +kernel), List.mem_of_getElem? (i := 624) (by decide +kernel), List.mem_of_getElem? (i := 625) (by decide +kernel)⟩
theorem lw_p20 : lw_okq (⟨"WindowCopies$TextReader", "takeLetter", "(I)V"⟩, 6) := ⟨⟨by decide +kernel, by decide +kernel⟩, List.mem_of_getElem? (i := 158) (by decide +kernel), List.mem_of_getElem? (i := 635) (by decide +kernel), List.mem_of_getElem? (i := 636) (by decide +kernel)⟩
theorem lw_p21 : lw_okq (⟨"WindowCopiesModel", "changes", "()V"⟩, 21) := ⟨⟨by decide +kernel, by decide +kernel⟩, List.mem_of_getElem? (i := 659) (by decide +kernel), List.mem_of_getElem? (i := 736) (by decide +kernel), List.mem_of_getElem? (i := 737) (by decide +kernel)⟩
theorem lw_p22 : lw_okq (⟨"WindowCopiesModel", "isPlace", "(I)Z"⟩, 21) := ⟨⟨by decide +kernel, by decide +kernel⟩, List.mem_of_getElem? (i := 659) (by decide +kernel), List.mem_of_getElem? (i := 748) (by decide +kernel), List.mem_of_getElem? (i := 749) (by decide +kernel)⟩
theorem lw_p23 : lw_okq (⟨"WindowCopiesModel", "distance", "(II)I"⟩, 21) := ⟨⟨by decide +kernel, by decide +kernel⟩, List.mem_of_getElem? (i := 659) (by decide +kernel), List.mem_of_getElem? (i := 770) (by decide +kernel), List.mem_of_getElem? (i := 771) (by decide +kernel)⟩
theorem lw_p24 : lw_okq (⟨"WindowCopiesModel", "isCandidate", "(II)Z"⟩, 21) := ⟨⟨by decide +kernel, by decide +kernel⟩, List.mem_of_getElem? (i := 659) (by decide +kernel), List.mem_of_getElem? (i := 774) (by decide +kernel), List.mem_of_getElem? (i := 775) (by decide +kernel)⟩
theorem lw_p25 : lw_okq (⟨"WindowCopiesModel", "reach", "(II)I"⟩, 21) := ⟨⟨by decide +kernel, by decide +kernel⟩, List.mem_of_getElem? (i := 659) (by decide +kernel), List.mem_of_getElem? (i := 778) (by decide +kernel), List.mem_of_getElem? (i := 779) (by decide +kernel)⟩
theorem lw_p26 : lw_okq (⟨"WindowCopiesModel", "candidates", "(I)I"⟩, 21) := ⟨⟨by decide +kernel, by decide +kernel⟩, List.mem_of_getElem? (i := 659) (by decide +kernel), List.mem_of_getElem? (i := 786) (by decide +kernel), List.mem_of_getElem? (i := 787) (by decide +kernel)⟩
theorem lw_p27 : lw_okq (⟨"WindowCopiesModel", "best", "(I)I"⟩, 21) := ⟨⟨by decide +kernel, by decide +kernel⟩, List.mem_of_getElem? (i := 659) (by decide +kernel), List.mem_of_getElem? (i := 790) (by decide +kernel), List.mem_of_getElem? (i := 791) (by decide +kernel)⟩
theorem lw_p28 : lw_okq (⟨"WindowCopiesModel", "saves", "(I)I"⟩, 21) := ⟨⟨by decide +kernel, by decide +kernel⟩, List.mem_of_getElem? (i := 659) (by decide +kernel), List.mem_of_getElem? (i := 794) (by decide +kernel), List.mem_of_getElem? (i := 795) (by decide +kernel)⟩
theorem lw_p29 : lw_okq (⟨"WindowCopiesModel", "lays", "(I)V"⟩, 21) := ⟨⟨by decide +kernel, by decide +kernel⟩, List.mem_of_getElem? (i := 659) (by decide +kernel), List.mem_of_getElem? (i := 806) (by decide +kernel), List.mem_of_getElem? (i := 807) (by decide +kernel)⟩
theorem lw_p30 : lw_okq (⟨"WindowCopiesModel", "weighs", "(I)V"⟩, 21) := ⟨⟨by decide +kernel, by decide +kernel⟩, List.mem_of_getElem? (i := 659) (by decide +kernel), List.mem_of_getElem? (i := 810) (by decide +kernel), List.mem_of_getElem? (i := 811) (by decide +kernel)⟩
theorem lw_p31 : lw_okq (⟨"WindowCopiesModel", "takes", "(II)Z"⟩, 21) := ⟨⟨by decide +kernel, by decide +kernel⟩, List.mem_of_getElem? (i := 659) (by decide +kernel), List.mem_of_getElem? (i := 814) (by decide +kernel), List.mem_of_getElem? (i := 815) (by decide +kernel)⟩
def lw_privs_2 : List (MethodName × Nat) := [(⟨"WindowCopies$TextReader", "digitAt", "(I)I"⟩, 6), (⟨"WindowCopies$TextReader", "blame", "(II)V"⟩, 6), (⟨"WindowCopies$TextReader", "takeSign", "(I)V"⟩, 6), (⟨"WindowCopies$TextReader", "reasonAgainst", "(II)I"⟩, 6), (⟨"WindowCopies$TextReader", "takeLetter", "(I)V"⟩, 6), (⟨"WindowCopiesModel", "changes", "()V"⟩, 21), (⟨"WindowCopiesModel", "isPlace", "(I)Z"⟩, 21), (⟨"WindowCopiesModel", "distance", "(II)I"⟩, 21), (⟨"WindowCopiesModel", "isCandidate", "(II)Z"⟩, 21), (⟨"WindowCopiesModel", "reach", "(II)I"⟩, 21), (⟨"WindowCopiesModel", "candidates", "(I)I"⟩, 21), (⟨"WindowCopiesModel", "best", "(I)I"⟩, 21), (⟨"WindowCopiesModel", "saves", "(I)I"⟩, 21), (⟨"WindowCopiesModel", "lays", "(I)V"⟩, 21), (⟨"WindowCopiesModel", "weighs", "(I)V"⟩, 21), (⟨"WindowCopiesModel", "takes", "(II)Z"⟩, 21)]
theorem lw_r2 : ∀ q ∈ lw_privs_2, lw_okq q := List.forall_mem_cons.mpr ⟨lw_p16, List.forall_mem_cons.mpr ⟨lw_p17, List.forall_mem_cons.mpr ⟨lw_p18, List.forall_mem_cons.mpr ⟨lw_p19, List.forall_mem_cons.mpr ⟨lw_p20, List.forall_mem_cons.mpr ⟨lw_p21, List.forall_mem_cons.mpr ⟨lw_p22, List.forall_mem_cons.mpr ⟨lw_p23, List.forall_mem_cons.mpr ⟨lw_p24, List.forall_mem_cons.mpr ⟨lw_p25, List.forall_mem_cons.mpr ⟨lw_p26, List.forall_mem_cons.mpr ⟨lw_p27, List.forall_mem_cons.mpr ⟨lw_p28, List.forall_mem_cons.mpr ⟨lw_p29, List.forall_mem_cons.mpr ⟨lw_p30, List.forall_mem_cons.mpr ⟨lw_p31, fun _ h => absurd h List.not_mem_nil⟩⟩⟩⟩⟩⟩⟩⟩⟩⟩⟩⟩⟩⟩⟩⟩
theorem lw_p32 : lw_okq (⟨"WindowCopiesModel", "savesMore", "(II)Z"⟩, 21) := ⟨⟨by decide +kernel, by decide +kernel⟩, List.mem_of_getElem? (i := 659) (by decide +kernel), List.mem_of_getElem? (i := 818) (by decide +kernel), List.mem_of_getElem? (i := 819) (by decide +kernel)⟩
theorem lw_p33 : lw_okq (⟨"WindowCopiesModel", "cost", "(I)I"⟩, 21) := ⟨⟨by decide +kernel, by decide +kernel⟩, List.mem_of_getElem? (i := 659) (by decide +kernel), List.mem_of_getElem? (i := 822) (by decide +kernel), List.mem_of_getElem? (i := 823) (by decide +kernel)⟩
theorem lw_p34 : lw_okq (⟨"WindowCopiesModel", "costAll", "(I)I"⟩, 21) := ⟨⟨by decide +kernel, by decide +kernel⟩, List.mem_of_getElem? (i := 659) (by decide +kernel), List.mem_of_getElem? (i := 830) (by decide +kernel), List.mem_of_getElem? (i := 831) (by decide +kernel)⟩
theorem lw_p35 : lw_okq (⟨"WindowCopiesModel", "stretch", "(II)I"⟩, 21) := ⟨⟨by decide +kernel, by decide +kernel⟩, List.mem_of_getElem? (i := 659) (by decide +kernel), List.mem_of_getElem? (i := 846) (by decide +kernel), List.mem_of_getElem? (i := 847) (by decide +kernel)⟩
theorem lw_p36 : lw_okq (⟨"WindowCopiesModel", "unlike", "()I"⟩, 21) := ⟨⟨by decide +kernel, by decide +kernel⟩, List.mem_of_getElem? (i := 659) (by decide +kernel), List.mem_of_getElem? (i := 854) (by decide +kernel), List.mem_of_getElem? (i := 855) (by decide +kernel)⟩
theorem lw_p37 : lw_okq (⟨"WindowCopiesModel", "cheapest", "()I"⟩, 21) := ⟨⟨by decide +kernel, by decide +kernel⟩, List.mem_of_getElem? (i := 659) (by decide +kernel), List.mem_of_getElem? (i := 858) (by decide +kernel), List.mem_of_getElem? (i := 859) (by decide +kernel)⟩
theorem lw_p38 : lw_okq (⟨"WindowCopiesModel", "writesSign", "(I)V"⟩, 21) := ⟨⟨by decide +kernel, by decide +kernel⟩, List.mem_of_getElem? (i := 659) (by decide +kernel), List.mem_of_getElem? (i := 892) (by decide +kernel), List.mem_of_getElem? (i := 893) (by decide +kernel)⟩
theorem lw_p39 : lw_okq (⟨"WindowCopiesModel", "writesNumber", "(I)V"⟩, 21) := ⟨⟨by decide +kernel, by decide +kernel⟩, List.mem_of_getElem? (i := 659) (by decide +kernel), List.mem_of_getElem? (i := 896) (by decide +kernel), List.mem_of_getElem? (i := 897) (by decide +kernel)⟩
theorem lw_p40 : lw_okq (⟨"WindowCopiesModel", "isRight", "()Z"⟩, 21) := ⟨⟨by decide +kernel, by decide +kernel⟩, List.mem_of_getElem? (i := 659) (by decide +kernel), List.mem_of_getElem? (i := 904) (by decide +kernel), List.mem_of_getElem? (i := 905) (by decide +kernel)⟩
theorem lw_p41 : lw_okq (⟨"WindowCopiesModel", "isAt", "(II)Z"⟩, 21) := ⟨⟨by decide +kernel, by decide +kernel⟩, List.mem_of_getElem? (i := 659) (by decide +kernel), List.mem_of_getElem? (i := 908) (by decide +kernel), List.mem_of_getElem? (i := 909) (by decide +kernel)⟩
theorem lw_p42 : lw_okq (⟨"WindowCopiesModel", "readsCopy", "()Z"⟩, 21) := ⟨⟨by decide +kernel, by decide +kernel⟩, List.mem_of_getElem? (i := 659) (by decide +kernel), List.mem_of_getElem? (i := 912) (by decide +kernel), List.mem_of_getElem? (i := 913) (by decide +kernel)⟩
theorem lw_p43 : lw_okq (⟨"WindowCopiesModel", "numbered", "()Z"⟩, 21) := ⟨⟨by decide +kernel, by decide +kernel⟩, List.mem_of_getElem? (i := 659) (by decide +kernel), List.mem_of_getElem? (i := 916) (by decide +kernel), List.mem_of_getElem? (i := 917) (by decide +kernel)⟩
theorem lw_p44 : lw_okq (⟨"WindowCopiesModel", "fails", "(I)Z"⟩, 21) := ⟨⟨by decide +kernel, by decide +kernel⟩, List.mem_of_getElem? (i := 659) (by decide +kernel), List.mem_of_getElem? (i := 920) (by decide +kernel), List.mem_of_getElem? (i := 921) (by decide +kernel)⟩
theorem lw_p45 : lw_okq (⟨"WindowCopiesModel", "sign", "(I)Z"⟩, 21) := ⟨⟨by decide +kernel, by decide +kernel⟩, List.mem_of_getElem? (i := 659) (by decide +kernel), List.mem_of_getElem? (i := 924) (by decide +kernel), List.mem_of_getElem? (i := 925) (by decide +kernel)⟩
theorem lw_p46 : lw_okq (⟨"WindowCopiesModel", "wrong", "(II)I"⟩, 21) := ⟨⟨by decide +kernel, by decide +kernel⟩, List.mem_of_getElem? (i := 659) (by decide +kernel), List.mem_of_getElem? (i := 928) (by decide +kernel), List.mem_of_getElem? (i := 929) (by decide +kernel)⟩
theorem lw_p47 : lw_okq (⟨"WindowCopiesModel", "readsLetter", "()Z"⟩, 21) := ⟨⟨by decide +kernel, by decide +kernel⟩, List.mem_of_getElem? (i := 659) (by decide +kernel), List.mem_of_getElem? (i := 932) (by decide +kernel), List.mem_of_getElem? (i := 933) (by decide +kernel)⟩
def lw_privs_3 : List (MethodName × Nat) := [(⟨"WindowCopiesModel", "savesMore", "(II)Z"⟩, 21), (⟨"WindowCopiesModel", "cost", "(I)I"⟩, 21), (⟨"WindowCopiesModel", "costAll", "(I)I"⟩, 21), (⟨"WindowCopiesModel", "stretch", "(II)I"⟩, 21), (⟨"WindowCopiesModel", "unlike", "()I"⟩, 21), (⟨"WindowCopiesModel", "cheapest", "()I"⟩, 21), (⟨"WindowCopiesModel", "writesSign", "(I)V"⟩, 21), (⟨"WindowCopiesModel", "writesNumber", "(I)V"⟩, 21), (⟨"WindowCopiesModel", "isRight", "()Z"⟩, 21), (⟨"WindowCopiesModel", "isAt", "(II)Z"⟩, 21), (⟨"WindowCopiesModel", "readsCopy", "()Z"⟩, 21), (⟨"WindowCopiesModel", "numbered", "()Z"⟩, 21), (⟨"WindowCopiesModel", "fails", "(I)Z"⟩, 21), (⟨"WindowCopiesModel", "sign", "(I)Z"⟩, 21), (⟨"WindowCopiesModel", "wrong", "(II)I"⟩, 21), (⟨"WindowCopiesModel", "readsLetter", "()Z"⟩, 21)]
theorem lw_r3 : ∀ q ∈ lw_privs_3, lw_okq q := List.forall_mem_cons.mpr ⟨lw_p32, List.forall_mem_cons.mpr ⟨lw_p33, List.forall_mem_cons.mpr ⟨lw_p34, List.forall_mem_cons.mpr ⟨lw_p35, List.forall_mem_cons.mpr ⟨lw_p36, List.forall_mem_cons.mpr ⟨lw_p37, List.forall_mem_cons.mpr ⟨lw_p38, List.forall_mem_cons.mpr ⟨lw_p39, List.forall_mem_cons.mpr ⟨lw_p40, List.forall_mem_cons.mpr ⟨lw_p41, List.forall_mem_cons.mpr ⟨lw_p42, List.forall_mem_cons.mpr ⟨lw_p43, List.forall_mem_cons.mpr ⟨lw_p44, List.forall_mem_cons.mpr ⟨lw_p45, List.forall_mem_cons.mpr ⟨lw_p46, List.forall_mem_cons.mpr ⟨lw_p47, fun _ h => absurd h List.not_mem_nil⟩⟩⟩⟩⟩⟩⟩⟩⟩⟩⟩⟩⟩⟩⟩⟩
def lw_privs : List (MethodName × Nat) := lw_privs_1 ++ (lw_privs_2 ++ (lw_privs_3))
def lw_tbl : List Cond := k2_sels lw_privs ++ tables_1
theorem lw_privs_ok : ∀ q ∈ lw_privs, lw_okq q := by
  show ∀ q ∈ lw_privs_1 ++ (lw_privs_2 ++ (lw_privs_3)), lw_okq q
  exact List.forall_mem_append.mpr ⟨lw_r1, List.forall_mem_append.mpr ⟨lw_r2, lw_r3⟩⟩
/-! the words that every method of mine asks: those of lw_tbl that stay under warmer tables -/
def gT : List Cond := lw_tbl.filter goodWord
theorem gT_of {w : Cond} (h : w ∈ lw_tbl) (hg : goodWord w = true) : w ∈ gT := List.mem_filter.mpr ⟨h, hg⟩
theorem gT_t {w : Cond} (i : Nat) (h : tables_1[i]? = some w) (hg : goodWord w = true) : w ∈ gT := gT_of (List.mem_append_right _ (List.mem_of_getElem? h)) hg
theorem gT_p {q : MethodName × Nat} (i : Nat) (h : lw_privs[i]? = some q) : Cond.selects q.1.cls q.1 q.1 ∈ gT := gT_of (List.mem_append_left _ (List.mem_map.mpr ⟨q, List.mem_of_getElem? h, rfl⟩)) rfl
theorem gT_good {w : Cond} (h : w ∈ gT) : (w.onTables && w.keeps) = true ∨ ∃ ty, w = .arrayClass ty := good_of_word (List.mem_filter.mp h).2
theorem gT_in {w : Cond} (h : w ∈ gT) : w ∈ lw_tbl := (List.mem_filter.mp h).1
abbrev y_WC_init : MethodName := ⟨"WindowCopies", "<init>", "()V"⟩
abbrev i_WC_init : MethodName × ByteArray × Nat × Option FieldType × Nat × Nat := (y_WC_init, prog_1_method_1_code, 1, none, 0, 3)
abbrev y_WC_put : MethodName := ⟨"WindowCopies", "put", "(I)I"⟩
abbrev i_WC_put : MethodName × ByteArray × Nat × Option FieldType × Nat × Nat := (y_WC_put, prog_1_method_2_code, 2, (some .int), 1, 5)
abbrev y_WC_drop : MethodName := ⟨"WindowCopies", "drop", "(I)I"⟩
abbrev i_WC_drop : MethodName × ByteArray × Nat × Option FieldType × Nat × Nat := (y_WC_drop, prog_1_method_3_code, 2, (some .int), 1, 5)
abbrev y_WC_mend : MethodName := ⟨"WindowCopies", "mend", "(II)I"⟩
abbrev i_WC_mend : MethodName × ByteArray × Nat × Option FieldType × Nat × Nat := (y_WC_mend, prog_1_method_4_code, 4, (some .int), 2, 5)
abbrev y_WC_set : MethodName := ⟨"WindowCopies", "set", "(II)I"⟩
abbrev i_WC_set : MethodName × ByteArray × Nat × Option FieldType × Nat × Nat := (y_WC_set, prog_1_method_5_code, 4, (some .int), 2, 5)
abbrev y_WC_letter : MethodName := ⟨"WindowCopies", "letter", "(I)I"⟩
abbrev i_WC_letter : MethodName × ByteArray × Nat × Option FieldType × Nat × Nat := (y_WC_letter, prog_1_method_6_code, 2, (some .int), 1, 2)
abbrev y_WC_candidate : MethodName := ⟨"WindowCopies", "candidate", "(III)I"⟩
abbrev i_WC_candidate : MethodName × ByteArray × Nat × Option FieldType × Nat × Nat := (y_WC_candidate, prog_1_method_7_code, 4, (some .int), 3, 4)
abbrev y_WC_found : MethodName := ⟨"WindowCopies", "found", "(II)I"⟩
abbrev i_WC_found : MethodName × ByteArray × Nat × Option FieldType × Nat × Nat := (y_WC_found, prog_1_method_8_code, 4, (some .int), 2, 4)
abbrev y_WC_isCopy : MethodName := ⟨"WindowCopies", "isCopy", "(III)I"⟩
abbrev i_WC_isCopy : MethodName × ByteArray × Nat × Option FieldType × Nat × Nat := (y_WC_isCopy, prog_1_method_9_code, 6, (some .int), 3, 3)
abbrev y_WC_part : MethodName := ⟨"WindowCopies", "part", "(III)I"⟩
abbrev i_WC_part : MethodName × ByteArray × Nat × Option FieldType × Nat × Nat := (y_WC_part, prog_1_method_10_code, 5, (some .int), 3, 5)
abbrev y_WC_total : MethodName := ⟨"WindowCopies", "total", "(II)I"⟩
abbrev i_WC_total : MethodName × ByteArray × Nat × Option FieldType × Nat × Nat := (y_WC_total, prog_1_method_11_code, 3, (some .int), 2, 5)
abbrev y_WC_partAt : MethodName := ⟨"WindowCopies", "partAt", "(II)I"⟩
abbrev i_WC_partAt : MethodName × ByteArray × Nat × Option FieldType × Nat × Nat := (y_WC_partAt, prog_1_method_12_code, 3, (some .int), 2, 5)
abbrev y_WC_parting : MethodName := ⟨"WindowCopies", "parting", "(II)I"⟩
abbrev i_WC_parting : MethodName × ByteArray × Nat × Option FieldType × Nat × Nat := (y_WC_parting, prog_1_method_13_code, 4, (some .int), 2, 5)
abbrev y_WC_repeat : MethodName := ⟨"WindowCopies", "repeat", "(I)I"⟩
abbrev i_WC_repeat : MethodName × ByteArray × Nat × Option FieldType × Nat × Nat := (y_WC_repeat, prog_1_method_14_code, 2, (some .int), 1, 4)
abbrev y_WC_count : MethodName := ⟨"WindowCopies", "count", "(I)I"⟩
abbrev i_WC_count : MethodName × ByteArray × Nat × Option FieldType × Nat × Nat := (y_WC_count, prog_1_method_15_code, 2, (some .int), 1, 6)
abbrev y_WC_settingCount : MethodName := ⟨"WindowCopies", "settingCount", "(I)I"⟩
abbrev i_WC_settingCount : MethodName × ByteArray × Nat × Option FieldType × Nat × Nat := (y_WC_settingCount, prog_1_method_16_code, 2, (some .int), 1, 2)
abbrev y_WC_cheapestWay : MethodName := ⟨"WindowCopies", "cheapestWay", "()I"⟩
abbrev i_WC_cheapestWay : MethodName × ByteArray × Nat × Option FieldType × Nat × Nat := (y_WC_cheapestWay, prog_1_method_17_code, 4, (some .int), 0, 5)
abbrev y_WC_keep : MethodName := ⟨"WindowCopies", "keep", "()I"⟩
abbrev i_WC_keep : MethodName × ByteArray × Nat × Option FieldType × Nat × Nat := (y_WC_keep, prog_1_method_18_code, 1, (some .int), 0, 4)
abbrev y_WC_restore : MethodName := ⟨"WindowCopies", "restore", "()I"⟩
abbrev i_WC_restore : MethodName × ByteArray × Nat × Option FieldType × Nat × Nat := (y_WC_restore, prog_1_method_19_code, 1, (some .int), 0, 5)
abbrev y_WC_undo : MethodName := ⟨"WindowCopies", "undo", "()I"⟩
abbrev i_WC_undo : MethodName × ByteArray × Nat × Option FieldType × Nat × Nat := (y_WC_undo, prog_1_method_20_code, 1, (some .int), 0, 5)
abbrev y_WC_type : MethodName := ⟨"WindowCopies", "type", "(I)I"⟩
abbrev i_WC_type : MethodName × ByteArray × Nat × Option FieldType × Nat × Nat := (y_WC_type, prog_1_method_21_code, 2, (some .int), 1, 2)
abbrev y_WC_clearText : MethodName := ⟨"WindowCopies", "clearText", "()I"⟩
abbrev i_WC_clearText : MethodName × ByteArray × Nat × Option FieldType × Nat × Nat := (y_WC_clearText, prog_1_method_22_code, 2, (some .int), 0, 1)
abbrev y_WC_write : MethodName := ⟨"WindowCopies", "write", "(I)I"⟩
abbrev i_WC_write : MethodName × ByteArray × Nat × Option FieldType × Nat × Nat := (y_WC_write, prog_1_method_23_code, 5, (some .int), 1, 5)
abbrev y_WC_charactersOf : MethodName := ⟨"WindowCopies", "charactersOf", "(I)I"⟩
abbrev i_WC_charactersOf : MethodName × ByteArray × Nat × Option FieldType × Nat × Nat := (y_WC_charactersOf, prog_1_method_24_code, 6, (some .int), 1, 2)
abbrev y_WC_fault : MethodName := ⟨"WindowCopies", "fault", "(I)I"⟩
abbrev i_WC_fault : MethodName × ByteArray × Nat × Option FieldType × Nat × Nat := (y_WC_fault, prog_1_method_25_code, 2, (some .int), 1, 6)
abbrev y_WC_read : MethodName := ⟨"WindowCopies", "read", "()I"⟩
abbrev i_WC_read : MethodName × ByteArray × Nat × Option FieldType × Nat × Nat := (y_WC_read, prog_1_method_26_code, 1, (some .int), 0, 6)
abbrev y_WC_isIn : MethodName := ⟨"WindowCopies", "isIn", "(III)Z"⟩
abbrev i_WC_isIn : MethodName × ByteArray × Nat × Option FieldType × Nat × Nat := (y_WC_isIn, prog_1_method_27_code, 3, (some .boolean), 3, 0)
abbrev y_WC_isLetter : MethodName := ⟨"WindowCopies", "isLetter", "(I)Z"⟩
abbrev i_WC_isLetter : MethodName × ByteArray × Nat × Option FieldType × Nat × Nat := (y_WC_isLetter, prog_1_method_28_code, 1, (some .boolean), 1, 1)
abbrev y_WC_isWay : MethodName := ⟨"WindowCopies", "isWay", "(I)Z"⟩
abbrev i_WC_isWay : MethodName × ByteArray × Nat × Option FieldType × Nat × Nat := (y_WC_isWay, prog_1_method_29_code, 1, (some .boolean), 1, 1)
abbrev y_WC_at : MethodName := ⟨"WindowCopies", "at", "([II)I"⟩
abbrev i_WC_at : MethodName × ByteArray × Nat × Option FieldType × Nat × Nat := (y_WC_at, prog_1_method_30_code, 2, (some .int), 2, 0)
abbrev y_WC_store : MethodName := ⟨"WindowCopies", "store", "([III)V"⟩
abbrev i_WC_store : MethodName × ByteArray × Nat × Option FieldType × Nat × Nat := (y_WC_store, prog_1_method_31_code, 3, none, 3, 0)
abbrev y_Mo_init : MethodName := ⟨"WindowCopiesModel", "<init>", "()V"⟩
abbrev i_Mo_init : MethodName × ByteArray × Nat × Option FieldType × Nat × Nat := (y_Mo_init, prog_10_method_1_code, 1, none, 0, 1)
abbrev y_Mo_in : MethodName := ⟨"WindowCopiesModel", "in", "(III)Z"⟩
abbrev i_Mo_in : MethodName × ByteArray × Nat × Option FieldType × Nat × Nat := (y_Mo_in, prog_10_method_3_code, 3, (some .boolean), 3, 0)
abbrev y_Mo_copies : MethodName := ⟨"WindowCopiesModel", "copies", "([I[I)V"⟩
abbrev i_Mo_copies : MethodName × ByteArray × Nat × Option FieldType × Nat × Nat := (y_Mo_copies, prog_10_method_4_code, 3, none, 2, 0)
abbrev y_Mo_changes : MethodName := ⟨"WindowCopiesModel", "changes", "()V"⟩
abbrev i_Mo_changes : MethodName × ByteArray × Nat × Option FieldType × Nat × Nat := (y_Mo_changes, prog_10_method_5_code, 2, none, 0, 0)
abbrev y_Mo_isPlace : MethodName := ⟨"WindowCopiesModel", "isPlace", "(I)Z"⟩
abbrev i_Mo_isPlace : MethodName × ByteArray × Nat × Option FieldType × Nat × Nat := (y_Mo_isPlace, prog_10_method_6_code, 2, (some .boolean), 1, 0)
abbrev y_Mo_put : MethodName := ⟨"WindowCopiesModel", "put", "(I)I"⟩
abbrev i_Mo_put : MethodName × ByteArray × Nat × Option FieldType × Nat × Nat := (y_Mo_put, prog_10_method_7_code, 2, (some .int), 1, 1)
abbrev y_Mo_drop : MethodName := ⟨"WindowCopiesModel", "drop", "(I)I"⟩
abbrev i_Mo_drop : MethodName × ByteArray × Nat × Option FieldType × Nat × Nat := (y_Mo_drop, prog_10_method_8_code, 2, (some .int), 1, 1)
abbrev y_Mo_mend : MethodName := ⟨"WindowCopiesModel", "mend", "(II)I"⟩
abbrev i_Mo_mend : MethodName × ByteArray × Nat × Option FieldType × Nat × Nat := (y_Mo_mend, prog_10_method_9_code, 4, (some .int), 2, 1)
abbrev y_Mo_least : MethodName := ⟨"WindowCopiesModel", "least", "(I)I"⟩
abbrev i_Mo_least : MethodName × ByteArray × Nat × Option FieldType × Nat × Nat := (y_Mo_least, prog_10_method_10_code, 1, (some .int), 1, 0)
abbrev y_Mo_most : MethodName := ⟨"WindowCopiesModel", "most", "(I)I"⟩
abbrev i_Mo_most : MethodName × ByteArray × Nat × Option FieldType × Nat × Nat := (y_Mo_most, prog_10_method_11_code, 1, (some .int), 1, 0)
abbrev y_Mo_set : MethodName := ⟨"WindowCopiesModel", "set", "(II)I"⟩
abbrev i_Mo_set : MethodName × ByteArray × Nat × Option FieldType × Nat × Nat := (y_Mo_set, prog_10_method_12_code, 4, (some .int), 2, 1)
abbrev y_Mo_letter : MethodName := ⟨"WindowCopiesModel", "letter", "(I)I"⟩
abbrev i_Mo_letter : MethodName × ByteArray × Nat × Option FieldType × Nat × Nat := (y_Mo_letter, prog_10_method_13_code, 2, (some .int), 1, 1)
abbrev y_Mo_reach : MethodName := ⟨"WindowCopiesModel", "reach", "(II)I"⟩
abbrev i_Mo_reach : MethodName × ByteArray × Nat × Option FieldType × Nat × Nat := (y_Mo_reach, prog_10_method_14_code, 4, (some .int), 2, 0)
abbrev y_Mo_isCandidate : MethodName := ⟨"WindowCopiesModel", "isCandidate", "(II)Z"⟩
abbrev i_Mo_isCandidate : MethodName × ByteArray × Nat × Option FieldType × Nat × Nat := (y_Mo_isCandidate, prog_10_method_15_code, 3, (some .boolean), 2, 1)
abbrev y_Mo_candidates : MethodName := ⟨"WindowCopiesModel", "candidates", "(I)I"⟩
abbrev i_Mo_candidates : MethodName × ByteArray × Nat × Option FieldType × Nat × Nat := (y_Mo_candidates, prog_10_method_16_code, 4, (some .int), 1, 2)
abbrev y_Mo_distance : MethodName := ⟨"WindowCopiesModel", "distance", "(II)I"⟩
abbrev i_Mo_distance : MethodName × ByteArray × Nat × Option FieldType × Nat × Nat := (y_Mo_distance, prog_10_method_17_code, 5, (some .int), 2, 2)
abbrev y_Mo_candidate : MethodName := ⟨"WindowCopiesModel", "candidate", "(III)I"⟩
abbrev i_Mo_candidate : MethodName × ByteArray × Nat × Option FieldType × Nat × Nat := (y_Mo_candidate, prog_10_method_18_code, 5, (some .int), 3, 3)
abbrev y_Mo_best : MethodName := ⟨"WindowCopiesModel", "best", "(I)I"⟩
abbrev i_Mo_best : MethodName × ByteArray × Nat × Option FieldType × Nat × Nat := (y_Mo_best, prog_10_method_19_code, 6, (some .int), 1, 2)
abbrev y_Mo_saves : MethodName := ⟨"WindowCopiesModel", "saves", "(I)I"⟩
abbrev i_Mo_saves : MethodName × ByteArray × Nat × Option FieldType × Nat × Nat := (y_Mo_saves, prog_10_method_20_code, 2, (some .int), 1, 3)
abbrev y_Mo_found : MethodName := ⟨"WindowCopiesModel", "found", "(II)I"⟩
abbrev i_Mo_found : MethodName × ByteArray × Nat × Option FieldType × Nat × Nat := (y_Mo_found, prog_10_method_21_code, 4, (some .int), 2, 4)
abbrev y_Mo_isCopy : MethodName := ⟨"WindowCopiesModel", "isCopy", "(III)I"⟩
abbrev i_Mo_isCopy : MethodName × ByteArray × Nat × Option FieldType × Nat × Nat := (y_Mo_isCopy, prog_10_method_22_code, 5, (some .int), 3, 1)
abbrev y_Mo_savesMore : MethodName := ⟨"WindowCopiesModel", "savesMore", "(II)Z"⟩
abbrev i_Mo_savesMore : MethodName × ByteArray × Nat × Option FieldType × Nat × Nat := (y_Mo_savesMore, prog_10_method_23_code, 3, (some .boolean), 2, 4)
abbrev y_Mo_takes : MethodName := ⟨"WindowCopiesModel", "takes", "(II)Z"⟩
abbrev i_Mo_takes : MethodName × ByteArray × Nat × Option FieldType × Nat × Nat := (y_Mo_takes, prog_10_method_24_code, 4, (some .boolean), 2, 5)
abbrev y_Mo_weighs : MethodName := ⟨"WindowCopiesModel", "weighs", "(I)V"⟩
abbrev i_Mo_weighs : MethodName × ByteArray × Nat × Option FieldType × Nat × Nat := (y_Mo_weighs, prog_10_method_25_code, 6, none, 1, 2)
abbrev y_Mo_lays : MethodName := ⟨"WindowCopiesModel", "lays", "(I)V"⟩
abbrev i_Mo_lays : MethodName × ByteArray × Nat × Option FieldType × Nat × Nat := (y_Mo_lays, prog_10_method_26_code, 4, none, 1, 6)
abbrev y_Mo_cost : MethodName := ⟨"WindowCopiesModel", "cost", "(I)I"⟩
abbrev i_Mo_cost : MethodName × ByteArray × Nat × Option FieldType × Nat × Nat := (y_Mo_cost, prog_10_method_27_code, 2, (some .int), 1, 0)
abbrev y_Mo_part : MethodName := ⟨"WindowCopiesModel", "part", "(III)I"⟩
abbrev i_Mo_part : MethodName × ByteArray × Nat × Option FieldType × Nat × Nat := (y_Mo_part, prog_10_method_28_code, 4, (some .int), 3, 7)
abbrev y_Mo_costAll : MethodName := ⟨"WindowCopiesModel", "costAll", "(I)I"⟩
abbrev i_Mo_costAll : MethodName × ByteArray × Nat × Option FieldType × Nat × Nat := (y_Mo_costAll, prog_10_method_29_code, 4, (some .int), 1, 7)
abbrev y_Mo_total : MethodName := ⟨"WindowCopiesModel", "total", "(II)I"⟩
abbrev i_Mo_total : MethodName × ByteArray × Nat × Option FieldType × Nat × Nat := (y_Mo_total, prog_10_method_30_code, 9, (some .int), 2, 8)
abbrev y_Mo_partAt : MethodName := ⟨"WindowCopiesModel", "partAt", "(II)I"⟩
abbrev i_Mo_partAt : MethodName × ByteArray × Nat × Option FieldType × Nat × Nat := (y_Mo_partAt, prog_10_method_31_code, 4, (some .int), 2, 7)
abbrev y_Mo_parting : MethodName := ⟨"WindowCopiesModel", "parting", "(II)I"⟩
abbrev i_Mo_parting : MethodName × ByteArray × Nat × Option FieldType × Nat × Nat := (y_Mo_parting, prog_10_method_32_code, 5, (some .int), 2, 7)
abbrev y_Mo_stretch : MethodName := ⟨"WindowCopiesModel", "stretch", "(II)I"⟩
abbrev i_Mo_stretch : MethodName × ByteArray × Nat × Option FieldType × Nat × Nat := (y_Mo_stretch, prog_10_method_33_code, 4, (some .int), 2, 0)
abbrev y_Mo_repeat : MethodName := ⟨"WindowCopiesModel", "repeat", "(I)I"⟩
abbrev i_Mo_repeat : MethodName × ByteArray × Nat × Option FieldType × Nat × Nat := (y_Mo_repeat, prog_10_method_34_code, 8, (some .int), 1, 1)
abbrev y_Mo_unlike : MethodName := ⟨"WindowCopiesModel", "unlike", "()I"⟩
abbrev i_Mo_unlike : MethodName × ByteArray × Nat × Option FieldType × Nat × Nat := (y_Mo_unlike, prog_10_method_35_code, 4, (some .int), 0, 0)
abbrev y_Mo_cheapest : MethodName := ⟨"WindowCopiesModel", "cheapest", "()I"⟩
abbrev i_Mo_cheapest : MethodName × ByteArray × Nat × Option FieldType × Nat × Nat := (y_Mo_cheapest, prog_10_method_36_code, 2, (some .int), 0, 8)
abbrev y_Mo_count : MethodName := ⟨"WindowCopiesModel", "count", "(I)I"⟩
abbrev i_Mo_count : MethodName × ByteArray × Nat × Option FieldType × Nat × Nat := (y_Mo_count, prog_10_method_37_code, 2, (some .int), 1, 9)
abbrev y_Mo_keep : MethodName := ⟨"WindowCopiesModel", "keep", "()I"⟩
abbrev i_Mo_keep : MethodName × ByteArray × Nat × Option FieldType × Nat × Nat := (y_Mo_keep, prog_10_method_38_code, 1, (some .int), 0, 1)
abbrev y_Mo_restore : MethodName := ⟨"WindowCopiesModel", "restore", "()I"⟩
abbrev i_Mo_restore : MethodName × ByteArray × Nat × Option FieldType × Nat × Nat := (y_Mo_restore, prog_10_method_39_code, 1, (some .int), 0, 1)
abbrev y_Mo_undo : MethodName := ⟨"WindowCopiesModel", "undo", "()I"⟩
abbrev i_Mo_undo : MethodName × ByteArray × Nat × Option FieldType × Nat × Nat := (y_Mo_undo, prog_10_method_40_code, 2, (some .int), 0, 0)
abbrev y_Mo_type : MethodName := ⟨"WindowCopiesModel", "type", "(I)I"⟩
abbrev i_Mo_type : MethodName × ByteArray × Nat × Option FieldType × Nat × Nat := (y_Mo_type, prog_10_method_41_code, 2, (some .int), 1, 1)
abbrev y_Mo_clearText : MethodName := ⟨"WindowCopiesModel", "clearText", "()I"⟩
abbrev i_Mo_clearText : MethodName × ByteArray × Nat × Option FieldType × Nat × Nat := (y_Mo_clearText, prog_10_method_42_code, 2, (some .int), 0, 0)
abbrev y_Mo_digits : MethodName := ⟨"WindowCopiesModel", "digits", "(I)I"⟩
abbrev i_Mo_digits : MethodName × ByteArray × Nat × Option FieldType × Nat × Nat := (y_Mo_digits, prog_10_method_43_code, 1, (some .int), 1, 0)
abbrev y_Mo_writesNumber : MethodName := ⟨"WindowCopiesModel", "writesNumber", "(I)V"⟩
abbrev i_Mo_writesNumber : MethodName × ByteArray × Nat × Option FieldType × Nat × Nat := (y_Mo_writesNumber, prog_10_method_44_code, 2, none, 1, 0)
abbrev y_Mo_writesSign : MethodName := ⟨"WindowCopiesModel", "writesSign", "(I)V"⟩
abbrev i_Mo_writesSign : MethodName × ByteArray × Nat × Option FieldType × Nat × Nat := (y_Mo_writesSign, prog_10_method_45_code, 2, none, 1, 0)
abbrev y_Mo_write : MethodName := ⟨"WindowCopiesModel", "write", "(I)I"⟩
abbrev i_Mo_write : MethodName × ByteArray × Nat × Option FieldType × Nat × Nat := (y_Mo_write, prog_10_method_46_code, 4, (some .int), 1, 7)
abbrev y_Mo_isAt : MethodName := ⟨"WindowCopiesModel", "isAt", "(II)Z"⟩
abbrev i_Mo_isAt : MethodName × ByteArray × Nat × Option FieldType × Nat × Nat := (y_Mo_isAt, prog_10_method_47_code, 3, (some .boolean), 2, 1)
abbrev y_Mo_fails : MethodName := ⟨"WindowCopiesModel", "fails", "(I)Z"⟩
abbrev i_Mo_fails : MethodName × ByteArray × Nat × Option FieldType × Nat × Nat := (y_Mo_fails, prog_10_method_48_code, 2, (some .boolean), 1, 0)
abbrev y_Mo_sign : MethodName := ⟨"WindowCopiesModel", "sign", "(I)Z"⟩
abbrev i_Mo_sign : MethodName × ByteArray × Nat × Option FieldType × Nat × Nat := (y_Mo_sign, prog_10_method_49_code, 3, (some .boolean), 1, 2)
abbrev y_Mo_numbered : MethodName := ⟨"WindowCopiesModel", "numbered", "()Z"⟩
abbrev i_Mo_numbered : MethodName × ByteArray × Nat × Option FieldType × Nat × Nat := (y_Mo_numbered, prog_10_method_50_code, 1, (some .boolean), 0, 2)
abbrev y_Mo_wrong : MethodName := ⟨"WindowCopiesModel", "wrong", "(II)I"⟩
abbrev i_Mo_wrong : MethodName × ByteArray × Nat × Option FieldType × Nat × Nat := (y_Mo_wrong, prog_10_method_51_code, 4, (some .int), 2, 1)
abbrev y_Mo_readsCopy : MethodName := ⟨"WindowCopiesModel", "readsCopy", "()Z"⟩
abbrev i_Mo_readsCopy : MethodName × ByteArray × Nat × Option FieldType × Nat × Nat := (y_Mo_readsCopy, prog_10_method_52_code, 5, (some .boolean), 0, 3)
abbrev y_Mo_readsLetter : MethodName := ⟨"WindowCopiesModel", "readsLetter", "()Z"⟩
abbrev i_Mo_readsLetter : MethodName × ByteArray × Nat × Option FieldType × Nat × Nat := (y_Mo_readsLetter, prog_10_method_53_code, 1, (some .boolean), 0, 2)
abbrev y_Mo_isRight : MethodName := ⟨"WindowCopiesModel", "isRight", "()Z"⟩
abbrev i_Mo_isRight : MethodName × ByteArray × Nat × Option FieldType × Nat × Nat := (y_Mo_isRight, prog_10_method_54_code, 2, (some .boolean), 0, 4)
abbrev y_Mo_fault : MethodName := ⟨"WindowCopiesModel", "fault", "(I)I"⟩
abbrev i_Mo_fault : MethodName × ByteArray × Nat × Option FieldType × Nat × Nat := (y_Mo_fault, prog_10_method_55_code, 2, (some .int), 1, 5)
abbrev y_Mo_read : MethodName := ⟨"WindowCopiesModel", "read", "()I"⟩
abbrev i_Mo_read : MethodName × ByteArray × Nat × Option FieldType × Nat × Nat := (y_Mo_read, prog_10_method_56_code, 2, (some .int), 0, 5)
abbrev y_Cand_init : MethodName := ⟨"WindowCopies$Candidates", "<init>", "(LWindowCopies$State;)V"⟩
abbrev i_Cand_init : MethodName × ByteArray × Nat × Option FieldType × Nat × Nat := (y_Cand_init, prog_2_method_1_code, 2, none, 1, 1)
abbrev y_Cand_beginBehindRow : MethodName := ⟨"WindowCopies$Candidates", "beginBehindRow", "()V"⟩
abbrev i_Cand_beginBehindRow : MethodName × ByteArray × Nat × Option FieldType × Nat × Nat := (y_Cand_beginBehindRow, prog_2_method_2_code, 2, none, 0, 1)
abbrev y_Cand_stepAhead : MethodName := ⟨"WindowCopies$Candidates", "stepAhead", "()V"⟩
abbrev i_Cand_stepAhead : MethodName × ByteArray × Nat × Option FieldType × Nat × Nat := (y_Cand_stepAhead, prog_2_method_3_code, 6, none, 0, 2)
abbrev y_Cand_takeIn : MethodName := ⟨"WindowCopies$Candidates", "takeIn", "(II)V"⟩
abbrev i_Cand_takeIn : MethodName × ByteArray × Nat × Option FieldType × Nat × Nat := (y_Cand_takeIn, prog_2_method_4_code, 3, none, 2, 1)
abbrev y_Cand_lookAt : MethodName := ⟨"WindowCopies$Candidates", "lookAt", "(I)V"⟩
abbrev i_Cand_lookAt : MethodName × ByteArray × Nat × Option FieldType × Nat × Nat := (y_Cand_lookAt, prog_2_method_5_code, 3, none, 1, 3)
abbrev y_Cand_all : MethodName := ⟨"WindowCopies$Candidates", "all", "()I"⟩
abbrev i_Cand_all : MethodName × ByteArray × Nat × Option FieldType × Nat × Nat := (y_Cand_all, prog_2_method_6_code, 1, (some .int), 0, 0)
abbrev y_Cand_lookedAt : MethodName := ⟨"WindowCopies$Candidates", "lookedAt", "()I"⟩
abbrev i_Cand_lookedAt : MethodName × ByteArray × Nat × Option FieldType × Nat × Nat := (y_Cand_lookedAt, prog_2_method_7_code, 1, (some .int), 0, 0)
abbrev y_Cand_distance : MethodName := ⟨"WindowCopies$Candidates", "distance", "(I)I"⟩
abbrev i_Cand_distance : MethodName × ByteArray × Nat × Option FieldType × Nat × Nat := (y_Cand_distance, prog_2_method_8_code, 2, (some .int), 1, 1)
abbrev y_Cand_reach : MethodName := ⟨"WindowCopies$Candidates", "reach", "(I)I"⟩
abbrev i_Cand_reach : MethodName × ByteArray × Nat × Option FieldType × Nat × Nat := (y_Cand_reach, prog_2_method_9_code, 2, (some .int), 1, 1)
abbrev y_Cand_best : MethodName := ⟨"WindowCopies$Candidates", "best", "()I"⟩
abbrev i_Cand_best : MethodName × ByteArray × Nat × Option FieldType × Nat × Nat := (y_Cand_best, prog_2_method_10_code, 4, (some .int), 0, 2)
abbrev y_History_init : MethodName := ⟨"WindowCopies$History", "<init>", "()V"⟩
abbrev i_History_init : MethodName × ByteArray × Nat × Option FieldType × Nat × Nat := (y_History_init, prog_3_method_1_code, 2, none, 0, 2)
abbrev y_History_size : MethodName := ⟨"WindowCopies$History", "size", "()I"⟩
abbrev i_History_size : MethodName × ByteArray × Nat × Option FieldType × Nat × Nat := (y_History_size, prog_3_method_2_code, 1, (some .int), 0, 0)
abbrev y_History_record : MethodName := ⟨"WindowCopies$History", "record", "(LWindowCopies$State;)V"⟩
abbrev i_History_record : MethodName × ByteArray × Nat × Option FieldType × Nat × Nat := (y_History_record, prog_3_method_3_code, 3, none, 1, 4)
abbrev y_History_takeBack : MethodName := ⟨"WindowCopies$History", "takeBack", "(LWindowCopies$State;)V"⟩
abbrev i_History_takeBack : MethodName × ByteArray × Nat × Option FieldType × Nat × Nat := (y_History_takeBack, prog_3_method_4_code, 3, none, 1, 4)
abbrev y_History_stateAt : MethodName := ⟨"WindowCopies$History", "stateAt", "(I)LWindowCopies$State;"⟩
abbrev i_History_stateAt : MethodName × ByteArray × Nat × Option FieldType × Nat × Nat := (y_History_stateAt, prog_3_method_5_code, 3, (some (.object "WindowCopies$State")), 1, 1)
abbrev y_History_slotOf : MethodName := ⟨"WindowCopies$History", "slotOf", "(I)I"⟩
abbrev i_History_slotOf : MethodName × ByteArray × Nat × Option FieldType × Nat × Nat := (y_History_slotOf, prog_3_method_6_code, 2, (some .int), 1, 0)
abbrev y_Plan_init : MethodName := ⟨"WindowCopies$Plan", "<init>", "(LWindowCopies$State;LWindowCopies$Candidates;)V"⟩
abbrev i_Plan_init : MethodName × ByteArray × Nat × Option FieldType × Nat × Nat := (y_Plan_init, prog_4_method_1_code, 3, none, 2, 1)
abbrev y_Plan_make : MethodName := ⟨"WindowCopies$Plan", "make", "()V"⟩
abbrev i_Plan_make : MethodName × ByteArray × Nat × Option FieldType × Nat × Nat := (y_Plan_make, prog_4_method_2_code, 3, none, 0, 4)
abbrev y_Plan_planFound : MethodName := ⟨"WindowCopies$Plan", "planFound", "(I)V"⟩
abbrev i_Plan_planFound : MethodName × ByteArray × Nat × Option FieldType × Nat × Nat := (y_Plan_planFound, prog_4_method_3_code, 4, none, 1, 3)
abbrev y_Plan_planWeighed : MethodName := ⟨"WindowCopies$Plan", "planWeighed", "(I)V"⟩
abbrev i_Plan_planWeighed : MethodName × ByteArray × Nat × Option FieldType × Nat × Nat := (y_Plan_planWeighed, prog_4_method_4_code, 4, none, 1, 3)
abbrev y_Plan_planCheapest : MethodName := ⟨"WindowCopies$Plan", "planCheapest", "(I)V"⟩
abbrev i_Plan_planCheapest : MethodName × ByteArray × Nat × Option FieldType × Nat × Nat := (y_Plan_planCheapest, prog_4_method_5_code, 8, none, 1, 3)
abbrev y_Plan_planLetter : MethodName := ⟨"WindowCopies$Plan", "planLetter", "(II)V"⟩
abbrev i_Plan_planLetter : MethodName × ByteArray × Nat × Option FieldType × Nat × Nat := (y_Plan_planLetter, prog_4_method_6_code, 3, none, 2, 2)
abbrev y_Plan_planPart : MethodName := ⟨"WindowCopies$Plan", "planPart", "(IIII)V"⟩
abbrev i_Plan_planPart : MethodName × ByteArray × Nat × Option FieldType × Nat × Nat := (y_Plan_planPart, prog_4_method_7_code, 5, none, 4, 1)
abbrev y_Plan_distanceAt : MethodName := ⟨"WindowCopies$Plan", "distanceAt", "(II)I"⟩
abbrev i_Plan_distanceAt : MethodName × ByteArray × Nat × Option FieldType × Nat × Nat := (y_Plan_distanceAt, prog_4_method_8_code, 3, (some .int), 2, 1)
abbrev y_Plan_lengthAt : MethodName := ⟨"WindowCopies$Plan", "lengthAt", "(II)I"⟩
abbrev i_Plan_lengthAt : MethodName × ByteArray × Nat × Option FieldType × Nat × Nat := (y_Plan_lengthAt, prog_4_method_9_code, 3, (some .int), 2, 1)
abbrev y_Plan_layOut : MethodName := ⟨"WindowCopies$Plan", "layOut", "(I)V"⟩
abbrev i_Plan_layOut : MethodName × ByteArray × Nat × Option FieldType × Nat × Nat := (y_Plan_layOut, prog_4_method_10_code, 4, none, 1, 2)
abbrev y_Plan_countCopy : MethodName := ⟨"WindowCopies$Plan", "countCopy", "(I)V"⟩
abbrev i_Plan_countCopy : MethodName × ByteArray × Nat × Option FieldType × Nat × Nat := (y_Plan_countCopy, prog_4_method_11_code, 2, none, 1, 1)
abbrev y_Plan_parts : MethodName := ⟨"WindowCopies$Plan", "parts", "()I"⟩
abbrev i_Plan_parts : MethodName × ByteArray × Nat × Option FieldType × Nat × Nat := (y_Plan_parts, prog_4_method_12_code, 1, (some .int), 0, 0)
abbrev y_Plan_copies : MethodName := ⟨"WindowCopies$Plan", "copies", "()I"⟩
abbrev i_Plan_copies : MethodName × ByteArray × Nat × Option FieldType × Nat × Nat := (y_Plan_copies, prog_4_method_13_code, 1, (some .int), 0, 0)
abbrev y_Plan_copiedLetters : MethodName := ⟨"WindowCopies$Plan", "copiedLetters", "()I"⟩
abbrev i_Plan_copiedLetters : MethodName × ByteArray × Nat × Option FieldType × Nat × Nat := (y_Plan_copiedLetters, prog_4_method_14_code, 1, (some .int), 0, 0)
abbrev y_Plan_longestCopy : MethodName := ⟨"WindowCopies$Plan", "longestCopy", "()I"⟩
abbrev i_Plan_longestCopy : MethodName × ByteArray × Nat × Option FieldType × Nat × Nat := (y_Plan_longestCopy, prog_4_method_15_code, 1, (some .int), 0, 0)
abbrev y_Plan_cost : MethodName := ⟨"WindowCopies$Plan", "cost", "()I"⟩
abbrev i_Plan_cost : MethodName × ByteArray × Nat × Option FieldType × Nat × Nat := (y_Plan_cost, prog_4_method_16_code, 1, (some .int), 0, 2)
abbrev y_Plan_beginOf : MethodName := ⟨"WindowCopies$Plan", "beginOf", "(I)I"⟩
abbrev i_Plan_beginOf : MethodName × ByteArray × Nat × Option FieldType × Nat × Nat := (y_Plan_beginOf, prog_4_method_17_code, 2, (some .int), 1, 1)
abbrev y_Plan_indexAt : MethodName := ⟨"WindowCopies$Plan", "indexAt", "(I)I"⟩
abbrev i_Plan_indexAt : MethodName × ByteArray × Nat × Option FieldType × Nat × Nat := (y_Plan_indexAt, prog_4_method_18_code, 3, (some .int), 1, 2)
abbrev y_Plan_firstUnlike : MethodName := ⟨"WindowCopies$Plan", "firstUnlike", "(II)I"⟩
abbrev i_Plan_firstUnlike : MethodName × ByteArray × Nat × Option FieldType × Nat × Nat := (y_Plan_firstUnlike, prog_4_method_19_code, 5, (some .int), 2, 2)
abbrev y_State_init : MethodName := ⟨"WindowCopies$State", "<init>", "()V"⟩
abbrev i_State_init : MethodName × ByteArray × Nat × Option FieldType × Nat × Nat := (y_State_init, prog_5_method_1_code, 2, none, 0, 1)
abbrev y_State_size : MethodName := ⟨"WindowCopies$State", "size", "()I"⟩
abbrev i_State_size : MethodName × ByteArray × Nat × Option FieldType × Nat × Nat := (y_State_size, prog_5_method_2_code, 1, (some .int), 0, 0)
abbrev y_State_hasPlace : MethodName := ⟨"WindowCopies$State", "hasPlace", "(I)Z"⟩
abbrev i_State_hasPlace : MethodName × ByteArray × Nat × Option FieldType × Nat × Nat := (y_State_hasPlace, prog_5_method_3_code, 2, (some .boolean), 1, 0)
abbrev y_State_letterAt : MethodName := ⟨"WindowCopies$State", "letterAt", "(I)I"⟩
abbrev i_State_letterAt : MethodName × ByteArray × Nat × Option FieldType × Nat × Nat := (y_State_letterAt, prog_5_method_4_code, 2, (some .int), 1, 1)
abbrev y_State_changeLetter : MethodName := ⟨"WindowCopies$State", "changeLetter", "(II)V"⟩
abbrev i_State_changeLetter : MethodName × ByteArray × Nat × Option FieldType × Nat × Nat := (y_State_changeLetter, prog_5_method_5_code, 3, none, 2, 1)
abbrev y_State_append : MethodName := ⟨"WindowCopies$State", "append", "(I)V"⟩
abbrev i_State_append : MethodName × ByteArray × Nat × Option FieldType × Nat × Nat := (y_State_append, prog_5_method_6_code, 2, none, 1, 1)
abbrev y_State_appendCopy : MethodName := ⟨"WindowCopies$State", "appendCopy", "(II)V"⟩
abbrev i_State_appendCopy : MethodName × ByteArray × Nat × Option FieldType × Nat × Nat := (y_State_appendCopy, prog_5_method_7_code, 4, none, 2, 2)
abbrev y_State_shorten : MethodName := ⟨"WindowCopies$State", "shorten", "(I)V"⟩
abbrev i_State_shorten : MethodName × ByteArray × Nat × Option FieldType × Nat × Nat := (y_State_shorten, prog_5_method_8_code, 2, none, 1, 1)
abbrev y_State_setting : MethodName := ⟨"WindowCopies$State", "setting", "(I)I"⟩
abbrev i_State_setting : MethodName × ByteArray × Nat × Option FieldType × Nat × Nat := (y_State_setting, prog_5_method_9_code, 2, (some .int), 1, 1)
abbrev y_State_changeSetting : MethodName := ⟨"WindowCopies$State", "changeSetting", "(II)V"⟩
abbrev i_State_changeSetting : MethodName × ByteArray × Nat × Option FieldType × Nat × Nat := (y_State_changeSetting, prog_5_method_10_code, 3, none, 2, 1)
abbrev y_State_savingOf : MethodName := ⟨"WindowCopies$State", "savingOf", "(I)I"⟩
abbrev i_State_savingOf : MethodName × ByteArray × Nat × Option FieldType × Nat × Nat := (y_State_savingOf, prog_5_method_11_code, 2, (some .int), 1, 2)
abbrev y_State_likeLength : MethodName := ⟨"WindowCopies$State", "likeLength", "(II)I"⟩
abbrev i_State_likeLength : MethodName × ByteArray × Nat × Option FieldType × Nat × Nat := (y_State_likeLength, prog_5_method_12_code, 4, (some .int), 2, 2)
abbrev y_State_unlikeLetters : MethodName := ⟨"WindowCopies$State", "unlikeLetters", "()I"⟩
abbrev i_State_unlikeLetters : MethodName × ByteArray × Nat × Option FieldType × Nat × Nat := (y_State_unlikeLetters, prog_5_method_13_code, 3, (some .int), 0, 3)
abbrev y_State_holds : MethodName := ⟨"WindowCopies$State", "holds", "(I)Z"⟩
abbrev i_State_holds : MethodName × ByteArray × Nat × Option FieldType × Nat × Nat := (y_State_holds, prog_5_method_14_code, 3, (some .boolean), 1, 2)
abbrev y_State_copyFrom : MethodName := ⟨"WindowCopies$State", "copyFrom", "(LWindowCopies$State;)V"⟩
abbrev i_State_copyFrom : MethodName × ByteArray × Nat × Option FieldType × Nat × Nat := (y_State_copyFrom, prog_5_method_15_code, 3, none, 1, 3)
abbrev y_State_copyRowFrom : MethodName := ⟨"WindowCopies$State", "copyRowFrom", "(LWindowCopies$State;)V"⟩
abbrev i_State_copyRowFrom : MethodName × ByteArray × Nat × Option FieldType × Nat × Nat := (y_State_copyRowFrom, prog_5_method_16_code, 3, none, 1, 2)
abbrev y_Stretch_init : MethodName := ⟨"WindowCopies$Stretch", "<init>", "()V"⟩
abbrev i_Stretch_init : MethodName × ByteArray × Nat × Option FieldType × Nat × Nat := (y_Stretch_init, prog_6_method_1_code, 1, none, 0, 1)
abbrev y_Stretch_findLongest : MethodName := ⟨"WindowCopies$Stretch", "findLongest", "(LWindowCopies$State;)V"⟩
abbrev i_Stretch_findLongest : MethodName × ByteArray × Nat × Option FieldType × Nat × Nat := (y_Stretch_findLongest, prog_6_method_2_code, 5, none, 1, 3)
abbrev y_Stretch_length : MethodName := ⟨"WindowCopies$Stretch", "length", "()I"⟩
abbrev i_Stretch_length : MethodName × ByteArray × Nat × Option FieldType × Nat × Nat := (y_Stretch_length, prog_6_method_3_code, 1, (some .int), 0, 0)
abbrev y_Stretch_former : MethodName := ⟨"WindowCopies$Stretch", "former", "()I"⟩
abbrev i_Stretch_former : MethodName × ByteArray × Nat × Option FieldType × Nat × Nat := (y_Stretch_former, prog_6_method_4_code, 1, (some .int), 0, 0)
abbrev y_Stretch_latter : MethodName := ⟨"WindowCopies$Stretch", "latter", "()I"⟩
abbrev i_Stretch_latter : MethodName × ByteArray × Nat × Option FieldType × Nat × Nat := (y_Stretch_latter, prog_6_method_5_code, 1, (some .int), 0, 0)
abbrev y_Text_init : MethodName := ⟨"WindowCopies$Text", "<init>", "()V"⟩
abbrev i_Text_init : MethodName × ByteArray × Nat × Option FieldType × Nat × Nat := (y_Text_init, prog_7_method_1_code, 1, none, 0, 1)
abbrev y_Text_size : MethodName := ⟨"WindowCopies$Text", "size", "()I"⟩
abbrev i_Text_size : MethodName × ByteArray × Nat × Option FieldType × Nat × Nat := (y_Text_size, prog_7_method_2_code, 1, (some .int), 0, 0)
abbrev y_Text_characterAt : MethodName := ⟨"WindowCopies$Text", "characterAt", "(I)I"⟩
abbrev i_Text_characterAt : MethodName × ByteArray × Nat × Option FieldType × Nat × Nat := (y_Text_characterAt, prog_7_method_3_code, 2, (some .int), 1, 1)
abbrev y_Text_empty : MethodName := ⟨"WindowCopies$Text", "empty", "()V"⟩
abbrev i_Text_empty : MethodName × ByteArray × Nat × Option FieldType × Nat × Nat := (y_Text_empty, prog_7_method_4_code, 1, none, 0, 0)
abbrev y_Text_append : MethodName := ⟨"WindowCopies$Text", "append", "(I)V"⟩
abbrev i_Text_append : MethodName × ByteArray × Nat × Option FieldType × Nat × Nat := (y_Text_append, prog_7_method_5_code, 2, none, 1, 1)
abbrev y_Text_appendCopy : MethodName := ⟨"WindowCopies$Text", "appendCopy", "(II)V"⟩
abbrev i_Text_appendCopy : MethodName × ByteArray × Nat × Option FieldType × Nat × Nat := (y_Text_appendCopy, prog_7_method_6_code, 3, none, 2, 3)
abbrev y_Text_appendNumber : MethodName := ⟨"WindowCopies$Text", "appendNumber", "(I)V"⟩
abbrev i_Text_appendNumber : MethodName × ByteArray × Nat × Option FieldType × Nat × Nat := (y_Text_appendNumber, prog_7_method_7_code, 2, none, 1, 2)
abbrev y_Text_charactersOfCopy : MethodName := ⟨"WindowCopies$Text", "charactersOfCopy", "(II)I"⟩
abbrev i_Text_charactersOfCopy : MethodName × ByteArray × Nat × Option FieldType × Nat × Nat := (y_Text_charactersOfCopy, prog_7_method_8_code, 3, (some .int), 2, 1)
abbrev y_Text_digitsOf : MethodName := ⟨"WindowCopies$Text", "digitsOf", "(I)I"⟩
abbrev i_Text_digitsOf : MethodName × ByteArray × Nat × Option FieldType × Nat × Nat := (y_Text_digitsOf, prog_7_method_9_code, 1, (some .int), 1, 0)
abbrev y_Reader_init : MethodName := ⟨"WindowCopies$TextReader", "<init>", "(LWindowCopies$Text;LWindowCopies$State;)V"⟩
abbrev i_Reader_init : MethodName × ByteArray × Nat × Option FieldType × Nat × Nat := (y_Reader_init, prog_8_method_1_code, 3, none, 2, 2)
abbrev y_Reader_readThrough : MethodName := ⟨"WindowCopies$TextReader", "readThrough", "()V"⟩
abbrev i_Reader_readThrough : MethodName × ByteArray × Nat × Option FieldType × Nat × Nat := (y_Reader_readThrough, prog_8_method_2_code, 3, none, 0, 5)
abbrev y_Reader_hasFault : MethodName := ⟨"WindowCopies$TextReader", "hasFault", "()Z"⟩
abbrev i_Reader_hasFault : MethodName × ByteArray × Nat × Option FieldType × Nat × Nat := (y_Reader_hasFault, prog_8_method_3_code, 1, (some .boolean), 0, 0)
abbrev y_Reader_faultPlace : MethodName := ⟨"WindowCopies$TextReader", "faultPlace", "()I"⟩
abbrev i_Reader_faultPlace : MethodName × ByteArray × Nat × Option FieldType × Nat × Nat := (y_Reader_faultPlace, prog_8_method_4_code, 1, (some .int), 0, 0)
abbrev y_Reader_faultReason : MethodName := ⟨"WindowCopies$TextReader", "faultReason", "()I"⟩
abbrev i_Reader_faultReason : MethodName × ByteArray × Nat × Option FieldType × Nat × Nat := (y_Reader_faultReason, prog_8_method_5_code, 1, (some .int), 0, 0)
abbrev y_Reader_told : MethodName := ⟨"WindowCopies$TextReader", "told", "()LWindowCopies$State;"⟩
abbrev i_Reader_told : MethodName × ByteArray × Nat × Option FieldType × Nat × Nat := (y_Reader_told, prog_8_method_6_code, 1, (some (.object "WindowCopies$State")), 0, 0)
abbrev y_Reader_takeLetter : MethodName := ⟨"WindowCopies$TextReader", "takeLetter", "(I)V"⟩
abbrev i_Reader_takeLetter : MethodName × ByteArray × Nat × Option FieldType × Nat × Nat := (y_Reader_takeLetter, prog_8_method_7_code, 2, none, 1, 2)
abbrev y_Reader_takeCopy : MethodName := ⟨"WindowCopies$TextReader", "takeCopy", "()V"⟩
abbrev i_Reader_takeCopy : MethodName × ByteArray × Nat × Option FieldType × Nat × Nat := (y_Reader_takeCopy, prog_8_method_8_code, 5, none, 0, 4)
abbrev y_Reader_reasonAgainst : MethodName := ⟨"WindowCopies$TextReader", "reasonAgainst", "(II)I"⟩
abbrev i_Reader_reasonAgainst : MethodName × ByteArray × Nat × Option FieldType × Nat × Nat := (y_Reader_reasonAgainst, prog_8_method_9_code, 3, (some .int), 2, 2)
abbrev y_Reader_takeNumber : MethodName := ⟨"WindowCopies$TextReader", "takeNumber", "()I"⟩
abbrev i_Reader_takeNumber : MethodName × ByteArray × Nat × Option FieldType × Nat × Nat := (y_Reader_takeNumber, prog_8_method_10_code, 3, (some .int), 0, 3)
abbrev y_Reader_digitAt : MethodName := ⟨"WindowCopies$TextReader", "digitAt", "(I)I"⟩
abbrev i_Reader_digitAt : MethodName × ByteArray × Nat × Option FieldType × Nat × Nat := (y_Reader_digitAt, prog_8_method_11_code, 3, (some .int), 1, 2)
abbrev y_Reader_takeSign : MethodName := ⟨"WindowCopies$TextReader", "takeSign", "(I)V"⟩
abbrev i_Reader_takeSign : MethodName × ByteArray × Nat × Option FieldType × Nat × Nat := (y_Reader_takeSign, prog_8_method_12_code, 2, none, 1, 2)
abbrev y_Reader_blame : MethodName := ⟨"WindowCopies$TextReader", "blame", "(II)V"⟩
abbrev i_Reader_blame : MethodName × ByteArray × Nat × Option FieldType × Nat × Nat := (y_Reader_blame, prog_8_method_13_code, 3, none, 2, 0)
set_option maxRecDepth 20000 in
theorem qc_WC_init : Cond.code y_WC_init prog_1_method_1_code 1 none ∈ gT := gT_t 15 rfl rfl
set_option maxRecDepth 20000 in
theorem qc_WC_put : Cond.code y_WC_put prog_1_method_2_code 2 (some .int) ∈ gT := gT_t 215 rfl rfl
set_option maxRecDepth 20000 in
theorem qc_WC_drop : Cond.code y_WC_drop prog_1_method_3_code 2 (some .int) ∈ gT := gT_t 270 rfl rfl
set_option maxRecDepth 20000 in
theorem qc_WC_mend : Cond.code y_WC_mend prog_1_method_4_code 4 (some .int) ∈ gT := gT_t 281 rfl rfl
set_option maxRecDepth 20000 in
theorem qc_WC_set : Cond.code y_WC_set prog_1_method_5_code 4 (some .int) ∈ gT := gT_t 291 rfl rfl
set_option maxRecDepth 20000 in
theorem qc_WC_letter : Cond.code y_WC_letter prog_1_method_6_code 2 (some .int) ∈ gT := gT_t 302 rfl rfl
set_option maxRecDepth 20000 in
theorem qc_WC_candidate : Cond.code y_WC_candidate prog_1_method_7_code 4 (some .int) ∈ gT := gT_t 306 rfl rfl
set_option maxRecDepth 20000 in
theorem qc_WC_found : Cond.code y_WC_found prog_1_method_8_code 4 (some .int) ∈ gT := gT_t 346 rfl rfl
set_option maxRecDepth 20000 in
theorem qc_WC_isCopy : Cond.code y_WC_isCopy prog_1_method_9_code 6 (some .int) ∈ gT := gT_t 363 rfl rfl
set_option maxRecDepth 20000 in
theorem qc_WC_part : Cond.code y_WC_part prog_1_method_10_code 5 (some .int) ∈ gT := gT_t 372 rfl rfl
set_option maxRecDepth 20000 in
theorem qc_WC_total : Cond.code y_WC_total prog_1_method_11_code 3 (some .int) ∈ gT := gT_t 441 rfl rfl
set_option maxRecDepth 20000 in
theorem qc_WC_partAt : Cond.code y_WC_partAt prog_1_method_12_code 3 (some .int) ∈ gT := gT_t 461 rfl rfl
set_option maxRecDepth 20000 in
theorem qc_WC_parting : Cond.code y_WC_parting prog_1_method_13_code 4 (some .int) ∈ gT := gT_t 470 rfl rfl
set_option maxRecDepth 20000 in
theorem qc_WC_repeat : Cond.code y_WC_repeat prog_1_method_14_code 2 (some .int) ∈ gT := gT_t 478 rfl rfl
set_option maxRecDepth 20000 in
theorem qc_WC_count : Cond.code y_WC_count prog_1_method_15_code 2 (some .int) ∈ gT := gT_t 500 rfl rfl
set_option maxRecDepth 20000 in
theorem qc_WC_settingCount : Cond.code y_WC_settingCount prog_1_method_16_code 2 (some .int) ∈ gT := gT_t 524 rfl rfl
set_option maxRecDepth 20000 in
theorem qc_WC_cheapestWay : Cond.code y_WC_cheapestWay prog_1_method_17_code 4 (some .int) ∈ gT := gT_t 512 rfl rfl
set_option maxRecDepth 20000 in
theorem qc_WC_keep : Cond.code y_WC_keep prog_1_method_18_code 1 (some .int) ∈ gT := gT_t 528 rfl rfl
set_option maxRecDepth 20000 in
theorem qc_WC_restore : Cond.code y_WC_restore prog_1_method_19_code 1 (some .int) ∈ gT := gT_t 533 rfl rfl
set_option maxRecDepth 20000 in
theorem qc_WC_undo : Cond.code y_WC_undo prog_1_method_20_code 1 (some .int) ∈ gT := gT_t 537 rfl rfl
set_option maxRecDepth 20000 in
theorem qc_WC_type : Cond.code y_WC_type prog_1_method_21_code 2 (some .int) ∈ gT := gT_t 545 rfl rfl
set_option maxRecDepth 20000 in
theorem qc_WC_clearText : Cond.code y_WC_clearText prog_1_method_22_code 2 (some .int) ∈ gT := gT_t 554 rfl rfl
set_option maxRecDepth 20000 in
theorem qc_WC_write : Cond.code y_WC_write prog_1_method_23_code 5 (some .int) ∈ gT := gT_t 562 rfl rfl
set_option maxRecDepth 20000 in
theorem qc_WC_charactersOf : Cond.code y_WC_charactersOf prog_1_method_24_code 6 (some .int) ∈ gT := gT_t 566 rfl rfl
set_option maxRecDepth 20000 in
theorem qc_WC_fault : Cond.code y_WC_fault prog_1_method_25_code 2 (some .int) ∈ gT := gT_t 585 rfl rfl
set_option maxRecDepth 20000 in
theorem qc_WC_read : Cond.code y_WC_read prog_1_method_26_code 1 (some .int) ∈ gT := gT_t 652 rfl rfl
set_option maxRecDepth 20000 in
theorem qc_WC_isIn : Cond.code y_WC_isIn prog_1_method_27_code 3 (some .boolean) ∈ gT := gT_t 221 rfl rfl
set_option maxRecDepth 20000 in
theorem qc_WC_isLetter : Cond.code y_WC_isLetter prog_1_method_28_code 1 (some .boolean) ∈ gT := gT_t 218 rfl rfl
set_option maxRecDepth 20000 in
theorem qc_WC_isWay : Cond.code y_WC_isWay prog_1_method_29_code 1 (some .boolean) ∈ gT := gT_t 375 rfl rfl
set_option maxRecDepth 20000 in
theorem qc_WC_at : Cond.code y_WC_at prog_1_method_30_code 2 (some .int) ∈ gT := gT_t 29 rfl rfl
set_option maxRecDepth 20000 in
theorem qc_WC_store : Cond.code y_WC_store prog_1_method_31_code 3 none ∈ gT := gT_t 32 rfl rfl
set_option maxRecDepth 20000 in
theorem qc_Mo_init : Cond.code y_Mo_init prog_10_method_1_code 1 none ∈ gT := gT_t 662 rfl rfl
set_option maxRecDepth 20000 in
theorem qc_Mo_in : Cond.code y_Mo_in prog_10_method_3_code 3 (some .boolean) ∈ gT := gT_t 734 rfl rfl
set_option maxRecDepth 20000 in
theorem qc_Mo_copies : Cond.code y_Mo_copies prog_10_method_4_code 3 none ∈ gT := gT_t 867 rfl rfl
set_option maxRecDepth 20000 in
theorem qc_Mo_changes : Cond.code y_Mo_changes prog_10_method_5_code 2 none ∈ gT := gT_t 738 rfl rfl
set_option maxRecDepth 20000 in
theorem qc_Mo_isPlace : Cond.code y_Mo_isPlace prog_10_method_6_code 2 (some .boolean) ∈ gT := gT_t 750 rfl rfl
set_option maxRecDepth 20000 in
theorem qc_Mo_put : Cond.code y_Mo_put prog_10_method_7_code 2 (some .int) ∈ gT := gT_t 731 rfl rfl
set_option maxRecDepth 20000 in
theorem qc_Mo_drop : Cond.code y_Mo_drop prog_10_method_8_code 2 (some .int) ∈ gT := gT_t 742 rfl rfl
set_option maxRecDepth 20000 in
theorem qc_Mo_mend : Cond.code y_Mo_mend prog_10_method_9_code 4 (some .int) ∈ gT := gT_t 746 rfl rfl
set_option maxRecDepth 20000 in
theorem qc_Mo_least : Cond.code y_Mo_least prog_10_method_10_code 1 (some .int) ∈ gT := gT_t 757 rfl rfl
set_option maxRecDepth 20000 in
theorem qc_Mo_most : Cond.code y_Mo_most prog_10_method_11_code 1 (some .int) ∈ gT := gT_t 760 rfl rfl
set_option maxRecDepth 20000 in
theorem qc_Mo_set : Cond.code y_Mo_set prog_10_method_12_code 4 (some .int) ∈ gT := gT_t 754 rfl rfl
set_option maxRecDepth 20000 in
theorem qc_Mo_letter : Cond.code y_Mo_letter prog_10_method_13_code 2 (some .int) ∈ gT := gT_t 764 rfl rfl
set_option maxRecDepth 20000 in
theorem qc_Mo_reach : Cond.code y_Mo_reach prog_10_method_14_code 4 (some .int) ∈ gT := gT_t 780 rfl rfl
set_option maxRecDepth 20000 in
theorem qc_Mo_isCandidate : Cond.code y_Mo_isCandidate prog_10_method_15_code 3 (some .boolean) ∈ gT := gT_t 776 rfl rfl
set_option maxRecDepth 20000 in
theorem qc_Mo_candidates : Cond.code y_Mo_candidates prog_10_method_16_code 4 (some .int) ∈ gT := gT_t 788 rfl rfl
set_option maxRecDepth 20000 in
theorem qc_Mo_distance : Cond.code y_Mo_distance prog_10_method_17_code 5 (some .int) ∈ gT := gT_t 772 rfl rfl
set_option maxRecDepth 20000 in
theorem qc_Mo_candidate : Cond.code y_Mo_candidate prog_10_method_18_code 5 (some .int) ∈ gT := gT_t 768 rfl rfl
set_option maxRecDepth 20000 in
theorem qc_Mo_best : Cond.code y_Mo_best prog_10_method_19_code 6 (some .int) ∈ gT := gT_t 792 rfl rfl
set_option maxRecDepth 20000 in
theorem qc_Mo_saves : Cond.code y_Mo_saves prog_10_method_20_code 2 (some .int) ∈ gT := gT_t 796 rfl rfl
set_option maxRecDepth 20000 in
theorem qc_Mo_found : Cond.code y_Mo_found prog_10_method_21_code 4 (some .int) ∈ gT := gT_t 784 rfl rfl
set_option maxRecDepth 20000 in
theorem qc_Mo_isCopy : Cond.code y_Mo_isCopy prog_10_method_22_code 5 (some .int) ∈ gT := gT_t 800 rfl rfl
set_option maxRecDepth 20000 in
theorem qc_Mo_savesMore : Cond.code y_Mo_savesMore prog_10_method_23_code 3 (some .boolean) ∈ gT := gT_t 820 rfl rfl
set_option maxRecDepth 20000 in
theorem qc_Mo_takes : Cond.code y_Mo_takes prog_10_method_24_code 4 (some .boolean) ∈ gT := gT_t 816 rfl rfl
set_option maxRecDepth 20000 in
theorem qc_Mo_weighs : Cond.code y_Mo_weighs prog_10_method_25_code 6 none ∈ gT := gT_t 812 rfl rfl
set_option maxRecDepth 20000 in
theorem qc_Mo_lays : Cond.code y_Mo_lays prog_10_method_26_code 4 none ∈ gT := gT_t 808 rfl rfl
set_option maxRecDepth 20000 in
theorem qc_Mo_cost : Cond.code y_Mo_cost prog_10_method_27_code 2 (some .int) ∈ gT := gT_t 824 rfl rfl
set_option maxRecDepth 20000 in
theorem qc_Mo_part : Cond.code y_Mo_part prog_10_method_28_code 4 (some .int) ∈ gT := gT_t 804 rfl rfl
set_option maxRecDepth 20000 in
theorem qc_Mo_costAll : Cond.code y_Mo_costAll prog_10_method_29_code 4 (some .int) ∈ gT := gT_t 832 rfl rfl
set_option maxRecDepth 20000 in
theorem qc_Mo_total : Cond.code y_Mo_total prog_10_method_30_code 9 (some .int) ∈ gT := gT_t 828 rfl rfl
set_option maxRecDepth 20000 in
theorem qc_Mo_partAt : Cond.code y_Mo_partAt prog_10_method_31_code 4 (some .int) ∈ gT := gT_t 836 rfl rfl
set_option maxRecDepth 20000 in
theorem qc_Mo_parting : Cond.code y_Mo_parting prog_10_method_32_code 5 (some .int) ∈ gT := gT_t 840 rfl rfl
set_option maxRecDepth 20000 in
theorem qc_Mo_stretch : Cond.code y_Mo_stretch prog_10_method_33_code 4 (some .int) ∈ gT := gT_t 848 rfl rfl
set_option maxRecDepth 20000 in
theorem qc_Mo_repeat : Cond.code y_Mo_repeat prog_10_method_34_code 8 (some .int) ∈ gT := gT_t 844 rfl rfl
set_option maxRecDepth 20000 in
theorem qc_Mo_unlike : Cond.code y_Mo_unlike prog_10_method_35_code 4 (some .int) ∈ gT := gT_t 856 rfl rfl
set_option maxRecDepth 20000 in
theorem qc_Mo_cheapest : Cond.code y_Mo_cheapest prog_10_method_36_code 2 (some .int) ∈ gT := gT_t 860 rfl rfl
set_option maxRecDepth 20000 in
theorem qc_Mo_count : Cond.code y_Mo_count prog_10_method_37_code 2 (some .int) ∈ gT := gT_t 852 rfl rfl
set_option maxRecDepth 20000 in
theorem qc_Mo_keep : Cond.code y_Mo_keep prog_10_method_38_code 1 (some .int) ∈ gT := gT_t 864 rfl rfl
set_option maxRecDepth 20000 in
theorem qc_Mo_restore : Cond.code y_Mo_restore prog_10_method_39_code 1 (some .int) ∈ gT := gT_t 871 rfl rfl
set_option maxRecDepth 20000 in
theorem qc_Mo_undo : Cond.code y_Mo_undo prog_10_method_40_code 2 (some .int) ∈ gT := gT_t 875 rfl rfl
set_option maxRecDepth 20000 in
theorem qc_Mo_type : Cond.code y_Mo_type prog_10_method_41_code 2 (some .int) ∈ gT := gT_t 879 rfl rfl
set_option maxRecDepth 20000 in
theorem qc_Mo_clearText : Cond.code y_Mo_clearText prog_10_method_42_code 2 (some .int) ∈ gT := gT_t 883 rfl rfl
set_option maxRecDepth 20000 in
theorem qc_Mo_digits : Cond.code y_Mo_digits prog_10_method_43_code 1 (some .int) ∈ gT := gT_t 890 rfl rfl
set_option maxRecDepth 20000 in
theorem qc_Mo_writesNumber : Cond.code y_Mo_writesNumber prog_10_method_44_code 2 none ∈ gT := gT_t 898 rfl rfl
set_option maxRecDepth 20000 in
theorem qc_Mo_writesSign : Cond.code y_Mo_writesSign prog_10_method_45_code 2 none ∈ gT := gT_t 894 rfl rfl
set_option maxRecDepth 20000 in
theorem qc_Mo_write : Cond.code y_Mo_write prog_10_method_46_code 4 (some .int) ∈ gT := gT_t 887 rfl rfl
set_option maxRecDepth 20000 in
theorem qc_Mo_isAt : Cond.code y_Mo_isAt prog_10_method_47_code 3 (some .boolean) ∈ gT := gT_t 910 rfl rfl
set_option maxRecDepth 20000 in
theorem qc_Mo_fails : Cond.code y_Mo_fails prog_10_method_48_code 2 (some .boolean) ∈ gT := gT_t 922 rfl rfl
set_option maxRecDepth 20000 in
theorem qc_Mo_sign : Cond.code y_Mo_sign prog_10_method_49_code 3 (some .boolean) ∈ gT := gT_t 926 rfl rfl
set_option maxRecDepth 20000 in
theorem qc_Mo_numbered : Cond.code y_Mo_numbered prog_10_method_50_code 1 (some .boolean) ∈ gT := gT_t 918 rfl rfl
set_option maxRecDepth 20000 in
theorem qc_Mo_wrong : Cond.code y_Mo_wrong prog_10_method_51_code 4 (some .int) ∈ gT := gT_t 930 rfl rfl
set_option maxRecDepth 20000 in
theorem qc_Mo_readsCopy : Cond.code y_Mo_readsCopy prog_10_method_52_code 5 (some .boolean) ∈ gT := gT_t 914 rfl rfl
set_option maxRecDepth 20000 in
theorem qc_Mo_readsLetter : Cond.code y_Mo_readsLetter prog_10_method_53_code 1 (some .boolean) ∈ gT := gT_t 934 rfl rfl
set_option maxRecDepth 20000 in
theorem qc_Mo_isRight : Cond.code y_Mo_isRight prog_10_method_54_code 2 (some .boolean) ∈ gT := gT_t 906 rfl rfl
set_option maxRecDepth 20000 in
theorem qc_Mo_fault : Cond.code y_Mo_fault prog_10_method_55_code 2 (some .int) ∈ gT := gT_t 902 rfl rfl
set_option maxRecDepth 20000 in
theorem qc_Mo_read : Cond.code y_Mo_read prog_10_method_56_code 2 (some .int) ∈ gT := gT_t 938 rfl rfl
set_option maxRecDepth 20000 in
theorem qc_Cand_init : Cond.code y_Cand_init prog_2_method_1_code 2 none ∈ gT := gT_t 67 rfl rfl
set_option maxRecDepth 20000 in
theorem qc_Cand_beginBehindRow : Cond.code y_Cand_beginBehindRow prog_2_method_2_code 2 none ∈ gT := gT_t 314 rfl rfl
set_option maxRecDepth 20000 in
theorem qc_Cand_stepAhead : Cond.code y_Cand_stepAhead prog_2_method_3_code 6 none ∈ gT := gT_t 320 rfl rfl
set_option maxRecDepth 20000 in
theorem qc_Cand_takeIn : Cond.code y_Cand_takeIn prog_2_method_4_code 3 none ∈ gT := gT_t 330 rfl rfl
set_option maxRecDepth 20000 in
theorem qc_Cand_lookAt : Cond.code y_Cand_lookAt prog_2_method_5_code 3 none ∈ gT := gT_t 310 rfl rfl
set_option maxRecDepth 20000 in
theorem qc_Cand_all : Cond.code y_Cand_all prog_2_method_6_code 1 (some .int) ∈ gT := gT_t 350 rfl rfl
set_option maxRecDepth 20000 in
theorem qc_Cand_lookedAt : Cond.code y_Cand_lookedAt prog_2_method_7_code 1 (some .int) ∈ gT := gT_t 334 rfl rfl
set_option maxRecDepth 20000 in
theorem qc_Cand_distance : Cond.code y_Cand_distance prog_2_method_8_code 2 (some .int) ∈ gT := gT_t 338 rfl rfl
set_option maxRecDepth 20000 in
theorem qc_Cand_reach : Cond.code y_Cand_reach prog_2_method_9_code 2 (some .int) ∈ gT := gT_t 342 rfl rfl
set_option maxRecDepth 20000 in
theorem qc_Cand_best : Cond.code y_Cand_best prog_2_method_10_code 4 (some .int) ∈ gT := gT_t 354 rfl rfl
set_option maxRecDepth 20000 in
theorem qc_History_init : Cond.code y_History_init prog_3_method_1_code 2 none ∈ gT := gT_t 48 rfl rfl
set_option maxRecDepth 20000 in
theorem qc_History_size : Cond.code y_History_size prog_3_method_2_code 1 (some .int) ∈ gT := gT_t 516 rfl rfl
set_option maxRecDepth 20000 in
theorem qc_History_record : Cond.code y_History_record prog_3_method_3_code 3 none ∈ gT := gT_t 229 rfl rfl
set_option maxRecDepth 20000 in
theorem qc_History_takeBack : Cond.code y_History_takeBack prog_3_method_4_code 3 none ∈ gT := gT_t 541 rfl rfl
set_option maxRecDepth 20000 in
theorem qc_History_stateAt : Cond.code y_History_stateAt prog_3_method_5_code 3 (some (.object "WindowCopies$State")) ∈ gT := gT_t 237 rfl rfl
set_option maxRecDepth 20000 in
theorem qc_History_slotOf : Cond.code y_History_slotOf prog_3_method_6_code 2 (some .int) ∈ gT := gT_t 233 rfl rfl
set_option maxRecDepth 20000 in
theorem qc_Plan_init : Cond.code y_Plan_init prog_4_method_1_code 3 none ∈ gT := gT_t 92 rfl rfl
set_option maxRecDepth 20000 in
theorem qc_Plan_make : Cond.code y_Plan_make prog_4_method_2_code 3 none ∈ gT := gT_t 379 rfl rfl
set_option maxRecDepth 20000 in
theorem qc_Plan_planFound : Cond.code y_Plan_planFound prog_4_method_3_code 4 none ∈ gT := gT_t 387 rfl rfl
set_option maxRecDepth 20000 in
theorem qc_Plan_planWeighed : Cond.code y_Plan_planWeighed prog_4_method_4_code 4 none ∈ gT := gT_t 403 rfl rfl
set_option maxRecDepth 20000 in
theorem qc_Plan_planCheapest : Cond.code y_Plan_planCheapest prog_4_method_5_code 8 none ∈ gT := gT_t 416 rfl rfl
set_option maxRecDepth 20000 in
theorem qc_Plan_planLetter : Cond.code y_Plan_planLetter prog_4_method_6_code 3 none ∈ gT := gT_t 392 rfl rfl
set_option maxRecDepth 20000 in
theorem qc_Plan_planPart : Cond.code y_Plan_planPart prog_4_method_7_code 5 none ∈ gT := gT_t 396 rfl rfl
set_option maxRecDepth 20000 in
theorem qc_Plan_distanceAt : Cond.code y_Plan_distanceAt prog_4_method_8_code 3 (some .int) ∈ gT := gT_t 408 rfl rfl
set_option maxRecDepth 20000 in
theorem qc_Plan_lengthAt : Cond.code y_Plan_lengthAt prog_4_method_9_code 3 (some .int) ∈ gT := gT_t 412 rfl rfl
set_option maxRecDepth 20000 in
theorem qc_Plan_layOut : Cond.code y_Plan_layOut prog_4_method_10_code 4 none ∈ gT := gT_t 423 rfl rfl
set_option maxRecDepth 20000 in
theorem qc_Plan_countCopy : Cond.code y_Plan_countCopy prog_4_method_11_code 2 none ∈ gT := gT_t 427 rfl rfl
set_option maxRecDepth 20000 in
theorem qc_Plan_parts : Cond.code y_Plan_parts prog_4_method_12_code 1 (some .int) ∈ gT := gT_t 431 rfl rfl
set_option maxRecDepth 20000 in
theorem qc_Plan_copies : Cond.code y_Plan_copies prog_4_method_13_code 1 (some .int) ∈ gT := gT_t 445 rfl rfl
set_option maxRecDepth 20000 in
theorem qc_Plan_copiedLetters : Cond.code y_Plan_copiedLetters prog_4_method_14_code 1 (some .int) ∈ gT := gT_t 453 rfl rfl
set_option maxRecDepth 20000 in
theorem qc_Plan_longestCopy : Cond.code y_Plan_longestCopy prog_4_method_15_code 1 (some .int) ∈ gT := gT_t 457 rfl rfl
set_option maxRecDepth 20000 in
theorem qc_Plan_cost : Cond.code y_Plan_cost prog_4_method_16_code 1 (some .int) ∈ gT := gT_t 449 rfl rfl
set_option maxRecDepth 20000 in
theorem qc_Plan_beginOf : Cond.code y_Plan_beginOf prog_4_method_17_code 2 (some .int) ∈ gT := gT_t 435 rfl rfl
set_option maxRecDepth 20000 in
theorem qc_Plan_indexAt : Cond.code y_Plan_indexAt prog_4_method_18_code 3 (some .int) ∈ gT := gT_t 465 rfl rfl
set_option maxRecDepth 20000 in
theorem qc_Plan_firstUnlike : Cond.code y_Plan_firstUnlike prog_4_method_19_code 5 (some .int) ∈ gT := gT_t 474 rfl rfl
set_option maxRecDepth 20000 in
theorem qc_State_init : Cond.code y_State_init prog_5_method_1_code 2 none ∈ gT := gT_t 23 rfl rfl
set_option maxRecDepth 20000 in
theorem qc_State_size : Cond.code y_State_size prog_5_method_2_code 1 (some .int) ∈ gT := gT_t 225 rfl rfl
set_option maxRecDepth 20000 in
theorem qc_State_hasPlace : Cond.code y_State_hasPlace prog_5_method_3_code 2 (some .boolean) ∈ gT := gT_t 285 rfl rfl
set_option maxRecDepth 20000 in
theorem qc_State_letterAt : Cond.code y_State_letterAt prog_5_method_4_code 2 (some .int) ∈ gT := gT_t 250 rfl rfl
set_option maxRecDepth 20000 in
theorem qc_State_changeLetter : Cond.code y_State_changeLetter prog_5_method_5_code 3 none ∈ gT := gT_t 254 rfl rfl
set_option maxRecDepth 20000 in
theorem qc_State_append : Cond.code y_State_append prog_5_method_6_code 2 none ∈ gT := gT_t 266 rfl rfl
set_option maxRecDepth 20000 in
theorem qc_State_appendCopy : Cond.code y_State_appendCopy prog_5_method_7_code 4 none ∈ gT := gT_t 632 rfl rfl
set_option maxRecDepth 20000 in
theorem qc_State_shorten : Cond.code y_State_shorten prog_5_method_8_code 2 none ∈ gT := gT_t 274 rfl rfl
set_option maxRecDepth 20000 in
theorem qc_State_setting : Cond.code y_State_setting prog_5_method_9_code 2 (some .int) ∈ gT := gT_t 258 rfl rfl
set_option maxRecDepth 20000 in
theorem qc_State_changeSetting : Cond.code y_State_changeSetting prog_5_method_10_code 3 none ∈ gT := gT_t 262 rfl rfl
set_option maxRecDepth 20000 in
theorem qc_State_savingOf : Cond.code y_State_savingOf prog_5_method_11_code 2 (some .int) ∈ gT := gT_t 359 rfl rfl
set_option maxRecDepth 20000 in
theorem qc_State_likeLength : Cond.code y_State_likeLength prog_5_method_12_code 4 (some .int) ∈ gT := gT_t 368 rfl rfl
set_option maxRecDepth 20000 in
theorem qc_State_unlikeLetters : Cond.code y_State_unlikeLetters prog_5_method_13_code 3 (some .int) ∈ gT := gT_t 504 rfl rfl
set_option maxRecDepth 20000 in
theorem qc_State_holds : Cond.code y_State_holds prog_5_method_14_code 3 (some .boolean) ∈ gT := gT_t 508 rfl rfl
set_option maxRecDepth 20000 in
theorem qc_State_copyFrom : Cond.code y_State_copyFrom prog_5_method_15_code 3 none ∈ gT := gT_t 241 rfl rfl
set_option maxRecDepth 20000 in
theorem qc_State_copyRowFrom : Cond.code y_State_copyRowFrom prog_5_method_16_code 3 none ∈ gT := gT_t 245 rfl rfl
set_option maxRecDepth 20000 in
theorem qc_Stretch_init : Cond.code y_Stretch_init prog_6_method_1_code 1 none ∈ gT := gT_t 132 rfl rfl
set_option maxRecDepth 20000 in
theorem qc_Stretch_findLongest : Cond.code y_Stretch_findLongest prog_6_method_2_code 5 none ∈ gT := gT_t 482 rfl rfl
set_option maxRecDepth 20000 in
theorem qc_Stretch_length : Cond.code y_Stretch_length prog_6_method_3_code 1 (some .int) ∈ gT := gT_t 488 rfl rfl
set_option maxRecDepth 20000 in
theorem qc_Stretch_former : Cond.code y_Stretch_former prog_6_method_4_code 1 (some .int) ∈ gT := gT_t 492 rfl rfl
set_option maxRecDepth 20000 in
theorem qc_Stretch_latter : Cond.code y_Stretch_latter prog_6_method_5_code 1 (some .int) ∈ gT := gT_t 496 rfl rfl
set_option maxRecDepth 20000 in
theorem qc_Text_init : Cond.code y_Text_init prog_7_method_1_code 1 none ∈ gT := gT_t 148 rfl rfl
set_option maxRecDepth 20000 in
theorem qc_Text_size : Cond.code y_Text_size prog_7_method_2_code 1 (some .int) ∈ gT := gT_t 520 rfl rfl
set_option maxRecDepth 20000 in
theorem qc_Text_characterAt : Cond.code y_Text_characterAt prog_7_method_3_code 2 (some .int) ∈ gT := gT_t 600 rfl rfl
set_option maxRecDepth 20000 in
theorem qc_Text_empty : Cond.code y_Text_empty prog_7_method_4_code 1 none ∈ gT := gT_t 558 rfl rfl
set_option maxRecDepth 20000 in
theorem qc_Text_append : Cond.code y_Text_append prog_7_method_5_code 2 none ∈ gT := gT_t 549 rfl rfl
set_option maxRecDepth 20000 in
theorem qc_Text_appendCopy : Cond.code y_Text_appendCopy prog_7_method_6_code 3 none ∈ gT := gT_t 576 rfl rfl
set_option maxRecDepth 20000 in
theorem qc_Text_appendNumber : Cond.code y_Text_appendNumber prog_7_method_7_code 2 none ∈ gT := gT_t 581 rfl rfl
set_option maxRecDepth 20000 in
theorem qc_Text_charactersOfCopy : Cond.code y_Text_charactersOfCopy prog_7_method_8_code 3 (some .int) ∈ gT := gT_t 569 rfl rfl
set_option maxRecDepth 20000 in
theorem qc_Text_digitsOf : Cond.code y_Text_digitsOf prog_7_method_9_code 1 (some .int) ∈ gT := gT_t 572 rfl rfl
set_option maxRecDepth 20000 in
theorem qc_Reader_init : Cond.code y_Reader_init prog_8_method_1_code 3 none ∈ gT := gT_t 161 rfl rfl
set_option maxRecDepth 20000 in
theorem qc_Reader_readThrough : Cond.code y_Reader_readThrough prog_8_method_2_code 3 none ∈ gT := gT_t 589 rfl rfl
set_option maxRecDepth 20000 in
theorem qc_Reader_hasFault : Cond.code y_Reader_hasFault prog_8_method_3_code 1 (some .boolean) ∈ gT := gT_t 596 rfl rfl
set_option maxRecDepth 20000 in
theorem qc_Reader_faultPlace : Cond.code y_Reader_faultPlace prog_8_method_4_code 1 (some .int) ∈ gT := gT_t 644 rfl rfl
set_option maxRecDepth 20000 in
theorem qc_Reader_faultReason : Cond.code y_Reader_faultReason prog_8_method_5_code 1 (some .int) ∈ gT := gT_t 648 rfl rfl
set_option maxRecDepth 20000 in
theorem qc_Reader_told : Cond.code y_Reader_told prog_8_method_6_code 1 (some (.object "WindowCopies$State")) ∈ gT := gT_t 656 rfl rfl
set_option maxRecDepth 20000 in
theorem qc_Reader_takeLetter : Cond.code y_Reader_takeLetter prog_8_method_7_code 2 none ∈ gT := gT_t 637 rfl rfl
set_option maxRecDepth 20000 in
theorem qc_Reader_takeCopy : Cond.code y_Reader_takeCopy prog_8_method_8_code 5 none ∈ gT := gT_t 605 rfl rfl
set_option maxRecDepth 20000 in
theorem qc_Reader_reasonAgainst : Cond.code y_Reader_reasonAgainst prog_8_method_9_code 3 (some .int) ∈ gT := gT_t 626 rfl rfl
set_option maxRecDepth 20000 in
theorem qc_Reader_takeNumber : Cond.code y_Reader_takeNumber prog_8_method_10_code 3 (some .int) ∈ gT := gT_t 609 rfl rfl
set_option maxRecDepth 20000 in
theorem qc_Reader_digitAt : Cond.code y_Reader_digitAt prog_8_method_11_code 3 (some .int) ∈ gT := gT_t 613 rfl rfl
set_option maxRecDepth 20000 in
theorem qc_Reader_takeSign : Cond.code y_Reader_takeSign prog_8_method_12_code 2 none ∈ gT := gT_t 622 rfl rfl
set_option maxRecDepth 20000 in
theorem qc_Reader_blame : Cond.code y_Reader_blame prog_8_method_13_code 3 none ∈ gT := gT_t 618 rfl rfl
theorem q_0 : (.initialized "WindowCopiesLaw" : Cond) ∈ gT := gT_t 0 (by decide +kernel) rfl
theorem q_1 : (.initialized "WindowCopies" : Cond) ∈ gT := gT_t 1 (by decide +kernel) rfl
theorem q_2 : (.initialized "WindowCopies$State" : Cond) ∈ gT := gT_t 2 (by decide +kernel) rfl
theorem q_3 : (.initialized "WindowCopies$History" : Cond) ∈ gT := gT_t 3 (by decide +kernel) rfl
theorem q_4 : (.initialized "WindowCopies$Candidates" : Cond) ∈ gT := gT_t 4 (by decide +kernel) rfl
theorem q_5 : (.initialized "WindowCopies$Plan" : Cond) ∈ gT := gT_t 5 (by decide +kernel) rfl
theorem q_6 : (.initialized "WindowCopies$Stretch" : Cond) ∈ gT := gT_t 6 (by decide +kernel) rfl
theorem q_7 : (.initialized "WindowCopies$Text" : Cond) ∈ gT := gT_t 7 (by decide +kernel) rfl
theorem q_8 : (.initialized "WindowCopies$TextReader" : Cond) ∈ gT := gT_t 8 (by decide +kernel) rfl
theorem q_9 : (.initialized "WindowCopiesModel" : Cond) ∈ gT := gT_t 9 (by decide +kernel) rfl
theorem q_10 : (.initialized "java/lang/Math" : Cond) ∈ gT := gT_t 10 (by decide +kernel) rfl
theorem q_11 : (.classLink "WindowCopiesLaw" 7 "WindowCopies" : Cond) ∈ gT := gT_t 11 (by decide +kernel) rfl
theorem q_12 : (.instantiable "WindowCopies" 9 : Cond) ∈ gT := gT_t 12 (by decide +kernel) rfl
theorem q_13 : (.methodLink "WindowCopiesLaw" 9 ⟨"WindowCopies", "<init>", "()V"⟩ : Cond) ∈ gT := gT_t 13 (by decide +kernel) rfl
theorem q_14 : (.instanceMethod ⟨"WindowCopies", "<init>", "()V"⟩ : Cond) ∈ gT := gT_t 14 (by decide +kernel) rfl
theorem q_16 : (.methodLink "WindowCopies" 1 ⟨"java/lang/Object", "<init>", "()V"⟩ : Cond) ∈ gT := gT_t 16 (by decide +kernel) rfl
theorem q_17 : (.instanceMethod ⟨"java/lang/Object", "<init>", "()V"⟩ : Cond) ∈ gT := gT_t 17 (by decide +kernel) rfl
theorem q_19 : (.classLink "WindowCopies" 7 "WindowCopies$State" : Cond) ∈ gT := gT_t 19 (by decide +kernel) rfl
theorem q_20 : (.instantiable "WindowCopies$State" 3 : Cond) ∈ gT := gT_t 20 (by decide +kernel) rfl
theorem q_21 : (.methodLink "WindowCopies" 9 ⟨"WindowCopies$State", "<init>", "()V"⟩ : Cond) ∈ gT := gT_t 21 (by decide +kernel) rfl
theorem q_22 : (.instanceMethod ⟨"WindowCopies$State", "<init>", "()V"⟩ : Cond) ∈ gT := gT_t 22 (by decide +kernel) rfl
theorem q_24 : (.methodLink "WindowCopies$State" 3 ⟨"java/lang/Object", "<init>", "()V"⟩ : Cond) ∈ gT := gT_t 24 (by decide +kernel) rfl
theorem q_28 : (.static ⟨"WindowCopies", "at", "([II)I"⟩ : Cond) ∈ gT := gT_t 28 (by decide +kernel) rfl
theorem q_31 : (.static ⟨"WindowCopies", "store", "([III)V"⟩ : Cond) ∈ gT := gT_t 31 (by decide +kernel) rfl
theorem q_33 : (.fieldLink "WindowCopies$State" 9 "WindowCopies$State" "letters" "[I" : Cond) ∈ gT := gT_t 33 (by decide +kernel) rfl
theorem q_34 : (.fieldLink "WindowCopies$State" 15 "WindowCopies$State" "settings" "[I" : Cond) ∈ gT := gT_t 34 (by decide +kernel) rfl
theorem q_35 : (.fieldLink "WindowCopies$State" 18 "WindowCopies$State" "size" "I" : Cond) ∈ gT := gT_t 35 (by decide +kernel) rfl
theorem q_36 : (.laysFinal "WindowCopies$State" "WindowCopies$State" "letters" "[I" : Cond) ∈ gT := gT_t 36 (by decide +kernel) rfl
theorem q_38 : (.laysFinal "WindowCopies$State" "WindowCopies$State" "settings" "[I" : Cond) ∈ gT := gT_t 38 (by decide +kernel) rfl
theorem q_40 : (.lays "WindowCopies$State" "WindowCopies$State" "size" "I" : Cond) ∈ gT := gT_t 40 (by decide +kernel) rfl
theorem q_43 : (.arrayClass .int : Cond) ∈ gT := gT_t 43 (by decide +kernel) rfl
theorem q_44 : (.classLink "WindowCopies" 23 "WindowCopies$History" : Cond) ∈ gT := gT_t 44 (by decide +kernel) rfl
theorem q_45 : (.instantiable "WindowCopies$History" 3 : Cond) ∈ gT := gT_t 45 (by decide +kernel) rfl
theorem q_46 : (.methodLink "WindowCopies" 25 ⟨"WindowCopies$History", "<init>", "()V"⟩ : Cond) ∈ gT := gT_t 46 (by decide +kernel) rfl
theorem q_47 : (.instanceMethod ⟨"WindowCopies$History", "<init>", "()V"⟩ : Cond) ∈ gT := gT_t 47 (by decide +kernel) rfl
theorem q_49 : (.methodLink "WindowCopies$History" 3 ⟨"java/lang/Object", "<init>", "()V"⟩ : Cond) ∈ gT := gT_t 49 (by decide +kernel) rfl
theorem q_50 : (.classLink "WindowCopies$History" 9 "WindowCopies$State" : Cond) ∈ gT := gT_t 50 (by decide +kernel) rfl
theorem q_52 : (.methodLink "WindowCopies$History" 24 ⟨"WindowCopies$State", "<init>", "()V"⟩ : Cond) ∈ gT := gT_t 52 (by decide +kernel) rfl
theorem q_53 : (.fieldLink "WindowCopies$History" 11 "WindowCopies$History" "states" "[LWindowCopies$State;" : Cond) ∈ gT := gT_t 53 (by decide +kernel) rfl
theorem q_54 : (.fieldLink "WindowCopies$History" 17 "WindowCopies$History" "oldest" "I" : Cond) ∈ gT := gT_t 54 (by decide +kernel) rfl
theorem q_55 : (.fieldLink "WindowCopies$History" 21 "WindowCopies$History" "size" "I" : Cond) ∈ gT := gT_t 55 (by decide +kernel) rfl
theorem q_56 : (.laysFinal "WindowCopies$History" "WindowCopies$History" "states" "[LWindowCopies$State;" : Cond) ∈ gT := gT_t 56 (by decide +kernel) rfl
theorem q_58 : (.lays "WindowCopies$History" "WindowCopies$History" "oldest" "I" : Cond) ∈ gT := gT_t 58 (by decide +kernel) rfl
theorem q_60 : (.lays "WindowCopies$History" "WindowCopies$History" "size" "I" : Cond) ∈ gT := gT_t 60 (by decide +kernel) rfl
theorem q_63 : (.classLink "WindowCopies" 30 "WindowCopies$Candidates" : Cond) ∈ gT := gT_t 63 (by decide +kernel) rfl
theorem q_64 : (.instantiable "WindowCopies$Candidates" 6 : Cond) ∈ gT := gT_t 64 (by decide +kernel) rfl
theorem q_65 : (.methodLink "WindowCopies" 32 ⟨"WindowCopies$Candidates", "<init>", "(LWindowCopies$State;)V"⟩ : Cond) ∈ gT := gT_t 65 (by decide +kernel) rfl
theorem q_66 : (.instanceMethod ⟨"WindowCopies$Candidates", "<init>", "(LWindowCopies$State;)V"⟩ : Cond) ∈ gT := gT_t 66 (by decide +kernel) rfl
theorem q_68 : (.methodLink "WindowCopies$Candidates" 3 ⟨"java/lang/Object", "<init>", "()V"⟩ : Cond) ∈ gT := gT_t 68 (by decide +kernel) rfl
theorem q_69 : (.fieldLink "WindowCopies$Candidates" 28 "WindowCopies$Candidates" "state" "LWindowCopies$State;" : Cond) ∈ gT := gT_t 69 (by decide +kernel) rfl
theorem q_70 : (.fieldLink "WindowCopies$Candidates" 9 "WindowCopies$Candidates" "likeLengths" "[I" : Cond) ∈ gT := gT_t 70 (by decide +kernel) rfl
theorem q_71 : (.fieldLink "WindowCopies$Candidates" 15 "WindowCopies$Candidates" "distances" "[I" : Cond) ∈ gT := gT_t 71 (by decide +kernel) rfl
theorem q_72 : (.fieldLink "WindowCopies$Candidates" 18 "WindowCopies$Candidates" "place" "I" : Cond) ∈ gT := gT_t 72 (by decide +kernel) rfl
theorem q_73 : (.fieldLink "WindowCopies$Candidates" 22 "WindowCopies$Candidates" "all" "I" : Cond) ∈ gT := gT_t 73 (by decide +kernel) rfl
theorem q_74 : (.fieldLink "WindowCopies$Candidates" 25 "WindowCopies$Candidates" "lookedAt" "I" : Cond) ∈ gT := gT_t 74 (by decide +kernel) rfl
theorem q_75 : (.laysFinal "WindowCopies$Candidates" "WindowCopies$Candidates" "state" "LWindowCopies$State;" : Cond) ∈ gT := gT_t 75 (by decide +kernel) rfl
theorem q_77 : (.laysFinal "WindowCopies$Candidates" "WindowCopies$Candidates" "likeLengths" "[I" : Cond) ∈ gT := gT_t 77 (by decide +kernel) rfl
theorem q_79 : (.laysFinal "WindowCopies$Candidates" "WindowCopies$Candidates" "distances" "[I" : Cond) ∈ gT := gT_t 79 (by decide +kernel) rfl
theorem q_81 : (.lays "WindowCopies$Candidates" "WindowCopies$Candidates" "place" "I" : Cond) ∈ gT := gT_t 81 (by decide +kernel) rfl
theorem q_83 : (.lays "WindowCopies$Candidates" "WindowCopies$Candidates" "all" "I" : Cond) ∈ gT := gT_t 83 (by decide +kernel) rfl
theorem q_85 : (.lays "WindowCopies$Candidates" "WindowCopies$Candidates" "lookedAt" "I" : Cond) ∈ gT := gT_t 85 (by decide +kernel) rfl
theorem q_88 : (.classLink "WindowCopies" 39 "WindowCopies$Plan" : Cond) ∈ gT := gT_t 88 (by decide +kernel) rfl
theorem q_89 : (.instantiable "WindowCopies$Plan" 11 : Cond) ∈ gT := gT_t 89 (by decide +kernel) rfl
theorem q_90 : (.methodLink "WindowCopies" 41 ⟨"WindowCopies$Plan", "<init>", "(LWindowCopies$State;LWindowCopies$Candidates;)V"⟩ : Cond) ∈ gT := gT_t 90 (by decide +kernel) rfl
theorem q_91 : (.instanceMethod ⟨"WindowCopies$Plan", "<init>", "(LWindowCopies$State;LWindowCopies$Candidates;)V"⟩ : Cond) ∈ gT := gT_t 91 (by decide +kernel) rfl
theorem q_93 : (.methodLink "WindowCopies$Plan" 3 ⟨"java/lang/Object", "<init>", "()V"⟩ : Cond) ∈ gT := gT_t 93 (by decide +kernel) rfl
theorem q_94 : (.fieldLink "WindowCopies$Plan" 40 "WindowCopies$Plan" "state" "LWindowCopies$State;" : Cond) ∈ gT := gT_t 94 (by decide +kernel) rfl
theorem q_95 : (.fieldLink "WindowCopies$Plan" 44 "WindowCopies$Plan" "candidates" "LWindowCopies$Candidates;" : Cond) ∈ gT := gT_t 95 (by decide +kernel) rfl
theorem q_96 : (.fieldLink "WindowCopies$Plan" 9 "WindowCopies$Plan" "distances" "[I" : Cond) ∈ gT := gT_t 96 (by decide +kernel) rfl
theorem q_97 : (.fieldLink "WindowCopies$Plan" 15 "WindowCopies$Plan" "lengths" "[I" : Cond) ∈ gT := gT_t 97 (by decide +kernel) rfl
theorem q_98 : (.fieldLink "WindowCopies$Plan" 18 "WindowCopies$Plan" "savings" "[I" : Cond) ∈ gT := gT_t 98 (by decide +kernel) rfl
theorem q_99 : (.fieldLink "WindowCopies$Plan" 21 "WindowCopies$Plan" "leastCosts" "[I" : Cond) ∈ gT := gT_t 99 (by decide +kernel) rfl
theorem q_100 : (.fieldLink "WindowCopies$Plan" 24 "WindowCopies$Plan" "begins" "[I" : Cond) ∈ gT := gT_t 100 (by decide +kernel) rfl
theorem q_101 : (.fieldLink "WindowCopies$Plan" 27 "WindowCopies$Plan" "parts" "I" : Cond) ∈ gT := gT_t 101 (by decide +kernel) rfl
theorem q_102 : (.fieldLink "WindowCopies$Plan" 31 "WindowCopies$Plan" "copies" "I" : Cond) ∈ gT := gT_t 102 (by decide +kernel) rfl
theorem q_103 : (.fieldLink "WindowCopies$Plan" 34 "WindowCopies$Plan" "copiedLetters" "I" : Cond) ∈ gT := gT_t 103 (by decide +kernel) rfl
theorem q_104 : (.fieldLink "WindowCopies$Plan" 37 "WindowCopies$Plan" "longestCopy" "I" : Cond) ∈ gT := gT_t 104 (by decide +kernel) rfl
theorem q_105 : (.laysFinal "WindowCopies$Plan" "WindowCopies$Plan" "state" "LWindowCopies$State;" : Cond) ∈ gT := gT_t 105 (by decide +kernel) rfl
theorem q_107 : (.laysFinal "WindowCopies$Plan" "WindowCopies$Plan" "candidates" "LWindowCopies$Candidates;" : Cond) ∈ gT := gT_t 107 (by decide +kernel) rfl
theorem q_109 : (.laysFinal "WindowCopies$Plan" "WindowCopies$Plan" "distances" "[I" : Cond) ∈ gT := gT_t 109 (by decide +kernel) rfl
theorem q_111 : (.laysFinal "WindowCopies$Plan" "WindowCopies$Plan" "lengths" "[I" : Cond) ∈ gT := gT_t 111 (by decide +kernel) rfl
theorem q_113 : (.laysFinal "WindowCopies$Plan" "WindowCopies$Plan" "savings" "[I" : Cond) ∈ gT := gT_t 113 (by decide +kernel) rfl
theorem q_115 : (.laysFinal "WindowCopies$Plan" "WindowCopies$Plan" "leastCosts" "[I" : Cond) ∈ gT := gT_t 115 (by decide +kernel) rfl
theorem q_117 : (.laysFinal "WindowCopies$Plan" "WindowCopies$Plan" "begins" "[I" : Cond) ∈ gT := gT_t 117 (by decide +kernel) rfl
theorem q_119 : (.lays "WindowCopies$Plan" "WindowCopies$Plan" "parts" "I" : Cond) ∈ gT := gT_t 119 (by decide +kernel) rfl
theorem q_121 : (.lays "WindowCopies$Plan" "WindowCopies$Plan" "copies" "I" : Cond) ∈ gT := gT_t 121 (by decide +kernel) rfl
theorem q_123 : (.lays "WindowCopies$Plan" "WindowCopies$Plan" "copiedLetters" "I" : Cond) ∈ gT := gT_t 123 (by decide +kernel) rfl
theorem q_125 : (.lays "WindowCopies$Plan" "WindowCopies$Plan" "longestCopy" "I" : Cond) ∈ gT := gT_t 125 (by decide +kernel) rfl
theorem q_128 : (.classLink "WindowCopies" 48 "WindowCopies$Stretch" : Cond) ∈ gT := gT_t 128 (by decide +kernel) rfl
theorem q_129 : (.instantiable "WindowCopies$Stretch" 3 : Cond) ∈ gT := gT_t 129 (by decide +kernel) rfl
theorem q_131 : (.instanceMethod ⟨"WindowCopies$Stretch", "<init>", "()V"⟩ : Cond) ∈ gT := gT_t 131 (by decide +kernel) rfl
theorem q_133 : (.methodLink "WindowCopies$Stretch" 1 ⟨"java/lang/Object", "<init>", "()V"⟩ : Cond) ∈ gT := gT_t 133 (by decide +kernel) rfl
theorem q_134 : (.fieldLink "WindowCopies$Stretch" 7 "WindowCopies$Stretch" "length" "I" : Cond) ∈ gT := gT_t 134 (by decide +kernel) rfl
theorem q_135 : (.fieldLink "WindowCopies$Stretch" 13 "WindowCopies$Stretch" "former" "I" : Cond) ∈ gT := gT_t 135 (by decide +kernel) rfl
theorem q_136 : (.fieldLink "WindowCopies$Stretch" 16 "WindowCopies$Stretch" "latter" "I" : Cond) ∈ gT := gT_t 136 (by decide +kernel) rfl
theorem q_137 : (.lays "WindowCopies$Stretch" "WindowCopies$Stretch" "length" "I" : Cond) ∈ gT := gT_t 137 (by decide +kernel) rfl
theorem q_139 : (.lays "WindowCopies$Stretch" "WindowCopies$Stretch" "former" "I" : Cond) ∈ gT := gT_t 139 (by decide +kernel) rfl
theorem q_141 : (.lays "WindowCopies$Stretch" "WindowCopies$Stretch" "latter" "I" : Cond) ∈ gT := gT_t 141 (by decide +kernel) rfl
theorem q_144 : (.classLink "WindowCopies" 55 "WindowCopies$Text" : Cond) ∈ gT := gT_t 144 (by decide +kernel) rfl
theorem q_145 : (.instantiable "WindowCopies$Text" 2 : Cond) ∈ gT := gT_t 145 (by decide +kernel) rfl
theorem q_147 : (.instanceMethod ⟨"WindowCopies$Text", "<init>", "()V"⟩ : Cond) ∈ gT := gT_t 147 (by decide +kernel) rfl
theorem q_149 : (.methodLink "WindowCopies$Text" 3 ⟨"java/lang/Object", "<init>", "()V"⟩ : Cond) ∈ gT := gT_t 149 (by decide +kernel) rfl
theorem q_150 : (.fieldLink "WindowCopies$Text" 9 "WindowCopies$Text" "characters" "[I" : Cond) ∈ gT := gT_t 150 (by decide +kernel) rfl
theorem q_151 : (.fieldLink "WindowCopies$Text" 15 "WindowCopies$Text" "size" "I" : Cond) ∈ gT := gT_t 151 (by decide +kernel) rfl
theorem q_152 : (.laysFinal "WindowCopies$Text" "WindowCopies$Text" "characters" "[I" : Cond) ∈ gT := gT_t 152 (by decide +kernel) rfl
theorem q_154 : (.lays "WindowCopies$Text" "WindowCopies$Text" "size" "I" : Cond) ∈ gT := gT_t 154 (by decide +kernel) rfl
theorem q_157 : (.classLink "WindowCopies" 62 "WindowCopies$TextReader" : Cond) ∈ gT := gT_t 157 (by decide +kernel) rfl
theorem q_158 : (.instantiable "WindowCopies$TextReader" 6 : Cond) ∈ gT := gT_t 158 (by decide +kernel) rfl
theorem q_159 : (.methodLink "WindowCopies" 64 ⟨"WindowCopies$TextReader", "<init>", "(LWindowCopies$Text;LWindowCopies$State;)V"⟩ : Cond) ∈ gT := gT_t 159 (by decide +kernel) rfl
theorem q_160 : (.instanceMethod ⟨"WindowCopies$TextReader", "<init>", "(LWindowCopies$Text;LWindowCopies$State;)V"⟩ : Cond) ∈ gT := gT_t 160 (by decide +kernel) rfl
theorem q_162 : (.methodLink "WindowCopies$TextReader" 3 ⟨"java/lang/Object", "<init>", "()V"⟩ : Cond) ∈ gT := gT_t 162 (by decide +kernel) rfl
theorem q_163 : (.classLink "WindowCopies$TextReader" 9 "WindowCopies$State" : Cond) ∈ gT := gT_t 163 (by decide +kernel) rfl
theorem q_164 : (.methodLink "WindowCopies$TextReader" 11 ⟨"WindowCopies$State", "<init>", "()V"⟩ : Cond) ∈ gT := gT_t 164 (by decide +kernel) rfl
theorem q_165 : (.fieldLink "WindowCopies$TextReader" 28 "WindowCopies$TextReader" "text" "LWindowCopies$Text;" : Cond) ∈ gT := gT_t 165 (by decide +kernel) rfl
theorem q_166 : (.fieldLink "WindowCopies$TextReader" 32 "WindowCopies$TextReader" "state" "LWindowCopies$State;" : Cond) ∈ gT := gT_t 166 (by decide +kernel) rfl
theorem q_167 : (.fieldLink "WindowCopies$TextReader" 12 "WindowCopies$TextReader" "told" "LWindowCopies$State;" : Cond) ∈ gT := gT_t 167 (by decide +kernel) rfl
theorem q_168 : (.fieldLink "WindowCopies$TextReader" 18 "WindowCopies$TextReader" "next" "I" : Cond) ∈ gT := gT_t 168 (by decide +kernel) rfl
theorem q_169 : (.fieldLink "WindowCopies$TextReader" 22 "WindowCopies$TextReader" "place" "I" : Cond) ∈ gT := gT_t 169 (by decide +kernel) rfl
theorem q_170 : (.fieldLink "WindowCopies$TextReader" 25 "WindowCopies$TextReader" "reason" "I" : Cond) ∈ gT := gT_t 170 (by decide +kernel) rfl
theorem q_171 : (.laysFinal "WindowCopies$TextReader" "WindowCopies$TextReader" "text" "LWindowCopies$Text;" : Cond) ∈ gT := gT_t 171 (by decide +kernel) rfl
theorem q_173 : (.laysFinal "WindowCopies$TextReader" "WindowCopies$TextReader" "state" "LWindowCopies$State;" : Cond) ∈ gT := gT_t 173 (by decide +kernel) rfl
theorem q_175 : (.laysFinal "WindowCopies$TextReader" "WindowCopies$TextReader" "told" "LWindowCopies$State;" : Cond) ∈ gT := gT_t 175 (by decide +kernel) rfl
theorem q_177 : (.lays "WindowCopies$TextReader" "WindowCopies$TextReader" "next" "I" : Cond) ∈ gT := gT_t 177 (by decide +kernel) rfl
theorem q_179 : (.lays "WindowCopies$TextReader" "WindowCopies$TextReader" "place" "I" : Cond) ∈ gT := gT_t 179 (by decide +kernel) rfl
theorem q_181 : (.lays "WindowCopies$TextReader" "WindowCopies$TextReader" "reason" "I" : Cond) ∈ gT := gT_t 181 (by decide +kernel) rfl
theorem q_184 : (.fieldLink "WindowCopies" 10 "WindowCopies" "state" "LWindowCopies$State;" : Cond) ∈ gT := gT_t 184 (by decide +kernel) rfl
theorem q_185 : (.fieldLink "WindowCopies" 16 "WindowCopies" "snapshot" "LWindowCopies$State;" : Cond) ∈ gT := gT_t 185 (by decide +kernel) rfl
theorem q_186 : (.fieldLink "WindowCopies" 19 "WindowCopies" "hasSnapshot" "Z" : Cond) ∈ gT := gT_t 186 (by decide +kernel) rfl
theorem q_187 : (.fieldLink "WindowCopies" 26 "WindowCopies" "history" "LWindowCopies$History;" : Cond) ∈ gT := gT_t 187 (by decide +kernel) rfl
theorem q_188 : (.fieldLink "WindowCopies" 35 "WindowCopies" "candidates" "LWindowCopies$Candidates;" : Cond) ∈ gT := gT_t 188 (by decide +kernel) rfl
theorem q_189 : (.fieldLink "WindowCopies" 44 "WindowCopies" "plan" "LWindowCopies$Plan;" : Cond) ∈ gT := gT_t 189 (by decide +kernel) rfl
theorem q_190 : (.fieldLink "WindowCopies" 51 "WindowCopies" "stretch" "LWindowCopies$Stretch;" : Cond) ∈ gT := gT_t 190 (by decide +kernel) rfl
theorem q_191 : (.fieldLink "WindowCopies" 58 "WindowCopies" "text" "LWindowCopies$Text;" : Cond) ∈ gT := gT_t 191 (by decide +kernel) rfl
theorem q_192 : (.fieldLink "WindowCopies" 67 "WindowCopies" "reader" "LWindowCopies$TextReader;" : Cond) ∈ gT := gT_t 192 (by decide +kernel) rfl
theorem q_193 : (.laysFinal "WindowCopies" "WindowCopies" "state" "LWindowCopies$State;" : Cond) ∈ gT := gT_t 193 (by decide +kernel) rfl
theorem q_195 : (.laysFinal "WindowCopies" "WindowCopies" "snapshot" "LWindowCopies$State;" : Cond) ∈ gT := gT_t 195 (by decide +kernel) rfl
theorem q_197 : (.lays "WindowCopies" "WindowCopies" "hasSnapshot" "Z" : Cond) ∈ gT := gT_t 197 (by decide +kernel) rfl
theorem q_199 : (.laysFinal "WindowCopies" "WindowCopies" "history" "LWindowCopies$History;" : Cond) ∈ gT := gT_t 199 (by decide +kernel) rfl
theorem q_201 : (.laysFinal "WindowCopies" "WindowCopies" "candidates" "LWindowCopies$Candidates;" : Cond) ∈ gT := gT_t 201 (by decide +kernel) rfl
theorem q_203 : (.laysFinal "WindowCopies" "WindowCopies" "plan" "LWindowCopies$Plan;" : Cond) ∈ gT := gT_t 203 (by decide +kernel) rfl
theorem q_205 : (.laysFinal "WindowCopies" "WindowCopies" "stretch" "LWindowCopies$Stretch;" : Cond) ∈ gT := gT_t 205 (by decide +kernel) rfl
theorem q_207 : (.laysFinal "WindowCopies" "WindowCopies" "text" "LWindowCopies$Text;" : Cond) ∈ gT := gT_t 207 (by decide +kernel) rfl
theorem q_209 : (.laysFinal "WindowCopies" "WindowCopies" "reader" "LWindowCopies$TextReader;" : Cond) ∈ gT := gT_t 209 (by decide +kernel) rfl
theorem q_212 : (.methodLink "WindowCopiesLaw" 13 ⟨"WindowCopies", "put", "(I)I"⟩ : Cond) ∈ gT := gT_t 212 (by decide +kernel) rfl
theorem q_213 : (.instanceMethod ⟨"WindowCopies", "put", "(I)I"⟩ : Cond) ∈ gT := gT_t 213 (by decide +kernel) rfl
theorem q_214 : (.selects "WindowCopies" ⟨"WindowCopies", "put", "(I)I"⟩ ⟨"WindowCopies", "put", "(I)I"⟩ : Cond) ∈ gT := gT_t 214 (by decide +kernel) rfl
theorem q_216 : (.methodLink "WindowCopies" 71 ⟨"WindowCopies", "isLetter", "(I)Z"⟩ : Cond) ∈ gT := gT_t 216 (by decide +kernel) rfl
theorem q_217 : (.static ⟨"WindowCopies", "isLetter", "(I)Z"⟩ : Cond) ∈ gT := gT_t 217 (by decide +kernel) rfl
theorem q_219 : (.methodLink "WindowCopies" 86 ⟨"WindowCopies", "isIn", "(III)Z"⟩ : Cond) ∈ gT := gT_t 219 (by decide +kernel) rfl
theorem q_220 : (.static ⟨"WindowCopies", "isIn", "(III)Z"⟩ : Cond) ∈ gT := gT_t 220 (by decide +kernel) rfl
theorem q_222 : (.methodLink "WindowCopies" 75 ⟨"WindowCopies$State", "size", "()I"⟩ : Cond) ∈ gT := gT_t 222 (by decide +kernel) rfl
theorem q_223 : (.instanceMethod ⟨"WindowCopies$State", "size", "()I"⟩ : Cond) ∈ gT := gT_t 223 (by decide +kernel) rfl
theorem q_224 : (.selects "WindowCopies$State" ⟨"WindowCopies$State", "size", "()I"⟩ ⟨"WindowCopies$State", "size", "()I"⟩ : Cond) ∈ gT := gT_t 224 (by decide +kernel) rfl
theorem q_226 : (.methodLink "WindowCopies" 79 ⟨"WindowCopies$History", "record", "(LWindowCopies$State;)V"⟩ : Cond) ∈ gT := gT_t 226 (by decide +kernel) rfl
theorem q_227 : (.instanceMethod ⟨"WindowCopies$History", "record", "(LWindowCopies$State;)V"⟩ : Cond) ∈ gT := gT_t 227 (by decide +kernel) rfl
theorem q_228 : (.selects "WindowCopies$History" ⟨"WindowCopies$History", "record", "(LWindowCopies$State;)V"⟩ ⟨"WindowCopies$History", "record", "(LWindowCopies$State;)V"⟩ : Cond) ∈ gT := gT_t 228 (by decide +kernel) rfl
theorem q_230 : (.methodLink "WindowCopies$History" 25 ⟨"WindowCopies$History", "slotOf", "(I)I"⟩ : Cond) ∈ gT := gT_t 230 (by decide +kernel) rfl
theorem q_232 : (.instanceMethod ⟨"WindowCopies$History", "slotOf", "(I)I"⟩ : Cond) ∈ gT := gT_t 232 (by decide +kernel) rfl
theorem q_234 : (.methodLink "WindowCopies$History" 29 ⟨"WindowCopies$History", "stateAt", "(I)LWindowCopies$State;"⟩ : Cond) ∈ gT := gT_t 234 (by decide +kernel) rfl
theorem q_236 : (.instanceMethod ⟨"WindowCopies$History", "stateAt", "(I)LWindowCopies$State;"⟩ : Cond) ∈ gT := gT_t 236 (by decide +kernel) rfl
theorem q_238 : (.methodLink "WindowCopies$History" 33 ⟨"WindowCopies$State", "copyFrom", "(LWindowCopies$State;)V"⟩ : Cond) ∈ gT := gT_t 238 (by decide +kernel) rfl
theorem q_239 : (.instanceMethod ⟨"WindowCopies$State", "copyFrom", "(LWindowCopies$State;)V"⟩ : Cond) ∈ gT := gT_t 239 (by decide +kernel) rfl
theorem q_240 : (.selects "WindowCopies$State" ⟨"WindowCopies$State", "copyFrom", "(LWindowCopies$State;)V"⟩ ⟨"WindowCopies$State", "copyFrom", "(LWindowCopies$State;)V"⟩ : Cond) ∈ gT := gT_t 240 (by decide +kernel) rfl
theorem q_242 : (.methodLink "WindowCopies$State" 54 ⟨"WindowCopies$State", "copyRowFrom", "(LWindowCopies$State;)V"⟩ : Cond) ∈ gT := gT_t 242 (by decide +kernel) rfl
theorem q_243 : (.instanceMethod ⟨"WindowCopies$State", "copyRowFrom", "(LWindowCopies$State;)V"⟩ : Cond) ∈ gT := gT_t 243 (by decide +kernel) rfl
theorem q_244 : (.selects "WindowCopies$State" ⟨"WindowCopies$State", "copyRowFrom", "(LWindowCopies$State;)V"⟩ ⟨"WindowCopies$State", "copyRowFrom", "(LWindowCopies$State;)V"⟩ : Cond) ∈ gT := gT_t 244 (by decide +kernel) rfl
theorem q_246 : (.methodLink "WindowCopies$State" 62 ⟨"WindowCopies$State", "size", "()I"⟩ : Cond) ∈ gT := gT_t 246 (by decide +kernel) rfl
theorem q_247 : (.methodLink "WindowCopies$State" 33 ⟨"WindowCopies$State", "letterAt", "(I)I"⟩ : Cond) ∈ gT := gT_t 247 (by decide +kernel) rfl
theorem q_248 : (.instanceMethod ⟨"WindowCopies$State", "letterAt", "(I)I"⟩ : Cond) ∈ gT := gT_t 248 (by decide +kernel) rfl
theorem q_249 : (.selects "WindowCopies$State" ⟨"WindowCopies$State", "letterAt", "(I)I"⟩ ⟨"WindowCopies$State", "letterAt", "(I)I"⟩ : Cond) ∈ gT := gT_t 249 (by decide +kernel) rfl
theorem q_251 : (.methodLink "WindowCopies$State" 65 ⟨"WindowCopies$State", "changeLetter", "(II)V"⟩ : Cond) ∈ gT := gT_t 251 (by decide +kernel) rfl
theorem q_252 : (.instanceMethod ⟨"WindowCopies$State", "changeLetter", "(II)V"⟩ : Cond) ∈ gT := gT_t 252 (by decide +kernel) rfl
theorem q_253 : (.selects "WindowCopies$State" ⟨"WindowCopies$State", "changeLetter", "(II)V"⟩ ⟨"WindowCopies$State", "changeLetter", "(II)V"⟩ : Cond) ∈ gT := gT_t 253 (by decide +kernel) rfl
theorem q_255 : (.methodLink "WindowCopies$State" 47 ⟨"WindowCopies$State", "setting", "(I)I"⟩ : Cond) ∈ gT := gT_t 255 (by decide +kernel) rfl
theorem q_256 : (.instanceMethod ⟨"WindowCopies$State", "setting", "(I)I"⟩ : Cond) ∈ gT := gT_t 256 (by decide +kernel) rfl
theorem q_257 : (.selects "WindowCopies$State" ⟨"WindowCopies$State", "setting", "(I)I"⟩ ⟨"WindowCopies$State", "setting", "(I)I"⟩ : Cond) ∈ gT := gT_t 257 (by decide +kernel) rfl
theorem q_259 : (.methodLink "WindowCopies$State" 58 ⟨"WindowCopies$State", "changeSetting", "(II)V"⟩ : Cond) ∈ gT := gT_t 259 (by decide +kernel) rfl
theorem q_260 : (.instanceMethod ⟨"WindowCopies$State", "changeSetting", "(II)V"⟩ : Cond) ∈ gT := gT_t 260 (by decide +kernel) rfl
theorem q_261 : (.selects "WindowCopies$State" ⟨"WindowCopies$State", "changeSetting", "(II)V"⟩ ⟨"WindowCopies$State", "changeSetting", "(II)V"⟩ : Cond) ∈ gT := gT_t 261 (by decide +kernel) rfl
theorem q_263 : (.methodLink "WindowCopies" 82 ⟨"WindowCopies$State", "append", "(I)V"⟩ : Cond) ∈ gT := gT_t 263 (by decide +kernel) rfl
theorem q_264 : (.instanceMethod ⟨"WindowCopies$State", "append", "(I)V"⟩ : Cond) ∈ gT := gT_t 264 (by decide +kernel) rfl
theorem q_265 : (.selects "WindowCopies$State" ⟨"WindowCopies$State", "append", "(I)V"⟩ ⟨"WindowCopies$State", "append", "(I)V"⟩ : Cond) ∈ gT := gT_t 265 (by decide +kernel) rfl
theorem q_267 : (.methodLink "WindowCopiesLaw" 18 ⟨"WindowCopies", "drop", "(I)I"⟩ : Cond) ∈ gT := gT_t 267 (by decide +kernel) rfl
theorem q_268 : (.instanceMethod ⟨"WindowCopies", "drop", "(I)I"⟩ : Cond) ∈ gT := gT_t 268 (by decide +kernel) rfl
theorem q_269 : (.selects "WindowCopies" ⟨"WindowCopies", "drop", "(I)I"⟩ ⟨"WindowCopies", "drop", "(I)I"⟩ : Cond) ∈ gT := gT_t 269 (by decide +kernel) rfl
theorem q_271 : (.methodLink "WindowCopies" 90 ⟨"WindowCopies$State", "shorten", "(I)V"⟩ : Cond) ∈ gT := gT_t 271 (by decide +kernel) rfl
theorem q_272 : (.instanceMethod ⟨"WindowCopies$State", "shorten", "(I)V"⟩ : Cond) ∈ gT := gT_t 272 (by decide +kernel) rfl
theorem q_273 : (.selects "WindowCopies$State" ⟨"WindowCopies$State", "shorten", "(I)V"⟩ ⟨"WindowCopies$State", "shorten", "(I)V"⟩ : Cond) ∈ gT := gT_t 273 (by decide +kernel) rfl
theorem q_275 : (.methodLink "WindowCopies$State" 41 ⟨"java/lang/Math", "max", "(II)I"⟩ : Cond) ∈ gT := gT_t 275 (by decide +kernel) rfl
theorem q_276 : (.static ⟨"java/lang/Math", "max", "(II)I"⟩ : Cond) ∈ gT := gT_t 276 (by decide +kernel) rfl
theorem q_278 : (.methodLink "WindowCopiesLaw" 22 ⟨"WindowCopies", "mend", "(II)I"⟩ : Cond) ∈ gT := gT_t 278 (by decide +kernel) rfl
theorem q_279 : (.instanceMethod ⟨"WindowCopies", "mend", "(II)I"⟩ : Cond) ∈ gT := gT_t 279 (by decide +kernel) rfl
theorem q_280 : (.selects "WindowCopies" ⟨"WindowCopies", "mend", "(II)I"⟩ ⟨"WindowCopies", "mend", "(II)I"⟩ : Cond) ∈ gT := gT_t 280 (by decide +kernel) rfl
theorem q_282 : (.methodLink "WindowCopies" 93 ⟨"WindowCopies$State", "hasPlace", "(I)Z"⟩ : Cond) ∈ gT := gT_t 282 (by decide +kernel) rfl
theorem q_283 : (.instanceMethod ⟨"WindowCopies$State", "hasPlace", "(I)Z"⟩ : Cond) ∈ gT := gT_t 283 (by decide +kernel) rfl
theorem q_284 : (.selects "WindowCopies$State" ⟨"WindowCopies$State", "hasPlace", "(I)Z"⟩ ⟨"WindowCopies$State", "hasPlace", "(I)Z"⟩ : Cond) ∈ gT := gT_t 284 (by decide +kernel) rfl
theorem q_286 : (.methodLink "WindowCopies" 96 ⟨"WindowCopies$State", "letterAt", "(I)I"⟩ : Cond) ∈ gT := gT_t 286 (by decide +kernel) rfl
theorem q_287 : (.methodLink "WindowCopies" 100 ⟨"WindowCopies$State", "changeLetter", "(II)V"⟩ : Cond) ∈ gT := gT_t 287 (by decide +kernel) rfl
theorem q_288 : (.methodLink "WindowCopiesLaw" 27 ⟨"WindowCopies", "set", "(II)I"⟩ : Cond) ∈ gT := gT_t 288 (by decide +kernel) rfl
theorem q_289 : (.instanceMethod ⟨"WindowCopies", "set", "(II)I"⟩ : Cond) ∈ gT := gT_t 289 (by decide +kernel) rfl
theorem q_290 : (.selects "WindowCopies" ⟨"WindowCopies", "set", "(II)I"⟩ ⟨"WindowCopies", "set", "(II)I"⟩ : Cond) ∈ gT := gT_t 290 (by decide +kernel) rfl
theorem q_292 : (.fieldLink "WindowCopies" 104 "WindowCopies" "LOWEST_VALUES" "[I" : Cond) ∈ gT := gT_t 292 (by decide +kernel) rfl
theorem q_294 : (.methodLink "WindowCopies" 108 ⟨"WindowCopies", "at", "([II)I"⟩ : Cond) ∈ gT := gT_t 294 (by decide +kernel) rfl
theorem q_295 : (.fieldLink "WindowCopies" 112 "WindowCopies" "HIGHEST_VALUES" "[I" : Cond) ∈ gT := gT_t 295 (by decide +kernel) rfl
theorem q_297 : (.methodLink "WindowCopies" 115 ⟨"WindowCopies$State", "setting", "(I)I"⟩ : Cond) ∈ gT := gT_t 297 (by decide +kernel) rfl
theorem q_298 : (.methodLink "WindowCopies" 118 ⟨"WindowCopies$State", "changeSetting", "(II)V"⟩ : Cond) ∈ gT := gT_t 298 (by decide +kernel) rfl
theorem q_299 : (.methodLink "WindowCopiesLaw" 31 ⟨"WindowCopies", "letter", "(I)I"⟩ : Cond) ∈ gT := gT_t 299 (by decide +kernel) rfl
theorem q_300 : (.instanceMethod ⟨"WindowCopies", "letter", "(I)I"⟩ : Cond) ∈ gT := gT_t 300 (by decide +kernel) rfl
theorem q_301 : (.selects "WindowCopies" ⟨"WindowCopies", "letter", "(I)I"⟩ ⟨"WindowCopies", "letter", "(I)I"⟩ : Cond) ∈ gT := gT_t 301 (by decide +kernel) rfl
theorem q_303 : (.methodLink "WindowCopiesLaw" 35 ⟨"WindowCopies", "candidate", "(III)I"⟩ : Cond) ∈ gT := gT_t 303 (by decide +kernel) rfl
theorem q_304 : (.instanceMethod ⟨"WindowCopies", "candidate", "(III)I"⟩ : Cond) ∈ gT := gT_t 304 (by decide +kernel) rfl
theorem q_305 : (.selects "WindowCopies" ⟨"WindowCopies", "candidate", "(III)I"⟩ ⟨"WindowCopies", "candidate", "(III)I"⟩ : Cond) ∈ gT := gT_t 305 (by decide +kernel) rfl
theorem q_307 : (.methodLink "WindowCopies" 121 ⟨"WindowCopies$Candidates", "lookAt", "(I)V"⟩ : Cond) ∈ gT := gT_t 307 (by decide +kernel) rfl
theorem q_308 : (.instanceMethod ⟨"WindowCopies$Candidates", "lookAt", "(I)V"⟩ : Cond) ∈ gT := gT_t 308 (by decide +kernel) rfl
theorem q_309 : (.selects "WindowCopies$Candidates" ⟨"WindowCopies$Candidates", "lookAt", "(I)V"⟩ ⟨"WindowCopies$Candidates", "lookAt", "(I)V"⟩ : Cond) ∈ gT := gT_t 309 (by decide +kernel) rfl
theorem q_311 : (.methodLink "WindowCopies$Candidates" 63 ⟨"WindowCopies$Candidates", "beginBehindRow", "()V"⟩ : Cond) ∈ gT := gT_t 311 (by decide +kernel) rfl
theorem q_312 : (.instanceMethod ⟨"WindowCopies$Candidates", "beginBehindRow", "()V"⟩ : Cond) ∈ gT := gT_t 312 (by decide +kernel) rfl
theorem q_313 : (.selects "WindowCopies$Candidates" ⟨"WindowCopies$Candidates", "beginBehindRow", "()V"⟩ ⟨"WindowCopies$Candidates", "beginBehindRow", "()V"⟩ : Cond) ∈ gT := gT_t 313 (by decide +kernel) rfl
theorem q_315 : (.methodLink "WindowCopies$Candidates" 32 ⟨"WindowCopies$State", "size", "()I"⟩ : Cond) ∈ gT := gT_t 315 (by decide +kernel) rfl
theorem q_317 : (.methodLink "WindowCopies$Candidates" 66 ⟨"WindowCopies$Candidates", "stepAhead", "()V"⟩ : Cond) ∈ gT := gT_t 317 (by decide +kernel) rfl
theorem q_318 : (.instanceMethod ⟨"WindowCopies$Candidates", "stepAhead", "()V"⟩ : Cond) ∈ gT := gT_t 318 (by decide +kernel) rfl
theorem q_319 : (.selects "WindowCopies$Candidates" ⟨"WindowCopies$Candidates", "stepAhead", "()V"⟩ ⟨"WindowCopies$Candidates", "stepAhead", "()V"⟩ : Cond) ∈ gT := gT_t 319 (by decide +kernel) rfl
theorem q_321 : (.methodLink "WindowCopies$Candidates" 42 ⟨"WindowCopies$State", "setting", "(I)I"⟩ : Cond) ∈ gT := gT_t 321 (by decide +kernel) rfl
theorem q_322 : (.methodLink "WindowCopies$Candidates" 46 ⟨"java/lang/Math", "min", "(II)I"⟩ : Cond) ∈ gT := gT_t 322 (by decide +kernel) rfl
theorem q_323 : (.static ⟨"java/lang/Math", "min", "(II)I"⟩ : Cond) ∈ gT := gT_t 323 (by decide +kernel) rfl
theorem q_325 : (.methodLink "WindowCopies$Candidates" 52 ⟨"WindowCopies$State", "letterAt", "(I)I"⟩ : Cond) ∈ gT := gT_t 325 (by decide +kernel) rfl
theorem q_327 : (.methodLink "WindowCopies$Candidates" 59 ⟨"WindowCopies$Candidates", "takeIn", "(II)V"⟩ : Cond) ∈ gT := gT_t 327 (by decide +kernel) rfl
theorem q_329 : (.instanceMethod ⟨"WindowCopies$Candidates", "takeIn", "(II)V"⟩ : Cond) ∈ gT := gT_t 329 (by decide +kernel) rfl
theorem q_331 : (.methodLink "WindowCopies" 124 ⟨"WindowCopies$Candidates", "lookedAt", "()I"⟩ : Cond) ∈ gT := gT_t 331 (by decide +kernel) rfl
theorem q_332 : (.instanceMethod ⟨"WindowCopies$Candidates", "lookedAt", "()I"⟩ : Cond) ∈ gT := gT_t 332 (by decide +kernel) rfl
theorem q_333 : (.selects "WindowCopies$Candidates" ⟨"WindowCopies$Candidates", "lookedAt", "()I"⟩ ⟨"WindowCopies$Candidates", "lookedAt", "()I"⟩ : Cond) ∈ gT := gT_t 333 (by decide +kernel) rfl
theorem q_335 : (.methodLink "WindowCopies" 127 ⟨"WindowCopies$Candidates", "distance", "(I)I"⟩ : Cond) ∈ gT := gT_t 335 (by decide +kernel) rfl
theorem q_336 : (.instanceMethod ⟨"WindowCopies$Candidates", "distance", "(I)I"⟩ : Cond) ∈ gT := gT_t 336 (by decide +kernel) rfl
theorem q_337 : (.selects "WindowCopies$Candidates" ⟨"WindowCopies$Candidates", "distance", "(I)I"⟩ ⟨"WindowCopies$Candidates", "distance", "(I)I"⟩ : Cond) ∈ gT := gT_t 337 (by decide +kernel) rfl
theorem q_339 : (.methodLink "WindowCopies" 130 ⟨"WindowCopies$Candidates", "reach", "(I)I"⟩ : Cond) ∈ gT := gT_t 339 (by decide +kernel) rfl
theorem q_340 : (.instanceMethod ⟨"WindowCopies$Candidates", "reach", "(I)I"⟩ : Cond) ∈ gT := gT_t 340 (by decide +kernel) rfl
theorem q_341 : (.selects "WindowCopies$Candidates" ⟨"WindowCopies$Candidates", "reach", "(I)I"⟩ ⟨"WindowCopies$Candidates", "reach", "(I)I"⟩ : Cond) ∈ gT := gT_t 341 (by decide +kernel) rfl
theorem q_343 : (.methodLink "WindowCopiesLaw" 40 ⟨"WindowCopies", "found", "(II)I"⟩ : Cond) ∈ gT := gT_t 343 (by decide +kernel) rfl
theorem q_344 : (.instanceMethod ⟨"WindowCopies", "found", "(II)I"⟩ : Cond) ∈ gT := gT_t 344 (by decide +kernel) rfl
theorem q_345 : (.selects "WindowCopies" ⟨"WindowCopies", "found", "(II)I"⟩ ⟨"WindowCopies", "found", "(II)I"⟩ : Cond) ∈ gT := gT_t 345 (by decide +kernel) rfl
theorem q_347 : (.methodLink "WindowCopies" 133 ⟨"WindowCopies$Candidates", "all", "()I"⟩ : Cond) ∈ gT := gT_t 347 (by decide +kernel) rfl
theorem q_348 : (.instanceMethod ⟨"WindowCopies$Candidates", "all", "()I"⟩ : Cond) ∈ gT := gT_t 348 (by decide +kernel) rfl
theorem q_349 : (.selects "WindowCopies$Candidates" ⟨"WindowCopies$Candidates", "all", "()I"⟩ ⟨"WindowCopies$Candidates", "all", "()I"⟩ : Cond) ∈ gT := gT_t 349 (by decide +kernel) rfl
theorem q_351 : (.methodLink "WindowCopies" 136 ⟨"WindowCopies$Candidates", "best", "()I"⟩ : Cond) ∈ gT := gT_t 351 (by decide +kernel) rfl
theorem q_352 : (.instanceMethod ⟨"WindowCopies$Candidates", "best", "()I"⟩ : Cond) ∈ gT := gT_t 352 (by decide +kernel) rfl
theorem q_353 : (.selects "WindowCopies$Candidates" ⟨"WindowCopies$Candidates", "best", "()I"⟩ ⟨"WindowCopies$Candidates", "best", "()I"⟩ : Cond) ∈ gT := gT_t 353 (by decide +kernel) rfl
theorem q_355 : (.methodLink "WindowCopies$Candidates" 69 ⟨"WindowCopies$Candidates", "reach", "(I)I"⟩ : Cond) ∈ gT := gT_t 355 (by decide +kernel) rfl
theorem q_356 : (.methodLink "WindowCopies" 139 ⟨"WindowCopies$State", "savingOf", "(I)I"⟩ : Cond) ∈ gT := gT_t 356 (by decide +kernel) rfl
theorem q_357 : (.instanceMethod ⟨"WindowCopies$State", "savingOf", "(I)I"⟩ : Cond) ∈ gT := gT_t 357 (by decide +kernel) rfl
theorem q_358 : (.selects "WindowCopies$State" ⟨"WindowCopies$State", "savingOf", "(I)I"⟩ ⟨"WindowCopies$State", "savingOf", "(I)I"⟩ : Cond) ∈ gT := gT_t 358 (by decide +kernel) rfl
theorem q_360 : (.methodLink "WindowCopiesLaw" 44 ⟨"WindowCopies", "isCopy", "(III)I"⟩ : Cond) ∈ gT := gT_t 360 (by decide +kernel) rfl
theorem q_361 : (.instanceMethod ⟨"WindowCopies", "isCopy", "(III)I"⟩ : Cond) ∈ gT := gT_t 361 (by decide +kernel) rfl
theorem q_362 : (.selects "WindowCopies" ⟨"WindowCopies", "isCopy", "(III)I"⟩ ⟨"WindowCopies", "isCopy", "(III)I"⟩ : Cond) ∈ gT := gT_t 362 (by decide +kernel) rfl
theorem q_364 : (.methodLink "WindowCopies" 142 ⟨"java/lang/Math", "min", "(II)I"⟩ : Cond) ∈ gT := gT_t 364 (by decide +kernel) rfl
theorem q_365 : (.methodLink "WindowCopies" 148 ⟨"WindowCopies$State", "likeLength", "(II)I"⟩ : Cond) ∈ gT := gT_t 365 (by decide +kernel) rfl
theorem q_366 : (.instanceMethod ⟨"WindowCopies$State", "likeLength", "(II)I"⟩ : Cond) ∈ gT := gT_t 366 (by decide +kernel) rfl
theorem q_367 : (.selects "WindowCopies$State" ⟨"WindowCopies$State", "likeLength", "(II)I"⟩ ⟨"WindowCopies$State", "likeLength", "(II)I"⟩ : Cond) ∈ gT := gT_t 367 (by decide +kernel) rfl
theorem q_369 : (.methodLink "WindowCopiesLaw" 48 ⟨"WindowCopies", "part", "(III)I"⟩ : Cond) ∈ gT := gT_t 369 (by decide +kernel) rfl
theorem q_370 : (.instanceMethod ⟨"WindowCopies", "part", "(III)I"⟩ : Cond) ∈ gT := gT_t 370 (by decide +kernel) rfl
theorem q_371 : (.selects "WindowCopies" ⟨"WindowCopies", "part", "(III)I"⟩ ⟨"WindowCopies", "part", "(III)I"⟩ : Cond) ∈ gT := gT_t 371 (by decide +kernel) rfl
theorem q_373 : (.methodLink "WindowCopies" 151 ⟨"WindowCopies", "isWay", "(I)Z"⟩ : Cond) ∈ gT := gT_t 373 (by decide +kernel) rfl
theorem q_374 : (.static ⟨"WindowCopies", "isWay", "(I)Z"⟩ : Cond) ∈ gT := gT_t 374 (by decide +kernel) rfl
theorem q_376 : (.methodLink "WindowCopies" 154 ⟨"WindowCopies$Plan", "make", "()V"⟩ : Cond) ∈ gT := gT_t 376 (by decide +kernel) rfl
theorem q_377 : (.instanceMethod ⟨"WindowCopies$Plan", "make", "()V"⟩ : Cond) ∈ gT := gT_t 377 (by decide +kernel) rfl
theorem q_378 : (.selects "WindowCopies$Plan" ⟨"WindowCopies$Plan", "make", "()V"⟩ ⟨"WindowCopies$Plan", "make", "()V"⟩ : Cond) ∈ gT := gT_t 378 (by decide +kernel) rfl
theorem q_380 : (.methodLink "WindowCopies$Plan" 48 ⟨"WindowCopies$State", "size", "()I"⟩ : Cond) ∈ gT := gT_t 380 (by decide +kernel) rfl
theorem q_382 : (.methodLink "WindowCopies$Plan" 58 ⟨"WindowCopies$Candidates", "beginBehindRow", "()V"⟩ : Cond) ∈ gT := gT_t 382 (by decide +kernel) rfl
theorem q_383 : (.methodLink "WindowCopies$Plan" 63 ⟨"WindowCopies$Candidates", "stepAhead", "()V"⟩ : Cond) ∈ gT := gT_t 383 (by decide +kernel) rfl
theorem q_384 : (.methodLink "WindowCopies$Plan" 66 ⟨"WindowCopies$Plan", "planFound", "(I)V"⟩ : Cond) ∈ gT := gT_t 384 (by decide +kernel) rfl
theorem q_386 : (.instanceMethod ⟨"WindowCopies$Plan", "planFound", "(I)V"⟩ : Cond) ∈ gT := gT_t 386 (by decide +kernel) rfl
theorem q_388 : (.methodLink "WindowCopies$Plan" 76 ⟨"WindowCopies$Candidates", "best", "()I"⟩ : Cond) ∈ gT := gT_t 388 (by decide +kernel) rfl
theorem q_389 : (.methodLink "WindowCopies$Plan" 79 ⟨"WindowCopies$Plan", "planLetter", "(II)V"⟩ : Cond) ∈ gT := gT_t 389 (by decide +kernel) rfl
theorem q_391 : (.instanceMethod ⟨"WindowCopies$Plan", "planLetter", "(II)V"⟩ : Cond) ∈ gT := gT_t 391 (by decide +kernel) rfl
theorem q_393 : (.methodLink "WindowCopies$Plan" 90 ⟨"WindowCopies$Plan", "planPart", "(IIII)V"⟩ : Cond) ∈ gT := gT_t 393 (by decide +kernel) rfl
theorem q_395 : (.instanceMethod ⟨"WindowCopies$Plan", "planPart", "(IIII)V"⟩ : Cond) ∈ gT := gT_t 395 (by decide +kernel) rfl
theorem q_397 : (.methodLink "WindowCopies$Plan" 83 ⟨"WindowCopies$Candidates", "reach", "(I)I"⟩ : Cond) ∈ gT := gT_t 397 (by decide +kernel) rfl
theorem q_398 : (.methodLink "WindowCopies$Plan" 87 ⟨"WindowCopies$Candidates", "distance", "(I)I"⟩ : Cond) ∈ gT := gT_t 398 (by decide +kernel) rfl
theorem q_399 : (.methodLink "WindowCopies$Plan" 94 ⟨"WindowCopies$State", "savingOf", "(I)I"⟩ : Cond) ∈ gT := gT_t 399 (by decide +kernel) rfl
theorem q_400 : (.methodLink "WindowCopies$Plan" 70 ⟨"WindowCopies$Plan", "planWeighed", "(I)V"⟩ : Cond) ∈ gT := gT_t 400 (by decide +kernel) rfl
theorem q_402 : (.instanceMethod ⟨"WindowCopies$Plan", "planWeighed", "(I)V"⟩ : Cond) ∈ gT := gT_t 402 (by decide +kernel) rfl
theorem q_405 : (.methodLink "WindowCopies$Plan" 101 ⟨"WindowCopies$Plan", "distanceAt", "(II)I"⟩ : Cond) ∈ gT := gT_t 405 (by decide +kernel) rfl
theorem q_406 : (.instanceMethod ⟨"WindowCopies$Plan", "distanceAt", "(II)I"⟩ : Cond) ∈ gT := gT_t 406 (by decide +kernel) rfl
theorem q_407 : (.selects "WindowCopies$Plan" ⟨"WindowCopies$Plan", "distanceAt", "(II)I"⟩ ⟨"WindowCopies$Plan", "distanceAt", "(II)I"⟩ : Cond) ∈ gT := gT_t 407 (by decide +kernel) rfl
theorem q_409 : (.methodLink "WindowCopies$Plan" 105 ⟨"WindowCopies$Plan", "lengthAt", "(II)I"⟩ : Cond) ∈ gT := gT_t 409 (by decide +kernel) rfl
theorem q_410 : (.instanceMethod ⟨"WindowCopies$Plan", "lengthAt", "(II)I"⟩ : Cond) ∈ gT := gT_t 410 (by decide +kernel) rfl
theorem q_411 : (.selects "WindowCopies$Plan" ⟨"WindowCopies$Plan", "lengthAt", "(II)I"⟩ ⟨"WindowCopies$Plan", "lengthAt", "(II)I"⟩ : Cond) ∈ gT := gT_t 411 (by decide +kernel) rfl
theorem q_413 : (.methodLink "WindowCopies$Plan" 73 ⟨"WindowCopies$Plan", "planCheapest", "(I)V"⟩ : Cond) ∈ gT := gT_t 413 (by decide +kernel) rfl
theorem q_415 : (.instanceMethod ⟨"WindowCopies$Plan", "planCheapest", "(I)V"⟩ : Cond) ∈ gT := gT_t 415 (by decide +kernel) rfl
theorem q_417 : (.methodLink "WindowCopies$Plan" 108 ⟨"WindowCopies$State", "setting", "(I)I"⟩ : Cond) ∈ gT := gT_t 417 (by decide +kernel) rfl
theorem q_418 : (.methodLink "WindowCopies$Plan" 111 ⟨"WindowCopies$Candidates", "lookedAt", "()I"⟩ : Cond) ∈ gT := gT_t 418 (by decide +kernel) rfl
theorem q_419 : (.methodLink "WindowCopies$Plan" 114 ⟨"java/lang/Math", "max", "(II)I"⟩ : Cond) ∈ gT := gT_t 419 (by decide +kernel) rfl
theorem q_420 : (.methodLink "WindowCopies" 157 ⟨"WindowCopies$Plan", "layOut", "(I)V"⟩ : Cond) ∈ gT := gT_t 420 (by decide +kernel) rfl
theorem q_421 : (.instanceMethod ⟨"WindowCopies$Plan", "layOut", "(I)V"⟩ : Cond) ∈ gT := gT_t 421 (by decide +kernel) rfl
theorem q_422 : (.selects "WindowCopies$Plan" ⟨"WindowCopies$Plan", "layOut", "(I)V"⟩ ⟨"WindowCopies$Plan", "layOut", "(I)V"⟩ : Cond) ∈ gT := gT_t 422 (by decide +kernel) rfl
theorem q_424 : (.methodLink "WindowCopies$Plan" 119 ⟨"WindowCopies$Plan", "countCopy", "(I)V"⟩ : Cond) ∈ gT := gT_t 424 (by decide +kernel) rfl
theorem q_426 : (.instanceMethod ⟨"WindowCopies$Plan", "countCopy", "(I)V"⟩ : Cond) ∈ gT := gT_t 426 (by decide +kernel) rfl
theorem q_428 : (.methodLink "WindowCopies" 160 ⟨"WindowCopies$Plan", "parts", "()I"⟩ : Cond) ∈ gT := gT_t 428 (by decide +kernel) rfl
theorem q_429 : (.instanceMethod ⟨"WindowCopies$Plan", "parts", "()I"⟩ : Cond) ∈ gT := gT_t 429 (by decide +kernel) rfl
theorem q_430 : (.selects "WindowCopies$Plan" ⟨"WindowCopies$Plan", "parts", "()I"⟩ ⟨"WindowCopies$Plan", "parts", "()I"⟩ : Cond) ∈ gT := gT_t 430 (by decide +kernel) rfl
theorem q_432 : (.methodLink "WindowCopies" 163 ⟨"WindowCopies$Plan", "beginOf", "(I)I"⟩ : Cond) ∈ gT := gT_t 432 (by decide +kernel) rfl
theorem q_433 : (.instanceMethod ⟨"WindowCopies$Plan", "beginOf", "(I)I"⟩ : Cond) ∈ gT := gT_t 433 (by decide +kernel) rfl
theorem q_434 : (.selects "WindowCopies$Plan" ⟨"WindowCopies$Plan", "beginOf", "(I)I"⟩ ⟨"WindowCopies$Plan", "beginOf", "(I)I"⟩ : Cond) ∈ gT := gT_t 434 (by decide +kernel) rfl
theorem q_436 : (.methodLink "WindowCopies" 166 ⟨"WindowCopies$Plan", "lengthAt", "(II)I"⟩ : Cond) ∈ gT := gT_t 436 (by decide +kernel) rfl
theorem q_437 : (.methodLink "WindowCopies" 169 ⟨"WindowCopies$Plan", "distanceAt", "(II)I"⟩ : Cond) ∈ gT := gT_t 437 (by decide +kernel) rfl
theorem q_438 : (.methodLink "WindowCopiesLaw" 52 ⟨"WindowCopies", "total", "(II)I"⟩ : Cond) ∈ gT := gT_t 438 (by decide +kernel) rfl
theorem q_439 : (.instanceMethod ⟨"WindowCopies", "total", "(II)I"⟩ : Cond) ∈ gT := gT_t 439 (by decide +kernel) rfl
theorem q_440 : (.selects "WindowCopies" ⟨"WindowCopies", "total", "(II)I"⟩ ⟨"WindowCopies", "total", "(II)I"⟩ : Cond) ∈ gT := gT_t 440 (by decide +kernel) rfl
theorem q_442 : (.methodLink "WindowCopies" 172 ⟨"WindowCopies$Plan", "copies", "()I"⟩ : Cond) ∈ gT := gT_t 442 (by decide +kernel) rfl
theorem q_443 : (.instanceMethod ⟨"WindowCopies$Plan", "copies", "()I"⟩ : Cond) ∈ gT := gT_t 443 (by decide +kernel) rfl
theorem q_444 : (.selects "WindowCopies$Plan" ⟨"WindowCopies$Plan", "copies", "()I"⟩ ⟨"WindowCopies$Plan", "copies", "()I"⟩ : Cond) ∈ gT := gT_t 444 (by decide +kernel) rfl
theorem q_446 : (.methodLink "WindowCopies" 175 ⟨"WindowCopies$Plan", "cost", "()I"⟩ : Cond) ∈ gT := gT_t 446 (by decide +kernel) rfl
theorem q_447 : (.instanceMethod ⟨"WindowCopies$Plan", "cost", "()I"⟩ : Cond) ∈ gT := gT_t 447 (by decide +kernel) rfl
theorem q_448 : (.selects "WindowCopies$Plan" ⟨"WindowCopies$Plan", "cost", "()I"⟩ ⟨"WindowCopies$Plan", "cost", "()I"⟩ : Cond) ∈ gT := gT_t 448 (by decide +kernel) rfl
theorem q_450 : (.methodLink "WindowCopies" 178 ⟨"WindowCopies$Plan", "copiedLetters", "()I"⟩ : Cond) ∈ gT := gT_t 450 (by decide +kernel) rfl
theorem q_451 : (.instanceMethod ⟨"WindowCopies$Plan", "copiedLetters", "()I"⟩ : Cond) ∈ gT := gT_t 451 (by decide +kernel) rfl
theorem q_452 : (.selects "WindowCopies$Plan" ⟨"WindowCopies$Plan", "copiedLetters", "()I"⟩ ⟨"WindowCopies$Plan", "copiedLetters", "()I"⟩ : Cond) ∈ gT := gT_t 452 (by decide +kernel) rfl
theorem q_454 : (.methodLink "WindowCopies" 181 ⟨"WindowCopies$Plan", "longestCopy", "()I"⟩ : Cond) ∈ gT := gT_t 454 (by decide +kernel) rfl
theorem q_455 : (.instanceMethod ⟨"WindowCopies$Plan", "longestCopy", "()I"⟩ : Cond) ∈ gT := gT_t 455 (by decide +kernel) rfl
theorem q_456 : (.selects "WindowCopies$Plan" ⟨"WindowCopies$Plan", "longestCopy", "()I"⟩ ⟨"WindowCopies$Plan", "longestCopy", "()I"⟩ : Cond) ∈ gT := gT_t 456 (by decide +kernel) rfl
theorem q_458 : (.methodLink "WindowCopiesLaw" 56 ⟨"WindowCopies", "partAt", "(II)I"⟩ : Cond) ∈ gT := gT_t 458 (by decide +kernel) rfl
theorem q_459 : (.instanceMethod ⟨"WindowCopies", "partAt", "(II)I"⟩ : Cond) ∈ gT := gT_t 459 (by decide +kernel) rfl
theorem q_460 : (.selects "WindowCopies" ⟨"WindowCopies", "partAt", "(II)I"⟩ ⟨"WindowCopies", "partAt", "(II)I"⟩ : Cond) ∈ gT := gT_t 460 (by decide +kernel) rfl
theorem q_462 : (.methodLink "WindowCopies" 184 ⟨"WindowCopies$Plan", "indexAt", "(I)I"⟩ : Cond) ∈ gT := gT_t 462 (by decide +kernel) rfl
theorem q_463 : (.instanceMethod ⟨"WindowCopies$Plan", "indexAt", "(I)I"⟩ : Cond) ∈ gT := gT_t 463 (by decide +kernel) rfl
theorem q_464 : (.selects "WindowCopies$Plan" ⟨"WindowCopies$Plan", "indexAt", "(I)I"⟩ ⟨"WindowCopies$Plan", "indexAt", "(I)I"⟩ : Cond) ∈ gT := gT_t 464 (by decide +kernel) rfl
theorem q_466 : (.methodLink "WindowCopies$Plan" 122 ⟨"WindowCopies$Plan", "beginOf", "(I)I"⟩ : Cond) ∈ gT := gT_t 466 (by decide +kernel) rfl
theorem q_467 : (.methodLink "WindowCopiesLaw" 60 ⟨"WindowCopies", "parting", "(II)I"⟩ : Cond) ∈ gT := gT_t 467 (by decide +kernel) rfl
theorem q_468 : (.instanceMethod ⟨"WindowCopies", "parting", "(II)I"⟩ : Cond) ∈ gT := gT_t 468 (by decide +kernel) rfl
theorem q_469 : (.selects "WindowCopies" ⟨"WindowCopies", "parting", "(II)I"⟩ ⟨"WindowCopies", "parting", "(II)I"⟩ : Cond) ∈ gT := gT_t 469 (by decide +kernel) rfl
theorem q_471 : (.methodLink "WindowCopies" 187 ⟨"WindowCopies$Plan", "firstUnlike", "(II)I"⟩ : Cond) ∈ gT := gT_t 471 (by decide +kernel) rfl
theorem q_472 : (.instanceMethod ⟨"WindowCopies$Plan", "firstUnlike", "(II)I"⟩ : Cond) ∈ gT := gT_t 472 (by decide +kernel) rfl
theorem q_473 : (.selects "WindowCopies$Plan" ⟨"WindowCopies$Plan", "firstUnlike", "(II)I"⟩ ⟨"WindowCopies$Plan", "firstUnlike", "(II)I"⟩ : Cond) ∈ gT := gT_t 473 (by decide +kernel) rfl
theorem q_475 : (.methodLink "WindowCopiesLaw" 64 ⟨"WindowCopies", "repeat", "(I)I"⟩ : Cond) ∈ gT := gT_t 475 (by decide +kernel) rfl
theorem q_476 : (.instanceMethod ⟨"WindowCopies", "repeat", "(I)I"⟩ : Cond) ∈ gT := gT_t 476 (by decide +kernel) rfl
theorem q_477 : (.selects "WindowCopies" ⟨"WindowCopies", "repeat", "(I)I"⟩ ⟨"WindowCopies", "repeat", "(I)I"⟩ : Cond) ∈ gT := gT_t 477 (by decide +kernel) rfl
theorem q_479 : (.methodLink "WindowCopies" 190 ⟨"WindowCopies$Stretch", "findLongest", "(LWindowCopies$State;)V"⟩ : Cond) ∈ gT := gT_t 479 (by decide +kernel) rfl
theorem q_480 : (.instanceMethod ⟨"WindowCopies$Stretch", "findLongest", "(LWindowCopies$State;)V"⟩ : Cond) ∈ gT := gT_t 480 (by decide +kernel) rfl
theorem q_481 : (.selects "WindowCopies$Stretch" ⟨"WindowCopies$Stretch", "findLongest", "(LWindowCopies$State;)V"⟩ ⟨"WindowCopies$Stretch", "findLongest", "(LWindowCopies$State;)V"⟩ : Cond) ∈ gT := gT_t 481 (by decide +kernel) rfl
theorem q_483 : (.methodLink "WindowCopies$Stretch" 19 ⟨"WindowCopies$State", "size", "()I"⟩ : Cond) ∈ gT := gT_t 483 (by decide +kernel) rfl
theorem q_484 : (.methodLink "WindowCopies$Stretch" 25 ⟨"WindowCopies$State", "likeLength", "(II)I"⟩ : Cond) ∈ gT := gT_t 484 (by decide +kernel) rfl
theorem q_485 : (.methodLink "WindowCopies" 193 ⟨"WindowCopies$Stretch", "length", "()I"⟩ : Cond) ∈ gT := gT_t 485 (by decide +kernel) rfl
theorem q_486 : (.instanceMethod ⟨"WindowCopies$Stretch", "length", "()I"⟩ : Cond) ∈ gT := gT_t 486 (by decide +kernel) rfl
theorem q_487 : (.selects "WindowCopies$Stretch" ⟨"WindowCopies$Stretch", "length", "()I"⟩ ⟨"WindowCopies$Stretch", "length", "()I"⟩ : Cond) ∈ gT := gT_t 487 (by decide +kernel) rfl
theorem q_489 : (.methodLink "WindowCopies" 196 ⟨"WindowCopies$Stretch", "former", "()I"⟩ : Cond) ∈ gT := gT_t 489 (by decide +kernel) rfl
theorem q_490 : (.instanceMethod ⟨"WindowCopies$Stretch", "former", "()I"⟩ : Cond) ∈ gT := gT_t 490 (by decide +kernel) rfl
theorem q_491 : (.selects "WindowCopies$Stretch" ⟨"WindowCopies$Stretch", "former", "()I"⟩ ⟨"WindowCopies$Stretch", "former", "()I"⟩ : Cond) ∈ gT := gT_t 491 (by decide +kernel) rfl
theorem q_493 : (.methodLink "WindowCopies" 199 ⟨"WindowCopies$Stretch", "latter", "()I"⟩ : Cond) ∈ gT := gT_t 493 (by decide +kernel) rfl
theorem q_494 : (.instanceMethod ⟨"WindowCopies$Stretch", "latter", "()I"⟩ : Cond) ∈ gT := gT_t 494 (by decide +kernel) rfl
theorem q_495 : (.selects "WindowCopies$Stretch" ⟨"WindowCopies$Stretch", "latter", "()I"⟩ ⟨"WindowCopies$Stretch", "latter", "()I"⟩ : Cond) ∈ gT := gT_t 495 (by decide +kernel) rfl
theorem q_497 : (.methodLink "WindowCopiesLaw" 68 ⟨"WindowCopies", "count", "(I)I"⟩ : Cond) ∈ gT := gT_t 497 (by decide +kernel) rfl
theorem q_498 : (.instanceMethod ⟨"WindowCopies", "count", "(I)I"⟩ : Cond) ∈ gT := gT_t 498 (by decide +kernel) rfl
theorem q_499 : (.selects "WindowCopies" ⟨"WindowCopies", "count", "(I)I"⟩ ⟨"WindowCopies", "count", "(I)I"⟩ : Cond) ∈ gT := gT_t 499 (by decide +kernel) rfl
theorem q_501 : (.methodLink "WindowCopies" 202 ⟨"WindowCopies$State", "unlikeLetters", "()I"⟩ : Cond) ∈ gT := gT_t 501 (by decide +kernel) rfl
theorem q_502 : (.instanceMethod ⟨"WindowCopies$State", "unlikeLetters", "()I"⟩ : Cond) ∈ gT := gT_t 502 (by decide +kernel) rfl
theorem q_503 : (.selects "WindowCopies$State" ⟨"WindowCopies$State", "unlikeLetters", "()I"⟩ ⟨"WindowCopies$State", "unlikeLetters", "()I"⟩ : Cond) ∈ gT := gT_t 503 (by decide +kernel) rfl
theorem q_505 : (.methodLink "WindowCopies$State" 50 ⟨"WindowCopies$State", "holds", "(I)Z"⟩ : Cond) ∈ gT := gT_t 505 (by decide +kernel) rfl
theorem q_507 : (.instanceMethod ⟨"WindowCopies$State", "holds", "(I)Z"⟩ : Cond) ∈ gT := gT_t 507 (by decide +kernel) rfl
theorem q_509 : (.methodLink "WindowCopies" 205 ⟨"WindowCopies", "cheapestWay", "()I"⟩ : Cond) ∈ gT := gT_t 509 (by decide +kernel) rfl
theorem q_511 : (.instanceMethod ⟨"WindowCopies", "cheapestWay", "()I"⟩ : Cond) ∈ gT := gT_t 511 (by decide +kernel) rfl
theorem q_513 : (.methodLink "WindowCopies" 208 ⟨"WindowCopies$History", "size", "()I"⟩ : Cond) ∈ gT := gT_t 513 (by decide +kernel) rfl
theorem q_514 : (.instanceMethod ⟨"WindowCopies$History", "size", "()I"⟩ : Cond) ∈ gT := gT_t 514 (by decide +kernel) rfl
theorem q_515 : (.selects "WindowCopies$History" ⟨"WindowCopies$History", "size", "()I"⟩ ⟨"WindowCopies$History", "size", "()I"⟩ : Cond) ∈ gT := gT_t 515 (by decide +kernel) rfl
theorem q_517 : (.methodLink "WindowCopies" 209 ⟨"WindowCopies$Text", "size", "()I"⟩ : Cond) ∈ gT := gT_t 517 (by decide +kernel) rfl
theorem q_518 : (.instanceMethod ⟨"WindowCopies$Text", "size", "()I"⟩ : Cond) ∈ gT := gT_t 518 (by decide +kernel) rfl
theorem q_519 : (.selects "WindowCopies$Text" ⟨"WindowCopies$Text", "size", "()I"⟩ ⟨"WindowCopies$Text", "size", "()I"⟩ : Cond) ∈ gT := gT_t 519 (by decide +kernel) rfl
theorem q_521 : (.methodLink "WindowCopies" 210 ⟨"WindowCopies", "settingCount", "(I)I"⟩ : Cond) ∈ gT := gT_t 521 (by decide +kernel) rfl
theorem q_523 : (.instanceMethod ⟨"WindowCopies", "settingCount", "(I)I"⟩ : Cond) ∈ gT := gT_t 523 (by decide +kernel) rfl
theorem q_525 : (.methodLink "WindowCopiesLaw" 72 ⟨"WindowCopies", "keep", "()I"⟩ : Cond) ∈ gT := gT_t 525 (by decide +kernel) rfl
theorem q_526 : (.instanceMethod ⟨"WindowCopies", "keep", "()I"⟩ : Cond) ∈ gT := gT_t 526 (by decide +kernel) rfl
theorem q_527 : (.selects "WindowCopies" ⟨"WindowCopies", "keep", "()I"⟩ ⟨"WindowCopies", "keep", "()I"⟩ : Cond) ∈ gT := gT_t 527 (by decide +kernel) rfl
theorem q_529 : (.methodLink "WindowCopies" 213 ⟨"WindowCopies$State", "copyFrom", "(LWindowCopies$State;)V"⟩ : Cond) ∈ gT := gT_t 529 (by decide +kernel) rfl
theorem q_530 : (.methodLink "WindowCopiesLaw" 77 ⟨"WindowCopies", "restore", "()I"⟩ : Cond) ∈ gT := gT_t 530 (by decide +kernel) rfl
theorem q_531 : (.instanceMethod ⟨"WindowCopies", "restore", "()I"⟩ : Cond) ∈ gT := gT_t 531 (by decide +kernel) rfl
theorem q_532 : (.selects "WindowCopies" ⟨"WindowCopies", "restore", "()I"⟩ ⟨"WindowCopies", "restore", "()I"⟩ : Cond) ∈ gT := gT_t 532 (by decide +kernel) rfl
theorem q_534 : (.methodLink "WindowCopiesLaw" 81 ⟨"WindowCopies", "undo", "()I"⟩ : Cond) ∈ gT := gT_t 534 (by decide +kernel) rfl
theorem q_535 : (.instanceMethod ⟨"WindowCopies", "undo", "()I"⟩ : Cond) ∈ gT := gT_t 535 (by decide +kernel) rfl
theorem q_536 : (.selects "WindowCopies" ⟨"WindowCopies", "undo", "()I"⟩ ⟨"WindowCopies", "undo", "()I"⟩ : Cond) ∈ gT := gT_t 536 (by decide +kernel) rfl
theorem q_538 : (.methodLink "WindowCopies" 216 ⟨"WindowCopies$History", "takeBack", "(LWindowCopies$State;)V"⟩ : Cond) ∈ gT := gT_t 538 (by decide +kernel) rfl
theorem q_539 : (.instanceMethod ⟨"WindowCopies$History", "takeBack", "(LWindowCopies$State;)V"⟩ : Cond) ∈ gT := gT_t 539 (by decide +kernel) rfl
theorem q_540 : (.selects "WindowCopies$History" ⟨"WindowCopies$History", "takeBack", "(LWindowCopies$State;)V"⟩ ⟨"WindowCopies$History", "takeBack", "(LWindowCopies$State;)V"⟩ : Cond) ∈ gT := gT_t 540 (by decide +kernel) rfl
theorem q_542 : (.methodLink "WindowCopiesLaw" 85 ⟨"WindowCopies", "type", "(I)I"⟩ : Cond) ∈ gT := gT_t 542 (by decide +kernel) rfl
theorem q_543 : (.instanceMethod ⟨"WindowCopies", "type", "(I)I"⟩ : Cond) ∈ gT := gT_t 543 (by decide +kernel) rfl
theorem q_544 : (.selects "WindowCopies" ⟨"WindowCopies", "type", "(I)I"⟩ ⟨"WindowCopies", "type", "(I)I"⟩ : Cond) ∈ gT := gT_t 544 (by decide +kernel) rfl
theorem q_546 : (.methodLink "WindowCopies" 219 ⟨"WindowCopies$Text", "append", "(I)V"⟩ : Cond) ∈ gT := gT_t 546 (by decide +kernel) rfl
theorem q_547 : (.instanceMethod ⟨"WindowCopies$Text", "append", "(I)V"⟩ : Cond) ∈ gT := gT_t 547 (by decide +kernel) rfl
theorem q_548 : (.selects "WindowCopies$Text" ⟨"WindowCopies$Text", "append", "(I)V"⟩ ⟨"WindowCopies$Text", "append", "(I)V"⟩ : Cond) ∈ gT := gT_t 548 (by decide +kernel) rfl
theorem q_551 : (.methodLink "WindowCopiesLaw" 89 ⟨"WindowCopies", "clearText", "()I"⟩ : Cond) ∈ gT := gT_t 551 (by decide +kernel) rfl
theorem q_552 : (.instanceMethod ⟨"WindowCopies", "clearText", "()I"⟩ : Cond) ∈ gT := gT_t 552 (by decide +kernel) rfl
theorem q_553 : (.selects "WindowCopies" ⟨"WindowCopies", "clearText", "()I"⟩ ⟨"WindowCopies", "clearText", "()I"⟩ : Cond) ∈ gT := gT_t 553 (by decide +kernel) rfl
theorem q_555 : (.methodLink "WindowCopies" 220 ⟨"WindowCopies$Text", "empty", "()V"⟩ : Cond) ∈ gT := gT_t 555 (by decide +kernel) rfl
theorem q_556 : (.instanceMethod ⟨"WindowCopies$Text", "empty", "()V"⟩ : Cond) ∈ gT := gT_t 556 (by decide +kernel) rfl
theorem q_557 : (.selects "WindowCopies$Text" ⟨"WindowCopies$Text", "empty", "()V"⟩ ⟨"WindowCopies$Text", "empty", "()V"⟩ : Cond) ∈ gT := gT_t 557 (by decide +kernel) rfl
theorem q_559 : (.methodLink "WindowCopiesLaw" 93 ⟨"WindowCopies", "write", "(I)I"⟩ : Cond) ∈ gT := gT_t 559 (by decide +kernel) rfl
theorem q_560 : (.instanceMethod ⟨"WindowCopies", "write", "(I)I"⟩ : Cond) ∈ gT := gT_t 560 (by decide +kernel) rfl
theorem q_561 : (.selects "WindowCopies" ⟨"WindowCopies", "write", "(I)I"⟩ ⟨"WindowCopies", "write", "(I)I"⟩ : Cond) ∈ gT := gT_t 561 (by decide +kernel) rfl
theorem q_563 : (.methodLink "WindowCopies" 223 ⟨"WindowCopies", "charactersOf", "(I)I"⟩ : Cond) ∈ gT := gT_t 563 (by decide +kernel) rfl
theorem q_565 : (.instanceMethod ⟨"WindowCopies", "charactersOf", "(I)I"⟩ : Cond) ∈ gT := gT_t 565 (by decide +kernel) rfl
theorem q_567 : (.methodLink "WindowCopies" 229 ⟨"WindowCopies$Text", "charactersOfCopy", "(II)I"⟩ : Cond) ∈ gT := gT_t 567 (by decide +kernel) rfl
theorem q_568 : (.static ⟨"WindowCopies$Text", "charactersOfCopy", "(II)I"⟩ : Cond) ∈ gT := gT_t 568 (by decide +kernel) rfl
theorem q_570 : (.methodLink "WindowCopies$Text" 34 ⟨"WindowCopies$Text", "digitsOf", "(I)I"⟩ : Cond) ∈ gT := gT_t 570 (by decide +kernel) rfl
theorem q_571 : (.static ⟨"WindowCopies$Text", "digitsOf", "(I)I"⟩ : Cond) ∈ gT := gT_t 571 (by decide +kernel) rfl
theorem q_573 : (.methodLink "WindowCopies" 226 ⟨"WindowCopies$Text", "appendCopy", "(II)V"⟩ : Cond) ∈ gT := gT_t 573 (by decide +kernel) rfl
theorem q_574 : (.instanceMethod ⟨"WindowCopies$Text", "appendCopy", "(II)V"⟩ : Cond) ∈ gT := gT_t 574 (by decide +kernel) rfl
theorem q_575 : (.selects "WindowCopies$Text" ⟨"WindowCopies$Text", "appendCopy", "(II)V"⟩ ⟨"WindowCopies$Text", "appendCopy", "(II)V"⟩ : Cond) ∈ gT := gT_t 575 (by decide +kernel) rfl
theorem q_577 : (.methodLink "WindowCopies$Text" 27 ⟨"WindowCopies$Text", "append", "(I)V"⟩ : Cond) ∈ gT := gT_t 577 (by decide +kernel) rfl
theorem q_578 : (.methodLink "WindowCopies$Text" 31 ⟨"WindowCopies$Text", "appendNumber", "(I)V"⟩ : Cond) ∈ gT := gT_t 578 (by decide +kernel) rfl
theorem q_580 : (.instanceMethod ⟨"WindowCopies$Text", "appendNumber", "(I)V"⟩ : Cond) ∈ gT := gT_t 580 (by decide +kernel) rfl
theorem q_582 : (.methodLink "WindowCopiesLaw" 97 ⟨"WindowCopies", "fault", "(I)I"⟩ : Cond) ∈ gT := gT_t 582 (by decide +kernel) rfl
theorem q_583 : (.instanceMethod ⟨"WindowCopies", "fault", "(I)I"⟩ : Cond) ∈ gT := gT_t 583 (by decide +kernel) rfl
theorem q_584 : (.selects "WindowCopies" ⟨"WindowCopies", "fault", "(I)I"⟩ ⟨"WindowCopies", "fault", "(I)I"⟩ : Cond) ∈ gT := gT_t 584 (by decide +kernel) rfl
theorem q_586 : (.methodLink "WindowCopies" 232 ⟨"WindowCopies$TextReader", "readThrough", "()V"⟩ : Cond) ∈ gT := gT_t 586 (by decide +kernel) rfl
theorem q_587 : (.instanceMethod ⟨"WindowCopies$TextReader", "readThrough", "()V"⟩ : Cond) ∈ gT := gT_t 587 (by decide +kernel) rfl
theorem q_588 : (.selects "WindowCopies$TextReader" ⟨"WindowCopies$TextReader", "readThrough", "()V"⟩ ⟨"WindowCopies$TextReader", "readThrough", "()V"⟩ : Cond) ∈ gT := gT_t 588 (by decide +kernel) rfl
theorem q_590 : (.methodLink "WindowCopies$TextReader" 35 ⟨"WindowCopies$State", "size", "()I"⟩ : Cond) ∈ gT := gT_t 590 (by decide +kernel) rfl
theorem q_591 : (.methodLink "WindowCopies$TextReader" 39 ⟨"WindowCopies$State", "shorten", "(I)V"⟩ : Cond) ∈ gT := gT_t 591 (by decide +kernel) rfl
theorem q_592 : (.methodLink "WindowCopies$TextReader" 43 ⟨"WindowCopies$Text", "size", "()I"⟩ : Cond) ∈ gT := gT_t 592 (by decide +kernel) rfl
theorem q_593 : (.methodLink "WindowCopies$TextReader" 46 ⟨"WindowCopies$TextReader", "hasFault", "()Z"⟩ : Cond) ∈ gT := gT_t 593 (by decide +kernel) rfl
theorem q_594 : (.instanceMethod ⟨"WindowCopies$TextReader", "hasFault", "()Z"⟩ : Cond) ∈ gT := gT_t 594 (by decide +kernel) rfl
theorem q_595 : (.selects "WindowCopies$TextReader" ⟨"WindowCopies$TextReader", "hasFault", "()Z"⟩ ⟨"WindowCopies$TextReader", "hasFault", "()Z"⟩ : Cond) ∈ gT := gT_t 595 (by decide +kernel) rfl
theorem q_597 : (.methodLink "WindowCopies$TextReader" 50 ⟨"WindowCopies$Text", "characterAt", "(I)I"⟩ : Cond) ∈ gT := gT_t 597 (by decide +kernel) rfl
theorem q_598 : (.instanceMethod ⟨"WindowCopies$Text", "characterAt", "(I)I"⟩ : Cond) ∈ gT := gT_t 598 (by decide +kernel) rfl
theorem q_599 : (.selects "WindowCopies$Text" ⟨"WindowCopies$Text", "characterAt", "(I)I"⟩ ⟨"WindowCopies$Text", "characterAt", "(I)I"⟩ : Cond) ∈ gT := gT_t 599 (by decide +kernel) rfl
theorem q_602 : (.methodLink "WindowCopies$TextReader" 54 ⟨"WindowCopies$TextReader", "takeCopy", "()V"⟩ : Cond) ∈ gT := gT_t 602 (by decide +kernel) rfl
theorem q_604 : (.instanceMethod ⟨"WindowCopies$TextReader", "takeCopy", "()V"⟩ : Cond) ∈ gT := gT_t 604 (by decide +kernel) rfl
theorem q_606 : (.methodLink "WindowCopies$TextReader" 71 ⟨"WindowCopies$TextReader", "takeNumber", "()I"⟩ : Cond) ∈ gT := gT_t 606 (by decide +kernel) rfl
theorem q_608 : (.instanceMethod ⟨"WindowCopies$TextReader", "takeNumber", "()I"⟩ : Cond) ∈ gT := gT_t 608 (by decide +kernel) rfl
theorem q_610 : (.methodLink "WindowCopies$TextReader" 96 ⟨"WindowCopies$TextReader", "digitAt", "(I)I"⟩ : Cond) ∈ gT := gT_t 610 (by decide +kernel) rfl
theorem q_612 : (.instanceMethod ⟨"WindowCopies$TextReader", "digitAt", "(I)I"⟩ : Cond) ∈ gT := gT_t 612 (by decide +kernel) rfl
theorem q_615 : (.methodLink "WindowCopies$TextReader" 64 ⟨"WindowCopies$TextReader", "blame", "(II)V"⟩ : Cond) ∈ gT := gT_t 615 (by decide +kernel) rfl
theorem q_617 : (.instanceMethod ⟨"WindowCopies$TextReader", "blame", "(II)V"⟩ : Cond) ∈ gT := gT_t 617 (by decide +kernel) rfl
theorem q_619 : (.methodLink "WindowCopies$TextReader" 74 ⟨"WindowCopies$TextReader", "takeSign", "(I)V"⟩ : Cond) ∈ gT := gT_t 619 (by decide +kernel) rfl
theorem q_621 : (.instanceMethod ⟨"WindowCopies$TextReader", "takeSign", "(I)V"⟩ : Cond) ∈ gT := gT_t 621 (by decide +kernel) rfl
theorem q_623 : (.methodLink "WindowCopies$TextReader" 77 ⟨"WindowCopies$TextReader", "reasonAgainst", "(II)I"⟩ : Cond) ∈ gT := gT_t 623 (by decide +kernel) rfl
theorem q_625 : (.instanceMethod ⟨"WindowCopies$TextReader", "reasonAgainst", "(II)I"⟩ : Cond) ∈ gT := gT_t 625 (by decide +kernel) rfl
theorem q_627 : (.methodLink "WindowCopies$TextReader" 84 ⟨"WindowCopies$State", "setting", "(I)I"⟩ : Cond) ∈ gT := gT_t 627 (by decide +kernel) rfl
theorem q_628 : (.methodLink "WindowCopies$TextReader" 87 ⟨"java/lang/Math", "min", "(II)I"⟩ : Cond) ∈ gT := gT_t 628 (by decide +kernel) rfl
theorem q_629 : (.methodLink "WindowCopies$TextReader" 81 ⟨"WindowCopies$State", "appendCopy", "(II)V"⟩ : Cond) ∈ gT := gT_t 629 (by decide +kernel) rfl
theorem q_630 : (.instanceMethod ⟨"WindowCopies$State", "appendCopy", "(II)V"⟩ : Cond) ∈ gT := gT_t 630 (by decide +kernel) rfl
theorem q_631 : (.selects "WindowCopies$State" ⟨"WindowCopies$State", "appendCopy", "(II)V"⟩ ⟨"WindowCopies$State", "appendCopy", "(II)V"⟩ : Cond) ∈ gT := gT_t 631 (by decide +kernel) rfl
theorem q_633 : (.methodLink "WindowCopies$State" 37 ⟨"WindowCopies$State", "append", "(I)V"⟩ : Cond) ∈ gT := gT_t 633 (by decide +kernel) rfl
theorem q_634 : (.methodLink "WindowCopies$TextReader" 57 ⟨"WindowCopies$TextReader", "takeLetter", "(I)V"⟩ : Cond) ∈ gT := gT_t 634 (by decide +kernel) rfl
theorem q_636 : (.instanceMethod ⟨"WindowCopies$TextReader", "takeLetter", "(I)V"⟩ : Cond) ∈ gT := gT_t 636 (by decide +kernel) rfl
theorem q_639 : (.methodLink "WindowCopies$TextReader" 68 ⟨"WindowCopies$State", "append", "(I)V"⟩ : Cond) ∈ gT := gT_t 639 (by decide +kernel) rfl
theorem q_640 : (.methodLink "WindowCopies" 235 ⟨"WindowCopies$TextReader", "hasFault", "()Z"⟩ : Cond) ∈ gT := gT_t 640 (by decide +kernel) rfl
theorem q_641 : (.methodLink "WindowCopies" 239 ⟨"WindowCopies$TextReader", "faultPlace", "()I"⟩ : Cond) ∈ gT := gT_t 641 (by decide +kernel) rfl
theorem q_642 : (.instanceMethod ⟨"WindowCopies$TextReader", "faultPlace", "()I"⟩ : Cond) ∈ gT := gT_t 642 (by decide +kernel) rfl
theorem q_643 : (.selects "WindowCopies$TextReader" ⟨"WindowCopies$TextReader", "faultPlace", "()I"⟩ ⟨"WindowCopies$TextReader", "faultPlace", "()I"⟩ : Cond) ∈ gT := gT_t 643 (by decide +kernel) rfl
theorem q_645 : (.methodLink "WindowCopies" 242 ⟨"WindowCopies$TextReader", "faultReason", "()I"⟩ : Cond) ∈ gT := gT_t 645 (by decide +kernel) rfl
theorem q_646 : (.instanceMethod ⟨"WindowCopies$TextReader", "faultReason", "()I"⟩ : Cond) ∈ gT := gT_t 646 (by decide +kernel) rfl
theorem q_647 : (.selects "WindowCopies$TextReader" ⟨"WindowCopies$TextReader", "faultReason", "()I"⟩ ⟨"WindowCopies$TextReader", "faultReason", "()I"⟩ : Cond) ∈ gT := gT_t 647 (by decide +kernel) rfl
theorem q_649 : (.methodLink "WindowCopiesLaw" 101 ⟨"WindowCopies", "read", "()I"⟩ : Cond) ∈ gT := gT_t 649 (by decide +kernel) rfl
theorem q_650 : (.instanceMethod ⟨"WindowCopies", "read", "()I"⟩ : Cond) ∈ gT := gT_t 650 (by decide +kernel) rfl
theorem q_651 : (.selects "WindowCopies" ⟨"WindowCopies", "read", "()I"⟩ ⟨"WindowCopies", "read", "()I"⟩ : Cond) ∈ gT := gT_t 651 (by decide +kernel) rfl
theorem q_653 : (.methodLink "WindowCopies" 245 ⟨"WindowCopies$TextReader", "told", "()LWindowCopies$State;"⟩ : Cond) ∈ gT := gT_t 653 (by decide +kernel) rfl
theorem q_654 : (.instanceMethod ⟨"WindowCopies$TextReader", "told", "()LWindowCopies$State;"⟩ : Cond) ∈ gT := gT_t 654 (by decide +kernel) rfl
theorem q_655 : (.selects "WindowCopies$TextReader" ⟨"WindowCopies$TextReader", "told", "()LWindowCopies$State;"⟩ ⟨"WindowCopies$TextReader", "told", "()LWindowCopies$State;"⟩ : Cond) ∈ gT := gT_t 655 (by decide +kernel) rfl
theorem q_657 : (.methodLink "WindowCopies" 249 ⟨"WindowCopies$State", "copyRowFrom", "(LWindowCopies$State;)V"⟩ : Cond) ∈ gT := gT_t 657 (by decide +kernel) rfl
theorem q_658 : (.classLink "WindowCopiesLaw" 10 "WindowCopiesModel" : Cond) ∈ gT := gT_t 658 (by decide +kernel) rfl
theorem q_659 : (.instantiable "WindowCopiesModel" 21 : Cond) ∈ gT := gT_t 659 (by decide +kernel) rfl
theorem q_660 : (.methodLink "WindowCopiesLaw" 12 ⟨"WindowCopiesModel", "<init>", "()V"⟩ : Cond) ∈ gT := gT_t 660 (by decide +kernel) rfl
theorem q_661 : (.instanceMethod ⟨"WindowCopiesModel", "<init>", "()V"⟩ : Cond) ∈ gT := gT_t 661 (by decide +kernel) rfl
theorem q_663 : (.methodLink "WindowCopiesModel" 1 ⟨"java/lang/Object", "<init>", "()V"⟩ : Cond) ∈ gT := gT_t 663 (by decide +kernel) rfl
theorem q_664 : (.fieldLink "WindowCopiesModel" 7 "WindowCopiesModel" "s" "[I" : Cond) ∈ gT := gT_t 664 (by decide +kernel) rfl
theorem q_665 : (.fieldLink "WindowCopiesModel" 13 "WindowCopiesModel" "past" "[I" : Cond) ∈ gT := gT_t 665 (by decide +kernel) rfl
theorem q_666 : (.fieldLink "WindowCopiesModel" 16 "WindowCopiesModel" "kept" "[I" : Cond) ∈ gT := gT_t 666 (by decide +kernel) rfl
theorem q_667 : (.fieldLink "WindowCopiesModel" 126 "WindowCopiesModel" "isKept" "Z" : Cond) ∈ gT := gT_t 667 (by decide +kernel) rfl
theorem q_668 : (.fieldLink "WindowCopiesModel" 49 "WindowCopiesModel" "pasts" "I" : Cond) ∈ gT := gT_t 668 (by decide +kernel) rfl
theorem q_669 : (.fieldLink "WindowCopiesModel" 19 "WindowCopiesModel" "text" "[I" : Cond) ∈ gT := gT_t 669 (by decide +kernel) rfl
theorem q_670 : (.fieldLink "WindowCopiesModel" 123 "WindowCopiesModel" "typed" "I" : Cond) ∈ gT := gT_t 670 (by decide +kernel) rfl
theorem q_671 : (.fieldLink "WindowCopiesModel" 22 "WindowCopiesModel" "places" "[I" : Cond) ∈ gT := gT_t 671 (by decide +kernel) rfl
theorem q_672 : (.fieldLink "WindowCopiesModel" 25 "WindowCopiesModel" "lengths" "[I" : Cond) ∈ gT := gT_t 672 (by decide +kernel) rfl
theorem q_673 : (.fieldLink "WindowCopiesModel" 28 "WindowCopiesModel" "distances" "[I" : Cond) ∈ gT := gT_t 673 (by decide +kernel) rfl
theorem q_674 : (.fieldLink "WindowCopiesModel" 98 "WindowCopiesModel" "parts" "I" : Cond) ∈ gT := gT_t 674 (by decide +kernel) rfl
theorem q_675 : (.fieldLink "WindowCopiesModel" 31 "WindowCopiesModel" "costs" "[I" : Cond) ∈ gT := gT_t 675 (by decide +kernel) rfl
theorem q_676 : (.fieldLink "WindowCopiesModel" 34 "WindowCopiesModel" "nextLength" "[I" : Cond) ∈ gT := gT_t 676 (by decide +kernel) rfl
theorem q_677 : (.fieldLink "WindowCopiesModel" 37 "WindowCopiesModel" "nextDistance" "[I" : Cond) ∈ gT := gT_t 677 (by decide +kernel) rfl
theorem q_678 : (.fieldLink "WindowCopiesModel" 40 "WindowCopiesModel" "ownLengths" "[I" : Cond) ∈ gT := gT_t 678 (by decide +kernel) rfl
theorem q_679 : (.fieldLink "WindowCopiesModel" 43 "WindowCopiesModel" "ownDistances" "[I" : Cond) ∈ gT := gT_t 679 (by decide +kernel) rfl
theorem q_680 : (.fieldLink "WindowCopiesModel" 143 "WindowCopiesModel" "spot" "I" : Cond) ∈ gT := gT_t 680 (by decide +kernel) rfl
theorem q_681 : (.fieldLink "WindowCopiesModel" 146 "WindowCopiesModel" "reason" "I" : Cond) ∈ gT := gT_t 681 (by decide +kernel) rfl
theorem q_682 : (.fieldLink "WindowCopiesModel" 152 "WindowCopiesModel" "number" "I" : Cond) ∈ gT := gT_t 682 (by decide +kernel) rfl
theorem q_683 : (.fieldLink "WindowCopiesModel" 155 "WindowCopiesModel" "told" "I" : Cond) ∈ gT := gT_t 683 (by decide +kernel) rfl
theorem q_684 : (.fieldLink "WindowCopiesModel" 46 "WindowCopiesModel" "row" "[I" : Cond) ∈ gT := gT_t 684 (by decide +kernel) rfl
theorem q_685 : (.laysFinal "WindowCopiesModel" "WindowCopiesModel" "s" "[I" : Cond) ∈ gT := gT_t 685 (by decide +kernel) rfl
theorem q_687 : (.laysFinal "WindowCopiesModel" "WindowCopiesModel" "past" "[I" : Cond) ∈ gT := gT_t 687 (by decide +kernel) rfl
theorem q_689 : (.laysFinal "WindowCopiesModel" "WindowCopiesModel" "kept" "[I" : Cond) ∈ gT := gT_t 689 (by decide +kernel) rfl
theorem q_691 : (.lays "WindowCopiesModel" "WindowCopiesModel" "isKept" "Z" : Cond) ∈ gT := gT_t 691 (by decide +kernel) rfl
theorem q_693 : (.lays "WindowCopiesModel" "WindowCopiesModel" "pasts" "I" : Cond) ∈ gT := gT_t 693 (by decide +kernel) rfl
theorem q_695 : (.laysFinal "WindowCopiesModel" "WindowCopiesModel" "text" "[I" : Cond) ∈ gT := gT_t 695 (by decide +kernel) rfl
theorem q_697 : (.lays "WindowCopiesModel" "WindowCopiesModel" "typed" "I" : Cond) ∈ gT := gT_t 697 (by decide +kernel) rfl
theorem q_699 : (.laysFinal "WindowCopiesModel" "WindowCopiesModel" "places" "[I" : Cond) ∈ gT := gT_t 699 (by decide +kernel) rfl
theorem q_701 : (.laysFinal "WindowCopiesModel" "WindowCopiesModel" "lengths" "[I" : Cond) ∈ gT := gT_t 701 (by decide +kernel) rfl
theorem q_703 : (.laysFinal "WindowCopiesModel" "WindowCopiesModel" "distances" "[I" : Cond) ∈ gT := gT_t 703 (by decide +kernel) rfl
theorem q_705 : (.lays "WindowCopiesModel" "WindowCopiesModel" "parts" "I" : Cond) ∈ gT := gT_t 705 (by decide +kernel) rfl
theorem q_707 : (.laysFinal "WindowCopiesModel" "WindowCopiesModel" "costs" "[I" : Cond) ∈ gT := gT_t 707 (by decide +kernel) rfl
theorem q_709 : (.laysFinal "WindowCopiesModel" "WindowCopiesModel" "nextLength" "[I" : Cond) ∈ gT := gT_t 709 (by decide +kernel) rfl
theorem q_711 : (.laysFinal "WindowCopiesModel" "WindowCopiesModel" "nextDistance" "[I" : Cond) ∈ gT := gT_t 711 (by decide +kernel) rfl
theorem q_713 : (.laysFinal "WindowCopiesModel" "WindowCopiesModel" "ownLengths" "[I" : Cond) ∈ gT := gT_t 713 (by decide +kernel) rfl
theorem q_715 : (.laysFinal "WindowCopiesModel" "WindowCopiesModel" "ownDistances" "[I" : Cond) ∈ gT := gT_t 715 (by decide +kernel) rfl
theorem q_717 : (.lays "WindowCopiesModel" "WindowCopiesModel" "spot" "I" : Cond) ∈ gT := gT_t 717 (by decide +kernel) rfl
theorem q_719 : (.lays "WindowCopiesModel" "WindowCopiesModel" "reason" "I" : Cond) ∈ gT := gT_t 719 (by decide +kernel) rfl
theorem q_721 : (.lays "WindowCopiesModel" "WindowCopiesModel" "number" "I" : Cond) ∈ gT := gT_t 721 (by decide +kernel) rfl
theorem q_723 : (.lays "WindowCopiesModel" "WindowCopiesModel" "told" "I" : Cond) ∈ gT := gT_t 723 (by decide +kernel) rfl
theorem q_725 : (.laysFinal "WindowCopiesModel" "WindowCopiesModel" "row" "[I" : Cond) ∈ gT := gT_t 725 (by decide +kernel) rfl
theorem q_728 : (.methodLink "WindowCopiesLaw" 17 ⟨"WindowCopiesModel", "put", "(I)I"⟩ : Cond) ∈ gT := gT_t 728 (by decide +kernel) rfl
theorem q_729 : (.instanceMethod ⟨"WindowCopiesModel", "put", "(I)I"⟩ : Cond) ∈ gT := gT_t 729 (by decide +kernel) rfl
theorem q_730 : (.selects "WindowCopiesModel" ⟨"WindowCopiesModel", "put", "(I)I"⟩ ⟨"WindowCopiesModel", "put", "(I)I"⟩ : Cond) ∈ gT := gT_t 730 (by decide +kernel) rfl
theorem q_732 : (.methodLink "WindowCopiesModel" 53 ⟨"WindowCopiesModel", "in", "(III)Z"⟩ : Cond) ∈ gT := gT_t 732 (by decide +kernel) rfl
theorem q_733 : (.static ⟨"WindowCopiesModel", "in", "(III)Z"⟩ : Cond) ∈ gT := gT_t 733 (by decide +kernel) rfl
theorem q_735 : (.methodLink "WindowCopiesModel" 57 ⟨"WindowCopiesModel", "changes", "()V"⟩ : Cond) ∈ gT := gT_t 735 (by decide +kernel) rfl
theorem q_737 : (.instanceMethod ⟨"WindowCopiesModel", "changes", "()V"⟩ : Cond) ∈ gT := gT_t 737 (by decide +kernel) rfl
theorem q_739 : (.methodLink "WindowCopiesLaw" 21 ⟨"WindowCopiesModel", "drop", "(I)I"⟩ : Cond) ∈ gT := gT_t 739 (by decide +kernel) rfl
theorem q_740 : (.instanceMethod ⟨"WindowCopiesModel", "drop", "(I)I"⟩ : Cond) ∈ gT := gT_t 740 (by decide +kernel) rfl
theorem q_741 : (.selects "WindowCopiesModel" ⟨"WindowCopiesModel", "drop", "(I)I"⟩ ⟨"WindowCopiesModel", "drop", "(I)I"⟩ : Cond) ∈ gT := gT_t 741 (by decide +kernel) rfl
theorem q_743 : (.methodLink "WindowCopiesLaw" 26 ⟨"WindowCopiesModel", "mend", "(II)I"⟩ : Cond) ∈ gT := gT_t 743 (by decide +kernel) rfl
theorem q_744 : (.instanceMethod ⟨"WindowCopiesModel", "mend", "(II)I"⟩ : Cond) ∈ gT := gT_t 744 (by decide +kernel) rfl
theorem q_745 : (.selects "WindowCopiesModel" ⟨"WindowCopiesModel", "mend", "(II)I"⟩ ⟨"WindowCopiesModel", "mend", "(II)I"⟩ : Cond) ∈ gT := gT_t 745 (by decide +kernel) rfl
theorem q_747 : (.methodLink "WindowCopiesModel" 60 ⟨"WindowCopiesModel", "isPlace", "(I)Z"⟩ : Cond) ∈ gT := gT_t 747 (by decide +kernel) rfl
theorem q_749 : (.instanceMethod ⟨"WindowCopiesModel", "isPlace", "(I)Z"⟩ : Cond) ∈ gT := gT_t 749 (by decide +kernel) rfl
theorem q_751 : (.methodLink "WindowCopiesLaw" 30 ⟨"WindowCopiesModel", "set", "(II)I"⟩ : Cond) ∈ gT := gT_t 751 (by decide +kernel) rfl
theorem q_752 : (.instanceMethod ⟨"WindowCopiesModel", "set", "(II)I"⟩ : Cond) ∈ gT := gT_t 752 (by decide +kernel) rfl
theorem q_753 : (.selects "WindowCopiesModel" ⟨"WindowCopiesModel", "set", "(II)I"⟩ ⟨"WindowCopiesModel", "set", "(II)I"⟩ : Cond) ∈ gT := gT_t 753 (by decide +kernel) rfl
theorem q_755 : (.methodLink "WindowCopiesModel" 64 ⟨"WindowCopiesModel", "least", "(I)I"⟩ : Cond) ∈ gT := gT_t 755 (by decide +kernel) rfl
theorem q_756 : (.static ⟨"WindowCopiesModel", "least", "(I)I"⟩ : Cond) ∈ gT := gT_t 756 (by decide +kernel) rfl
theorem q_758 : (.methodLink "WindowCopiesModel" 68 ⟨"WindowCopiesModel", "most", "(I)I"⟩ : Cond) ∈ gT := gT_t 758 (by decide +kernel) rfl
theorem q_759 : (.static ⟨"WindowCopiesModel", "most", "(I)I"⟩ : Cond) ∈ gT := gT_t 759 (by decide +kernel) rfl
theorem q_761 : (.methodLink "WindowCopiesLaw" 34 ⟨"WindowCopiesModel", "letter", "(I)I"⟩ : Cond) ∈ gT := gT_t 761 (by decide +kernel) rfl
theorem q_762 : (.instanceMethod ⟨"WindowCopiesModel", "letter", "(I)I"⟩ : Cond) ∈ gT := gT_t 762 (by decide +kernel) rfl
theorem q_763 : (.selects "WindowCopiesModel" ⟨"WindowCopiesModel", "letter", "(I)I"⟩ ⟨"WindowCopiesModel", "letter", "(I)I"⟩ : Cond) ∈ gT := gT_t 763 (by decide +kernel) rfl
theorem q_765 : (.methodLink "WindowCopiesLaw" 39 ⟨"WindowCopiesModel", "candidate", "(III)I"⟩ : Cond) ∈ gT := gT_t 765 (by decide +kernel) rfl
theorem q_766 : (.instanceMethod ⟨"WindowCopiesModel", "candidate", "(III)I"⟩ : Cond) ∈ gT := gT_t 766 (by decide +kernel) rfl
theorem q_767 : (.selects "WindowCopiesModel" ⟨"WindowCopiesModel", "candidate", "(III)I"⟩ ⟨"WindowCopiesModel", "candidate", "(III)I"⟩ : Cond) ∈ gT := gT_t 767 (by decide +kernel) rfl
theorem q_769 : (.methodLink "WindowCopiesModel" 79 ⟨"WindowCopiesModel", "distance", "(II)I"⟩ : Cond) ∈ gT := gT_t 769 (by decide +kernel) rfl
theorem q_771 : (.instanceMethod ⟨"WindowCopiesModel", "distance", "(II)I"⟩ : Cond) ∈ gT := gT_t 771 (by decide +kernel) rfl
theorem q_773 : (.methodLink "WindowCopiesModel" 75 ⟨"WindowCopiesModel", "isCandidate", "(II)Z"⟩ : Cond) ∈ gT := gT_t 773 (by decide +kernel) rfl
theorem q_775 : (.instanceMethod ⟨"WindowCopiesModel", "isCandidate", "(II)Z"⟩ : Cond) ∈ gT := gT_t 775 (by decide +kernel) rfl
theorem q_777 : (.methodLink "WindowCopiesModel" 71 ⟨"WindowCopiesModel", "reach", "(II)I"⟩ : Cond) ∈ gT := gT_t 777 (by decide +kernel) rfl
theorem q_779 : (.instanceMethod ⟨"WindowCopiesModel", "reach", "(II)I"⟩ : Cond) ∈ gT := gT_t 779 (by decide +kernel) rfl
theorem q_781 : (.methodLink "WindowCopiesLaw" 43 ⟨"WindowCopiesModel", "found", "(II)I"⟩ : Cond) ∈ gT := gT_t 781 (by decide +kernel) rfl
theorem q_782 : (.instanceMethod ⟨"WindowCopiesModel", "found", "(II)I"⟩ : Cond) ∈ gT := gT_t 782 (by decide +kernel) rfl
theorem q_783 : (.selects "WindowCopiesModel" ⟨"WindowCopiesModel", "found", "(II)I"⟩ ⟨"WindowCopiesModel", "found", "(II)I"⟩ : Cond) ∈ gT := gT_t 783 (by decide +kernel) rfl
theorem q_785 : (.methodLink "WindowCopiesModel" 85 ⟨"WindowCopiesModel", "candidates", "(I)I"⟩ : Cond) ∈ gT := gT_t 785 (by decide +kernel) rfl
theorem q_787 : (.instanceMethod ⟨"WindowCopiesModel", "candidates", "(I)I"⟩ : Cond) ∈ gT := gT_t 787 (by decide +kernel) rfl
theorem q_789 : (.methodLink "WindowCopiesModel" 82 ⟨"WindowCopiesModel", "best", "(I)I"⟩ : Cond) ∈ gT := gT_t 789 (by decide +kernel) rfl
theorem q_791 : (.instanceMethod ⟨"WindowCopiesModel", "best", "(I)I"⟩ : Cond) ∈ gT := gT_t 791 (by decide +kernel) rfl
theorem q_793 : (.methodLink "WindowCopiesModel" 88 ⟨"WindowCopiesModel", "saves", "(I)I"⟩ : Cond) ∈ gT := gT_t 793 (by decide +kernel) rfl
theorem q_795 : (.instanceMethod ⟨"WindowCopiesModel", "saves", "(I)I"⟩ : Cond) ∈ gT := gT_t 795 (by decide +kernel) rfl
theorem q_797 : (.methodLink "WindowCopiesLaw" 47 ⟨"WindowCopiesModel", "isCopy", "(III)I"⟩ : Cond) ∈ gT := gT_t 797 (by decide +kernel) rfl
theorem q_798 : (.instanceMethod ⟨"WindowCopiesModel", "isCopy", "(III)I"⟩ : Cond) ∈ gT := gT_t 798 (by decide +kernel) rfl
theorem q_799 : (.selects "WindowCopiesModel" ⟨"WindowCopiesModel", "isCopy", "(III)I"⟩ ⟨"WindowCopiesModel", "isCopy", "(III)I"⟩ : Cond) ∈ gT := gT_t 799 (by decide +kernel) rfl
theorem q_801 : (.methodLink "WindowCopiesLaw" 51 ⟨"WindowCopiesModel", "part", "(III)I"⟩ : Cond) ∈ gT := gT_t 801 (by decide +kernel) rfl
theorem q_802 : (.instanceMethod ⟨"WindowCopiesModel", "part", "(III)I"⟩ : Cond) ∈ gT := gT_t 802 (by decide +kernel) rfl
theorem q_803 : (.selects "WindowCopiesModel" ⟨"WindowCopiesModel", "part", "(III)I"⟩ ⟨"WindowCopiesModel", "part", "(III)I"⟩ : Cond) ∈ gT := gT_t 803 (by decide +kernel) rfl
theorem q_805 : (.methodLink "WindowCopiesModel" 104 ⟨"WindowCopiesModel", "lays", "(I)V"⟩ : Cond) ∈ gT := gT_t 805 (by decide +kernel) rfl
theorem q_807 : (.instanceMethod ⟨"WindowCopiesModel", "lays", "(I)V"⟩ : Cond) ∈ gT := gT_t 807 (by decide +kernel) rfl
theorem q_809 : (.methodLink "WindowCopiesModel" 94 ⟨"WindowCopiesModel", "weighs", "(I)V"⟩ : Cond) ∈ gT := gT_t 809 (by decide +kernel) rfl
theorem q_811 : (.instanceMethod ⟨"WindowCopiesModel", "weighs", "(I)V"⟩ : Cond) ∈ gT := gT_t 811 (by decide +kernel) rfl
theorem q_813 : (.methodLink "WindowCopiesModel" 101 ⟨"WindowCopiesModel", "takes", "(II)Z"⟩ : Cond) ∈ gT := gT_t 813 (by decide +kernel) rfl
theorem q_815 : (.instanceMethod ⟨"WindowCopiesModel", "takes", "(II)Z"⟩ : Cond) ∈ gT := gT_t 815 (by decide +kernel) rfl
theorem q_817 : (.methodLink "WindowCopiesModel" 91 ⟨"WindowCopiesModel", "savesMore", "(II)Z"⟩ : Cond) ∈ gT := gT_t 817 (by decide +kernel) rfl
theorem q_819 : (.instanceMethod ⟨"WindowCopiesModel", "savesMore", "(II)Z"⟩ : Cond) ∈ gT := gT_t 819 (by decide +kernel) rfl
theorem q_821 : (.methodLink "WindowCopiesModel" 107 ⟨"WindowCopiesModel", "cost", "(I)I"⟩ : Cond) ∈ gT := gT_t 821 (by decide +kernel) rfl
theorem q_823 : (.instanceMethod ⟨"WindowCopiesModel", "cost", "(I)I"⟩ : Cond) ∈ gT := gT_t 823 (by decide +kernel) rfl
theorem q_825 : (.methodLink "WindowCopiesLaw" 55 ⟨"WindowCopiesModel", "total", "(II)I"⟩ : Cond) ∈ gT := gT_t 825 (by decide +kernel) rfl
theorem q_826 : (.instanceMethod ⟨"WindowCopiesModel", "total", "(II)I"⟩ : Cond) ∈ gT := gT_t 826 (by decide +kernel) rfl
theorem q_827 : (.selects "WindowCopiesModel" ⟨"WindowCopiesModel", "total", "(II)I"⟩ ⟨"WindowCopiesModel", "total", "(II)I"⟩ : Cond) ∈ gT := gT_t 827 (by decide +kernel) rfl
theorem q_829 : (.methodLink "WindowCopiesModel" 110 ⟨"WindowCopiesModel", "costAll", "(I)I"⟩ : Cond) ∈ gT := gT_t 829 (by decide +kernel) rfl
theorem q_831 : (.instanceMethod ⟨"WindowCopiesModel", "costAll", "(I)I"⟩ : Cond) ∈ gT := gT_t 831 (by decide +kernel) rfl
theorem q_833 : (.methodLink "WindowCopiesLaw" 59 ⟨"WindowCopiesModel", "partAt", "(II)I"⟩ : Cond) ∈ gT := gT_t 833 (by decide +kernel) rfl
theorem q_834 : (.instanceMethod ⟨"WindowCopiesModel", "partAt", "(II)I"⟩ : Cond) ∈ gT := gT_t 834 (by decide +kernel) rfl
theorem q_835 : (.selects "WindowCopiesModel" ⟨"WindowCopiesModel", "partAt", "(II)I"⟩ ⟨"WindowCopiesModel", "partAt", "(II)I"⟩ : Cond) ∈ gT := gT_t 835 (by decide +kernel) rfl
theorem q_837 : (.methodLink "WindowCopiesLaw" 63 ⟨"WindowCopiesModel", "parting", "(II)I"⟩ : Cond) ∈ gT := gT_t 837 (by decide +kernel) rfl
theorem q_838 : (.instanceMethod ⟨"WindowCopiesModel", "parting", "(II)I"⟩ : Cond) ∈ gT := gT_t 838 (by decide +kernel) rfl
theorem q_839 : (.selects "WindowCopiesModel" ⟨"WindowCopiesModel", "parting", "(II)I"⟩ ⟨"WindowCopiesModel", "parting", "(II)I"⟩ : Cond) ∈ gT := gT_t 839 (by decide +kernel) rfl
theorem q_841 : (.methodLink "WindowCopiesLaw" 67 ⟨"WindowCopiesModel", "repeat", "(I)I"⟩ : Cond) ∈ gT := gT_t 841 (by decide +kernel) rfl
theorem q_842 : (.instanceMethod ⟨"WindowCopiesModel", "repeat", "(I)I"⟩ : Cond) ∈ gT := gT_t 842 (by decide +kernel) rfl
theorem q_843 : (.selects "WindowCopiesModel" ⟨"WindowCopiesModel", "repeat", "(I)I"⟩ ⟨"WindowCopiesModel", "repeat", "(I)I"⟩ : Cond) ∈ gT := gT_t 843 (by decide +kernel) rfl
theorem q_845 : (.methodLink "WindowCopiesModel" 113 ⟨"WindowCopiesModel", "stretch", "(II)I"⟩ : Cond) ∈ gT := gT_t 845 (by decide +kernel) rfl
theorem q_847 : (.instanceMethod ⟨"WindowCopiesModel", "stretch", "(II)I"⟩ : Cond) ∈ gT := gT_t 847 (by decide +kernel) rfl
theorem q_849 : (.methodLink "WindowCopiesLaw" 71 ⟨"WindowCopiesModel", "count", "(I)I"⟩ : Cond) ∈ gT := gT_t 849 (by decide +kernel) rfl
theorem q_850 : (.instanceMethod ⟨"WindowCopiesModel", "count", "(I)I"⟩ : Cond) ∈ gT := gT_t 850 (by decide +kernel) rfl
theorem q_851 : (.selects "WindowCopiesModel" ⟨"WindowCopiesModel", "count", "(I)I"⟩ ⟨"WindowCopiesModel", "count", "(I)I"⟩ : Cond) ∈ gT := gT_t 851 (by decide +kernel) rfl
theorem q_853 : (.methodLink "WindowCopiesModel" 116 ⟨"WindowCopiesModel", "unlike", "()I"⟩ : Cond) ∈ gT := gT_t 853 (by decide +kernel) rfl
theorem q_855 : (.instanceMethod ⟨"WindowCopiesModel", "unlike", "()I"⟩ : Cond) ∈ gT := gT_t 855 (by decide +kernel) rfl
theorem q_857 : (.methodLink "WindowCopiesModel" 120 ⟨"WindowCopiesModel", "cheapest", "()I"⟩ : Cond) ∈ gT := gT_t 857 (by decide +kernel) rfl
theorem q_859 : (.instanceMethod ⟨"WindowCopiesModel", "cheapest", "()I"⟩ : Cond) ∈ gT := gT_t 859 (by decide +kernel) rfl
theorem q_861 : (.methodLink "WindowCopiesLaw" 76 ⟨"WindowCopiesModel", "keep", "()I"⟩ : Cond) ∈ gT := gT_t 861 (by decide +kernel) rfl
theorem q_862 : (.instanceMethod ⟨"WindowCopiesModel", "keep", "()I"⟩ : Cond) ∈ gT := gT_t 862 (by decide +kernel) rfl
theorem q_863 : (.selects "WindowCopiesModel" ⟨"WindowCopiesModel", "keep", "()I"⟩ ⟨"WindowCopiesModel", "keep", "()I"⟩ : Cond) ∈ gT := gT_t 863 (by decide +kernel) rfl
theorem q_865 : (.methodLink "WindowCopiesModel" 130 ⟨"WindowCopiesModel", "copies", "([I[I)V"⟩ : Cond) ∈ gT := gT_t 865 (by decide +kernel) rfl
theorem q_866 : (.static ⟨"WindowCopiesModel", "copies", "([I[I)V"⟩ : Cond) ∈ gT := gT_t 866 (by decide +kernel) rfl
theorem q_868 : (.methodLink "WindowCopiesLaw" 80 ⟨"WindowCopiesModel", "restore", "()I"⟩ : Cond) ∈ gT := gT_t 868 (by decide +kernel) rfl
theorem q_869 : (.instanceMethod ⟨"WindowCopiesModel", "restore", "()I"⟩ : Cond) ∈ gT := gT_t 869 (by decide +kernel) rfl
theorem q_870 : (.selects "WindowCopiesModel" ⟨"WindowCopiesModel", "restore", "()I"⟩ ⟨"WindowCopiesModel", "restore", "()I"⟩ : Cond) ∈ gT := gT_t 870 (by decide +kernel) rfl
theorem q_872 : (.methodLink "WindowCopiesLaw" 84 ⟨"WindowCopiesModel", "undo", "()I"⟩ : Cond) ∈ gT := gT_t 872 (by decide +kernel) rfl
theorem q_873 : (.instanceMethod ⟨"WindowCopiesModel", "undo", "()I"⟩ : Cond) ∈ gT := gT_t 873 (by decide +kernel) rfl
theorem q_874 : (.selects "WindowCopiesModel" ⟨"WindowCopiesModel", "undo", "()I"⟩ ⟨"WindowCopiesModel", "undo", "()I"⟩ : Cond) ∈ gT := gT_t 874 (by decide +kernel) rfl
theorem q_876 : (.methodLink "WindowCopiesLaw" 88 ⟨"WindowCopiesModel", "type", "(I)I"⟩ : Cond) ∈ gT := gT_t 876 (by decide +kernel) rfl
theorem q_877 : (.instanceMethod ⟨"WindowCopiesModel", "type", "(I)I"⟩ : Cond) ∈ gT := gT_t 877 (by decide +kernel) rfl
theorem q_878 : (.selects "WindowCopiesModel" ⟨"WindowCopiesModel", "type", "(I)I"⟩ ⟨"WindowCopiesModel", "type", "(I)I"⟩ : Cond) ∈ gT := gT_t 878 (by decide +kernel) rfl
theorem q_880 : (.methodLink "WindowCopiesLaw" 92 ⟨"WindowCopiesModel", "clearText", "()I"⟩ : Cond) ∈ gT := gT_t 880 (by decide +kernel) rfl
theorem q_881 : (.instanceMethod ⟨"WindowCopiesModel", "clearText", "()I"⟩ : Cond) ∈ gT := gT_t 881 (by decide +kernel) rfl
theorem q_882 : (.selects "WindowCopiesModel" ⟨"WindowCopiesModel", "clearText", "()I"⟩ ⟨"WindowCopiesModel", "clearText", "()I"⟩ : Cond) ∈ gT := gT_t 882 (by decide +kernel) rfl
theorem q_884 : (.methodLink "WindowCopiesLaw" 96 ⟨"WindowCopiesModel", "write", "(I)I"⟩ : Cond) ∈ gT := gT_t 884 (by decide +kernel) rfl
theorem q_885 : (.instanceMethod ⟨"WindowCopiesModel", "write", "(I)I"⟩ : Cond) ∈ gT := gT_t 885 (by decide +kernel) rfl
theorem q_886 : (.selects "WindowCopiesModel" ⟨"WindowCopiesModel", "write", "(I)I"⟩ ⟨"WindowCopiesModel", "write", "(I)I"⟩ : Cond) ∈ gT := gT_t 886 (by decide +kernel) rfl
theorem q_888 : (.methodLink "WindowCopiesModel" 134 ⟨"WindowCopiesModel", "digits", "(I)I"⟩ : Cond) ∈ gT := gT_t 888 (by decide +kernel) rfl
theorem q_889 : (.static ⟨"WindowCopiesModel", "digits", "(I)I"⟩ : Cond) ∈ gT := gT_t 889 (by decide +kernel) rfl
theorem q_891 : (.methodLink "WindowCopiesModel" 137 ⟨"WindowCopiesModel", "writesSign", "(I)V"⟩ : Cond) ∈ gT := gT_t 891 (by decide +kernel) rfl
theorem q_893 : (.instanceMethod ⟨"WindowCopiesModel", "writesSign", "(I)V"⟩ : Cond) ∈ gT := gT_t 893 (by decide +kernel) rfl
theorem q_895 : (.methodLink "WindowCopiesModel" 140 ⟨"WindowCopiesModel", "writesNumber", "(I)V"⟩ : Cond) ∈ gT := gT_t 895 (by decide +kernel) rfl
theorem q_897 : (.instanceMethod ⟨"WindowCopiesModel", "writesNumber", "(I)V"⟩ : Cond) ∈ gT := gT_t 897 (by decide +kernel) rfl
theorem q_899 : (.methodLink "WindowCopiesLaw" 100 ⟨"WindowCopiesModel", "fault", "(I)I"⟩ : Cond) ∈ gT := gT_t 899 (by decide +kernel) rfl
theorem q_900 : (.instanceMethod ⟨"WindowCopiesModel", "fault", "(I)I"⟩ : Cond) ∈ gT := gT_t 900 (by decide +kernel) rfl
theorem q_901 : (.selects "WindowCopiesModel" ⟨"WindowCopiesModel", "fault", "(I)I"⟩ ⟨"WindowCopiesModel", "fault", "(I)I"⟩ : Cond) ∈ gT := gT_t 901 (by decide +kernel) rfl
theorem q_903 : (.methodLink "WindowCopiesModel" 177 ⟨"WindowCopiesModel", "isRight", "()Z"⟩ : Cond) ∈ gT := gT_t 903 (by decide +kernel) rfl
theorem q_905 : (.instanceMethod ⟨"WindowCopiesModel", "isRight", "()Z"⟩ : Cond) ∈ gT := gT_t 905 (by decide +kernel) rfl
theorem q_907 : (.methodLink "WindowCopiesModel" 149 ⟨"WindowCopiesModel", "isAt", "(II)Z"⟩ : Cond) ∈ gT := gT_t 907 (by decide +kernel) rfl
theorem q_909 : (.instanceMethod ⟨"WindowCopiesModel", "isAt", "(II)Z"⟩ : Cond) ∈ gT := gT_t 909 (by decide +kernel) rfl
theorem q_911 : (.methodLink "WindowCopiesModel" 171 ⟨"WindowCopiesModel", "readsCopy", "()Z"⟩ : Cond) ∈ gT := gT_t 911 (by decide +kernel) rfl
theorem q_913 : (.instanceMethod ⟨"WindowCopiesModel", "readsCopy", "()Z"⟩ : Cond) ∈ gT := gT_t 913 (by decide +kernel) rfl
theorem q_915 : (.methodLink "WindowCopiesModel" 158 ⟨"WindowCopiesModel", "numbered", "()Z"⟩ : Cond) ∈ gT := gT_t 915 (by decide +kernel) rfl
theorem q_917 : (.instanceMethod ⟨"WindowCopiesModel", "numbered", "()Z"⟩ : Cond) ∈ gT := gT_t 917 (by decide +kernel) rfl
theorem q_919 : (.methodLink "WindowCopiesModel" 162 ⟨"WindowCopiesModel", "fails", "(I)Z"⟩ : Cond) ∈ gT := gT_t 919 (by decide +kernel) rfl
theorem q_921 : (.instanceMethod ⟨"WindowCopiesModel", "fails", "(I)Z"⟩ : Cond) ∈ gT := gT_t 921 (by decide +kernel) rfl
theorem q_923 : (.methodLink "WindowCopiesModel" 165 ⟨"WindowCopiesModel", "sign", "(I)Z"⟩ : Cond) ∈ gT := gT_t 923 (by decide +kernel) rfl
theorem q_925 : (.instanceMethod ⟨"WindowCopiesModel", "sign", "(I)Z"⟩ : Cond) ∈ gT := gT_t 925 (by decide +kernel) rfl
theorem q_927 : (.methodLink "WindowCopiesModel" 168 ⟨"WindowCopiesModel", "wrong", "(II)I"⟩ : Cond) ∈ gT := gT_t 927 (by decide +kernel) rfl
theorem q_929 : (.instanceMethod ⟨"WindowCopiesModel", "wrong", "(II)I"⟩ : Cond) ∈ gT := gT_t 929 (by decide +kernel) rfl
theorem q_931 : (.methodLink "WindowCopiesModel" 174 ⟨"WindowCopiesModel", "readsLetter", "()Z"⟩ : Cond) ∈ gT := gT_t 931 (by decide +kernel) rfl
theorem q_933 : (.instanceMethod ⟨"WindowCopiesModel", "readsLetter", "()Z"⟩ : Cond) ∈ gT := gT_t 933 (by decide +kernel) rfl
theorem q_935 : (.methodLink "WindowCopiesLaw" 104 ⟨"WindowCopiesModel", "read", "()I"⟩ : Cond) ∈ gT := gT_t 935 (by decide +kernel) rfl
theorem q_936 : (.instanceMethod ⟨"WindowCopiesModel", "read", "()I"⟩ : Cond) ∈ gT := gT_t 936 (by decide +kernel) rfl
theorem q_937 : (.selects "WindowCopiesModel" ⟨"WindowCopiesModel", "read", "()I"⟩ ⟨"WindowCopiesModel", "read", "()I"⟩ : Cond) ∈ gT := gT_t 937 (by decide +kernel) rfl
theorem qs_0 : Cond.selects "WindowCopies$History" ⟨"WindowCopies$History", "slotOf", "(I)I"⟩ ⟨"WindowCopies$History", "slotOf", "(I)I"⟩ ∈ gT := gT_p (q := (⟨"WindowCopies$History", "slotOf", "(I)I"⟩, _)) 0 rfl
theorem qs_1 : Cond.selects "WindowCopies$History" ⟨"WindowCopies$History", "stateAt", "(I)LWindowCopies$State;"⟩ ⟨"WindowCopies$History", "stateAt", "(I)LWindowCopies$State;"⟩ ∈ gT := gT_p (q := (⟨"WindowCopies$History", "stateAt", "(I)LWindowCopies$State;"⟩, _)) 1 rfl
theorem qs_2 : Cond.selects "WindowCopies$Candidates" ⟨"WindowCopies$Candidates", "takeIn", "(II)V"⟩ ⟨"WindowCopies$Candidates", "takeIn", "(II)V"⟩ ∈ gT := gT_p (q := (⟨"WindowCopies$Candidates", "takeIn", "(II)V"⟩, _)) 2 rfl
theorem qs_3 : Cond.selects "WindowCopies$Plan" ⟨"WindowCopies$Plan", "planFound", "(I)V"⟩ ⟨"WindowCopies$Plan", "planFound", "(I)V"⟩ ∈ gT := gT_p (q := (⟨"WindowCopies$Plan", "planFound", "(I)V"⟩, _)) 3 rfl
theorem qs_4 : Cond.selects "WindowCopies$Plan" ⟨"WindowCopies$Plan", "planLetter", "(II)V"⟩ ⟨"WindowCopies$Plan", "planLetter", "(II)V"⟩ ∈ gT := gT_p (q := (⟨"WindowCopies$Plan", "planLetter", "(II)V"⟩, _)) 4 rfl
theorem qs_5 : Cond.selects "WindowCopies$Plan" ⟨"WindowCopies$Plan", "planPart", "(IIII)V"⟩ ⟨"WindowCopies$Plan", "planPart", "(IIII)V"⟩ ∈ gT := gT_p (q := (⟨"WindowCopies$Plan", "planPart", "(IIII)V"⟩, _)) 5 rfl
theorem qs_6 : Cond.selects "WindowCopies$Plan" ⟨"WindowCopies$Plan", "planWeighed", "(I)V"⟩ ⟨"WindowCopies$Plan", "planWeighed", "(I)V"⟩ ∈ gT := gT_p (q := (⟨"WindowCopies$Plan", "planWeighed", "(I)V"⟩, _)) 6 rfl
theorem qs_7 : Cond.selects "WindowCopies$Plan" ⟨"WindowCopies$Plan", "planCheapest", "(I)V"⟩ ⟨"WindowCopies$Plan", "planCheapest", "(I)V"⟩ ∈ gT := gT_p (q := (⟨"WindowCopies$Plan", "planCheapest", "(I)V"⟩, _)) 7 rfl
theorem qs_8 : Cond.selects "WindowCopies$Plan" ⟨"WindowCopies$Plan", "countCopy", "(I)V"⟩ ⟨"WindowCopies$Plan", "countCopy", "(I)V"⟩ ∈ gT := gT_p (q := (⟨"WindowCopies$Plan", "countCopy", "(I)V"⟩, _)) 8 rfl
theorem qs_9 : Cond.selects "WindowCopies$State" ⟨"WindowCopies$State", "holds", "(I)Z"⟩ ⟨"WindowCopies$State", "holds", "(I)Z"⟩ ∈ gT := gT_p (q := (⟨"WindowCopies$State", "holds", "(I)Z"⟩, _)) 9 rfl
theorem qs_10 : Cond.selects "WindowCopies" ⟨"WindowCopies", "cheapestWay", "()I"⟩ ⟨"WindowCopies", "cheapestWay", "()I"⟩ ∈ gT := gT_p (q := (⟨"WindowCopies", "cheapestWay", "()I"⟩, _)) 10 rfl
theorem qs_11 : Cond.selects "WindowCopies" ⟨"WindowCopies", "settingCount", "(I)I"⟩ ⟨"WindowCopies", "settingCount", "(I)I"⟩ ∈ gT := gT_p (q := (⟨"WindowCopies", "settingCount", "(I)I"⟩, _)) 11 rfl
theorem qs_12 : Cond.selects "WindowCopies" ⟨"WindowCopies", "charactersOf", "(I)I"⟩ ⟨"WindowCopies", "charactersOf", "(I)I"⟩ ∈ gT := gT_p (q := (⟨"WindowCopies", "charactersOf", "(I)I"⟩, _)) 12 rfl
theorem qs_13 : Cond.selects "WindowCopies$Text" ⟨"WindowCopies$Text", "appendNumber", "(I)V"⟩ ⟨"WindowCopies$Text", "appendNumber", "(I)V"⟩ ∈ gT := gT_p (q := (⟨"WindowCopies$Text", "appendNumber", "(I)V"⟩, _)) 13 rfl
theorem qs_14 : Cond.selects "WindowCopies$TextReader" ⟨"WindowCopies$TextReader", "takeCopy", "()V"⟩ ⟨"WindowCopies$TextReader", "takeCopy", "()V"⟩ ∈ gT := gT_p (q := (⟨"WindowCopies$TextReader", "takeCopy", "()V"⟩, _)) 14 rfl
theorem qs_15 : Cond.selects "WindowCopies$TextReader" ⟨"WindowCopies$TextReader", "takeNumber", "()I"⟩ ⟨"WindowCopies$TextReader", "takeNumber", "()I"⟩ ∈ gT := gT_p (q := (⟨"WindowCopies$TextReader", "takeNumber", "()I"⟩, _)) 15 rfl
theorem qs_16 : Cond.selects "WindowCopies$TextReader" ⟨"WindowCopies$TextReader", "digitAt", "(I)I"⟩ ⟨"WindowCopies$TextReader", "digitAt", "(I)I"⟩ ∈ gT := gT_p (q := (⟨"WindowCopies$TextReader", "digitAt", "(I)I"⟩, _)) 16 rfl
theorem qs_17 : Cond.selects "WindowCopies$TextReader" ⟨"WindowCopies$TextReader", "blame", "(II)V"⟩ ⟨"WindowCopies$TextReader", "blame", "(II)V"⟩ ∈ gT := gT_p (q := (⟨"WindowCopies$TextReader", "blame", "(II)V"⟩, _)) 17 rfl
theorem qs_18 : Cond.selects "WindowCopies$TextReader" ⟨"WindowCopies$TextReader", "takeSign", "(I)V"⟩ ⟨"WindowCopies$TextReader", "takeSign", "(I)V"⟩ ∈ gT := gT_p (q := (⟨"WindowCopies$TextReader", "takeSign", "(I)V"⟩, _)) 18 rfl
theorem qs_19 : Cond.selects "WindowCopies$TextReader" ⟨"WindowCopies$TextReader", "reasonAgainst", "(II)I"⟩ ⟨"WindowCopies$TextReader", "reasonAgainst", "(II)I"⟩ ∈ gT := gT_p (q := (⟨"WindowCopies$TextReader", "reasonAgainst", "(II)I"⟩, _)) 19 rfl
theorem qs_20 : Cond.selects "WindowCopies$TextReader" ⟨"WindowCopies$TextReader", "takeLetter", "(I)V"⟩ ⟨"WindowCopies$TextReader", "takeLetter", "(I)V"⟩ ∈ gT := gT_p (q := (⟨"WindowCopies$TextReader", "takeLetter", "(I)V"⟩, _)) 20 rfl
theorem qs_21 : Cond.selects "WindowCopiesModel" ⟨"WindowCopiesModel", "changes", "()V"⟩ ⟨"WindowCopiesModel", "changes", "()V"⟩ ∈ gT := gT_p (q := (⟨"WindowCopiesModel", "changes", "()V"⟩, _)) 21 rfl
theorem qs_22 : Cond.selects "WindowCopiesModel" ⟨"WindowCopiesModel", "isPlace", "(I)Z"⟩ ⟨"WindowCopiesModel", "isPlace", "(I)Z"⟩ ∈ gT := gT_p (q := (⟨"WindowCopiesModel", "isPlace", "(I)Z"⟩, _)) 22 rfl
theorem qs_23 : Cond.selects "WindowCopiesModel" ⟨"WindowCopiesModel", "distance", "(II)I"⟩ ⟨"WindowCopiesModel", "distance", "(II)I"⟩ ∈ gT := gT_p (q := (⟨"WindowCopiesModel", "distance", "(II)I"⟩, _)) 23 rfl
theorem qs_24 : Cond.selects "WindowCopiesModel" ⟨"WindowCopiesModel", "isCandidate", "(II)Z"⟩ ⟨"WindowCopiesModel", "isCandidate", "(II)Z"⟩ ∈ gT := gT_p (q := (⟨"WindowCopiesModel", "isCandidate", "(II)Z"⟩, _)) 24 rfl
theorem qs_25 : Cond.selects "WindowCopiesModel" ⟨"WindowCopiesModel", "reach", "(II)I"⟩ ⟨"WindowCopiesModel", "reach", "(II)I"⟩ ∈ gT := gT_p (q := (⟨"WindowCopiesModel", "reach", "(II)I"⟩, _)) 25 rfl
theorem qs_26 : Cond.selects "WindowCopiesModel" ⟨"WindowCopiesModel", "candidates", "(I)I"⟩ ⟨"WindowCopiesModel", "candidates", "(I)I"⟩ ∈ gT := gT_p (q := (⟨"WindowCopiesModel", "candidates", "(I)I"⟩, _)) 26 rfl
theorem qs_27 : Cond.selects "WindowCopiesModel" ⟨"WindowCopiesModel", "best", "(I)I"⟩ ⟨"WindowCopiesModel", "best", "(I)I"⟩ ∈ gT := gT_p (q := (⟨"WindowCopiesModel", "best", "(I)I"⟩, _)) 27 rfl
theorem qs_28 : Cond.selects "WindowCopiesModel" ⟨"WindowCopiesModel", "saves", "(I)I"⟩ ⟨"WindowCopiesModel", "saves", "(I)I"⟩ ∈ gT := gT_p (q := (⟨"WindowCopiesModel", "saves", "(I)I"⟩, _)) 28 rfl
theorem qs_29 : Cond.selects "WindowCopiesModel" ⟨"WindowCopiesModel", "lays", "(I)V"⟩ ⟨"WindowCopiesModel", "lays", "(I)V"⟩ ∈ gT := gT_p (q := (⟨"WindowCopiesModel", "lays", "(I)V"⟩, _)) 29 rfl
theorem qs_30 : Cond.selects "WindowCopiesModel" ⟨"WindowCopiesModel", "weighs", "(I)V"⟩ ⟨"WindowCopiesModel", "weighs", "(I)V"⟩ ∈ gT := gT_p (q := (⟨"WindowCopiesModel", "weighs", "(I)V"⟩, _)) 30 rfl
theorem qs_31 : Cond.selects "WindowCopiesModel" ⟨"WindowCopiesModel", "takes", "(II)Z"⟩ ⟨"WindowCopiesModel", "takes", "(II)Z"⟩ ∈ gT := gT_p (q := (⟨"WindowCopiesModel", "takes", "(II)Z"⟩, _)) 31 rfl
theorem qs_32 : Cond.selects "WindowCopiesModel" ⟨"WindowCopiesModel", "savesMore", "(II)Z"⟩ ⟨"WindowCopiesModel", "savesMore", "(II)Z"⟩ ∈ gT := gT_p (q := (⟨"WindowCopiesModel", "savesMore", "(II)Z"⟩, _)) 32 rfl
theorem qs_33 : Cond.selects "WindowCopiesModel" ⟨"WindowCopiesModel", "cost", "(I)I"⟩ ⟨"WindowCopiesModel", "cost", "(I)I"⟩ ∈ gT := gT_p (q := (⟨"WindowCopiesModel", "cost", "(I)I"⟩, _)) 33 rfl
theorem qs_34 : Cond.selects "WindowCopiesModel" ⟨"WindowCopiesModel", "costAll", "(I)I"⟩ ⟨"WindowCopiesModel", "costAll", "(I)I"⟩ ∈ gT := gT_p (q := (⟨"WindowCopiesModel", "costAll", "(I)I"⟩, _)) 34 rfl
theorem qs_35 : Cond.selects "WindowCopiesModel" ⟨"WindowCopiesModel", "stretch", "(II)I"⟩ ⟨"WindowCopiesModel", "stretch", "(II)I"⟩ ∈ gT := gT_p (q := (⟨"WindowCopiesModel", "stretch", "(II)I"⟩, _)) 35 rfl
theorem qs_36 : Cond.selects "WindowCopiesModel" ⟨"WindowCopiesModel", "unlike", "()I"⟩ ⟨"WindowCopiesModel", "unlike", "()I"⟩ ∈ gT := gT_p (q := (⟨"WindowCopiesModel", "unlike", "()I"⟩, _)) 36 rfl
theorem qs_37 : Cond.selects "WindowCopiesModel" ⟨"WindowCopiesModel", "cheapest", "()I"⟩ ⟨"WindowCopiesModel", "cheapest", "()I"⟩ ∈ gT := gT_p (q := (⟨"WindowCopiesModel", "cheapest", "()I"⟩, _)) 37 rfl
theorem qs_38 : Cond.selects "WindowCopiesModel" ⟨"WindowCopiesModel", "writesSign", "(I)V"⟩ ⟨"WindowCopiesModel", "writesSign", "(I)V"⟩ ∈ gT := gT_p (q := (⟨"WindowCopiesModel", "writesSign", "(I)V"⟩, _)) 38 rfl
theorem qs_39 : Cond.selects "WindowCopiesModel" ⟨"WindowCopiesModel", "writesNumber", "(I)V"⟩ ⟨"WindowCopiesModel", "writesNumber", "(I)V"⟩ ∈ gT := gT_p (q := (⟨"WindowCopiesModel", "writesNumber", "(I)V"⟩, _)) 39 rfl
theorem qs_40 : Cond.selects "WindowCopiesModel" ⟨"WindowCopiesModel", "isRight", "()Z"⟩ ⟨"WindowCopiesModel", "isRight", "()Z"⟩ ∈ gT := gT_p (q := (⟨"WindowCopiesModel", "isRight", "()Z"⟩, _)) 40 rfl
theorem qs_41 : Cond.selects "WindowCopiesModel" ⟨"WindowCopiesModel", "isAt", "(II)Z"⟩ ⟨"WindowCopiesModel", "isAt", "(II)Z"⟩ ∈ gT := gT_p (q := (⟨"WindowCopiesModel", "isAt", "(II)Z"⟩, _)) 41 rfl
theorem qs_42 : Cond.selects "WindowCopiesModel" ⟨"WindowCopiesModel", "readsCopy", "()Z"⟩ ⟨"WindowCopiesModel", "readsCopy", "()Z"⟩ ∈ gT := gT_p (q := (⟨"WindowCopiesModel", "readsCopy", "()Z"⟩, _)) 42 rfl
theorem qs_43 : Cond.selects "WindowCopiesModel" ⟨"WindowCopiesModel", "numbered", "()Z"⟩ ⟨"WindowCopiesModel", "numbered", "()Z"⟩ ∈ gT := gT_p (q := (⟨"WindowCopiesModel", "numbered", "()Z"⟩, _)) 43 rfl
theorem qs_44 : Cond.selects "WindowCopiesModel" ⟨"WindowCopiesModel", "fails", "(I)Z"⟩ ⟨"WindowCopiesModel", "fails", "(I)Z"⟩ ∈ gT := gT_p (q := (⟨"WindowCopiesModel", "fails", "(I)Z"⟩, _)) 44 rfl
theorem qs_45 : Cond.selects "WindowCopiesModel" ⟨"WindowCopiesModel", "sign", "(I)Z"⟩ ⟨"WindowCopiesModel", "sign", "(I)Z"⟩ ∈ gT := gT_p (q := (⟨"WindowCopiesModel", "sign", "(I)Z"⟩, _)) 45 rfl
theorem qs_46 : Cond.selects "WindowCopiesModel" ⟨"WindowCopiesModel", "wrong", "(II)I"⟩ ⟨"WindowCopiesModel", "wrong", "(II)I"⟩ ∈ gT := gT_p (q := (⟨"WindowCopiesModel", "wrong", "(II)I"⟩, _)) 46 rfl
theorem qs_47 : Cond.selects "WindowCopiesModel" ⟨"WindowCopiesModel", "readsLetter", "()Z"⟩ ⟨"WindowCopiesModel", "readsLetter", "()Z"⟩ ∈ gT := gT_p (q := (⟨"WindowCopiesModel", "readsLetter", "()Z"⟩, _)) 47 rfl
def F_WC : u_T := fun k => [("WindowCopies", "state", "LWindowCopies$State;", true), ("WindowCopies", "snapshot", "LWindowCopies$State;", true), ("WindowCopies", "hasSnapshot", "Z", false), ("WindowCopies", "history", "LWindowCopies$History;", true), ("WindowCopies", "candidates", "LWindowCopies$Candidates;", true), ("WindowCopies", "plan", "LWindowCopies$Plan;", true), ("WindowCopies", "stretch", "LWindowCopies$Stretch;", true), ("WindowCopies", "text", "LWindowCopies$Text;", true), ("WindowCopies", "reader", "LWindowCopies$TextReader;", true)].getD k ("", "", "", false)
def F_State : u_T := fun k => [("WindowCopies$State", "letters", "[I", true), ("WindowCopies$State", "settings", "[I", true), ("WindowCopies$State", "size", "I", false)].getD k ("", "", "", false)
def F_History : u_T := fun k => [("WindowCopies$History", "states", "[LWindowCopies$State;", true), ("WindowCopies$History", "oldest", "I", false), ("WindowCopies$History", "size", "I", false)].getD k ("", "", "", false)
def F_Cand : u_T := fun k => [("WindowCopies$Candidates", "state", "LWindowCopies$State;", true), ("WindowCopies$Candidates", "likeLengths", "[I", true), ("WindowCopies$Candidates", "distances", "[I", true), ("WindowCopies$Candidates", "place", "I", false), ("WindowCopies$Candidates", "all", "I", false), ("WindowCopies$Candidates", "lookedAt", "I", false)].getD k ("", "", "", false)
def F_Plan : u_T := fun k => [("WindowCopies$Plan", "state", "LWindowCopies$State;", true), ("WindowCopies$Plan", "candidates", "LWindowCopies$Candidates;", true), ("WindowCopies$Plan", "distances", "[I", true), ("WindowCopies$Plan", "lengths", "[I", true), ("WindowCopies$Plan", "savings", "[I", true), ("WindowCopies$Plan", "leastCosts", "[I", true), ("WindowCopies$Plan", "begins", "[I", true), ("WindowCopies$Plan", "parts", "I", false), ("WindowCopies$Plan", "copies", "I", false), ("WindowCopies$Plan", "copiedLetters", "I", false), ("WindowCopies$Plan", "longestCopy", "I", false)].getD k ("", "", "", false)
def F_Stretch : u_T := fun k => [("WindowCopies$Stretch", "length", "I", false), ("WindowCopies$Stretch", "former", "I", false), ("WindowCopies$Stretch", "latter", "I", false)].getD k ("", "", "", false)
def F_Text : u_T := fun k => [("WindowCopies$Text", "characters", "[I", true), ("WindowCopies$Text", "size", "I", false)].getD k ("", "", "", false)
def F_Reader : u_T := fun k => [("WindowCopies$TextReader", "text", "LWindowCopies$Text;", true), ("WindowCopies$TextReader", "state", "LWindowCopies$State;", true), ("WindowCopies$TextReader", "told", "LWindowCopies$State;", true), ("WindowCopies$TextReader", "next", "I", false), ("WindowCopies$TextReader", "place", "I", false), ("WindowCopies$TextReader", "reason", "I", false)].getD k ("", "", "", false)
def F_Mo : u_T := fun k => [("WindowCopiesModel", "s", "[I", true), ("WindowCopiesModel", "past", "[I", true), ("WindowCopiesModel", "kept", "[I", true), ("WindowCopiesModel", "isKept", "Z", false), ("WindowCopiesModel", "pasts", "I", false), ("WindowCopiesModel", "text", "[I", true), ("WindowCopiesModel", "typed", "I", false), ("WindowCopiesModel", "places", "[I", true), ("WindowCopiesModel", "lengths", "[I", true), ("WindowCopiesModel", "distances", "[I", true), ("WindowCopiesModel", "parts", "I", false), ("WindowCopiesModel", "costs", "[I", true), ("WindowCopiesModel", "nextLength", "[I", true), ("WindowCopiesModel", "nextDistance", "[I", true), ("WindowCopiesModel", "ownLengths", "[I", true), ("WindowCopiesModel", "ownDistances", "[I", true), ("WindowCopiesModel", "spot", "I", false), ("WindowCopiesModel", "reason", "I", false), ("WindowCopiesModel", "number", "I", false), ("WindowCopiesModel", "told", "I", false), ("WindowCopiesModel", "row", "[I", true)].getD k ("", "", "", false)
abbrev classes : List vw_C := [("WindowCopies", F_WC, 9), ("WindowCopies$State", F_State, 3), ("WindowCopies$History", F_History, 3), ("WindowCopies$Candidates", F_Cand, 6), ("WindowCopies$Plan", F_Plan, 11), ("WindowCopies$Stretch", F_Stretch, 3), ("WindowCopies$Text", F_Text, 2), ("WindowCopies$TextReader", F_Reader, 6), ("WindowCopiesModel", F_Mo, 21)]
def isRL : List (List Bool) := [[true, true, false, true, true, true, true, true, true], [true, true, false], [true, false, false], [true, true, true, false, false, false], [true, true, true, true, true, true, true, false, false, false, false], [false, false, false], [true, false], [true, true, true, false, false, false], [true, true, true, false, false, true, false, true, true, true, false, true, true, true, true, true, false, false, false, false, true]]
def tyL : List (List FieldType) := [[.object "WindowCopies$State", .object "WindowCopies$State", .boolean, .object "WindowCopies$History", .object "WindowCopies$Candidates", .object "WindowCopies$Plan", .object "WindowCopies$Stretch", .object "WindowCopies$Text", .object "WindowCopies$TextReader"], [.array .int, .array .int, .int], [.array (.object "WindowCopies$State"), .int, .int], [.object "WindowCopies$State", .array .int, .array .int, .int, .int, .int], [.object "WindowCopies$State", .object "WindowCopies$Candidates", .array .int, .array .int, .array .int, .array .int, .array .int, .int, .int, .int, .int], [.int, .int, .int], [.array .int, .int], [.object "WindowCopies$Text", .object "WindowCopies$State", .object "WindowCopies$State", .int, .int, .int], [.array .int, .array .int, .array .int, .boolean, .int, .array .int, .int, .array .int, .array .int, .array .int, .int, .array .int, .array .int, .array .int, .array .int, .array .int, .int, .int, .int, .int, .array .int]]
theorem u_WC : ∀ w ∈ u_ws "WindowCopies" F_WC 9, w ∈ gT := List.forall_mem_cons.mpr ⟨q_193, List.forall_mem_cons.mpr ⟨q_195, List.forall_mem_cons.mpr ⟨q_197, List.forall_mem_cons.mpr ⟨q_199, List.forall_mem_cons.mpr ⟨q_201, List.forall_mem_cons.mpr ⟨q_203, List.forall_mem_cons.mpr ⟨q_205, List.forall_mem_cons.mpr ⟨q_207, List.forall_mem_cons.mpr ⟨q_209, fun _ h => absurd h List.not_mem_nil⟩⟩⟩⟩⟩⟩⟩⟩⟩
theorem u_State : ∀ w ∈ u_ws "WindowCopies$State" F_State 3, w ∈ gT := List.forall_mem_cons.mpr ⟨q_36, List.forall_mem_cons.mpr ⟨q_38, List.forall_mem_cons.mpr ⟨q_40, fun _ h => absurd h List.not_mem_nil⟩⟩⟩
theorem u_History : ∀ w ∈ u_ws "WindowCopies$History" F_History 3, w ∈ gT := List.forall_mem_cons.mpr ⟨q_56, List.forall_mem_cons.mpr ⟨q_58, List.forall_mem_cons.mpr ⟨q_60, fun _ h => absurd h List.not_mem_nil⟩⟩⟩
theorem u_Cand : ∀ w ∈ u_ws "WindowCopies$Candidates" F_Cand 6, w ∈ gT := List.forall_mem_cons.mpr ⟨q_75, List.forall_mem_cons.mpr ⟨q_77, List.forall_mem_cons.mpr ⟨q_79, List.forall_mem_cons.mpr ⟨q_81, List.forall_mem_cons.mpr ⟨q_83, List.forall_mem_cons.mpr ⟨q_85, fun _ h => absurd h List.not_mem_nil⟩⟩⟩⟩⟩⟩
theorem u_Plan : ∀ w ∈ u_ws "WindowCopies$Plan" F_Plan 11, w ∈ gT := List.forall_mem_cons.mpr ⟨q_105, List.forall_mem_cons.mpr ⟨q_107, List.forall_mem_cons.mpr ⟨q_109, List.forall_mem_cons.mpr ⟨q_111, List.forall_mem_cons.mpr ⟨q_113, List.forall_mem_cons.mpr ⟨q_115, List.forall_mem_cons.mpr ⟨q_117, List.forall_mem_cons.mpr ⟨q_119, List.forall_mem_cons.mpr ⟨q_121, List.forall_mem_cons.mpr ⟨q_123, List.forall_mem_cons.mpr ⟨q_125, fun _ h => absurd h List.not_mem_nil⟩⟩⟩⟩⟩⟩⟩⟩⟩⟩⟩
theorem u_Stretch : ∀ w ∈ u_ws "WindowCopies$Stretch" F_Stretch 3, w ∈ gT := List.forall_mem_cons.mpr ⟨q_137, List.forall_mem_cons.mpr ⟨q_139, List.forall_mem_cons.mpr ⟨q_141, fun _ h => absurd h List.not_mem_nil⟩⟩⟩
theorem u_Text : ∀ w ∈ u_ws "WindowCopies$Text" F_Text 2, w ∈ gT := List.forall_mem_cons.mpr ⟨q_152, List.forall_mem_cons.mpr ⟨q_154, fun _ h => absurd h List.not_mem_nil⟩⟩
theorem u_Reader : ∀ w ∈ u_ws "WindowCopies$TextReader" F_Reader 6, w ∈ gT := List.forall_mem_cons.mpr ⟨q_171, List.forall_mem_cons.mpr ⟨q_173, List.forall_mem_cons.mpr ⟨q_175, List.forall_mem_cons.mpr ⟨q_177, List.forall_mem_cons.mpr ⟨q_179, List.forall_mem_cons.mpr ⟨q_181, fun _ h => absurd h List.not_mem_nil⟩⟩⟩⟩⟩⟩
theorem u_Mo : ∀ w ∈ u_ws "WindowCopiesModel" F_Mo 21, w ∈ gT := List.forall_mem_cons.mpr ⟨q_685, List.forall_mem_cons.mpr ⟨q_687, List.forall_mem_cons.mpr ⟨q_689, List.forall_mem_cons.mpr ⟨q_691, List.forall_mem_cons.mpr ⟨q_693, List.forall_mem_cons.mpr ⟨q_695, List.forall_mem_cons.mpr ⟨q_697, List.forall_mem_cons.mpr ⟨q_699, List.forall_mem_cons.mpr ⟨q_701, List.forall_mem_cons.mpr ⟨q_703, List.forall_mem_cons.mpr ⟨q_705, List.forall_mem_cons.mpr ⟨q_707, List.forall_mem_cons.mpr ⟨q_709, List.forall_mem_cons.mpr ⟨q_711, List.forall_mem_cons.mpr ⟨q_713, List.forall_mem_cons.mpr ⟨q_715, List.forall_mem_cons.mpr ⟨q_717, List.forall_mem_cons.mpr ⟨q_719, List.forall_mem_cons.mpr ⟨q_721, List.forall_mem_cons.mpr ⟨q_723, List.forall_mem_cons.mpr ⟨q_725, fun _ h => absurd h List.not_mem_nil⟩⟩⟩⟩⟩⟩⟩⟩⟩⟩⟩⟩⟩⟩⟩⟩⟩⟩⟩⟩⟩
def nestWs : List Cond := [.fieldLinkNest "WindowCopies$State" 22 "WindowCopies" "FIRST_VALUES" "[I" "WindowCopies", .methodLinkNest "WindowCopies$State" 25 ⟨"WindowCopies", "at", "([II)I"⟩ "WindowCopies", .methodLinkNest "WindowCopies$State" 29 ⟨"WindowCopies", "store", "([III)V"⟩ "WindowCopies", .methodLinkNest "WindowCopies" 50 ⟨"WindowCopies$Stretch", "<init>", "()V"⟩ "WindowCopies", .methodLinkNest "WindowCopies" 57 ⟨"WindowCopies$Text", "<init>", "()V"⟩ "WindowCopies", .methodLinkNest "WindowCopies$Candidates" 38 ⟨"WindowCopies", "store", "([III)V"⟩ "WindowCopies", .methodLinkNest "WindowCopies$Candidates" 55 ⟨"WindowCopies", "at", "([II)I"⟩ "WindowCopies", .methodLinkNest "WindowCopies$Plan" 54 ⟨"WindowCopies", "store", "([III)V"⟩ "WindowCopies", .methodLinkNest "WindowCopies$Plan" 97 ⟨"WindowCopies", "at", "([II)I"⟩ "WindowCopies", .methodLinkNest "WindowCopies$Text" 23 ⟨"WindowCopies", "store", "([III)V"⟩ "WindowCopies", .methodLinkNest "WindowCopies$Text" 19 ⟨"WindowCopies", "at", "([II)I"⟩ "WindowCopies", .methodLinkNest "WindowCopies$TextReader" 92 ⟨"WindowCopies", "isIn", "(III)Z"⟩ "WindowCopies", .methodLinkNest "WindowCopies$TextReader" 60 ⟨"WindowCopies", "isLetter", "(I)Z"⟩ "WindowCopies"]
end
section
/-! THE MEMORY of the two systems. All cells are made by the two constructors, one behind another, from the law's first heap on: cell k lies at b + k. A cell holds whole numbers (fields, elements) and references (to cells); the latter stay once they are set. -/
abbrev mI : Type := Nat → Int → Int
abbrev mR : Type := Nat → Nat → Option Nat
abbrev gX : Type := (Nat → ClassId) × (Nat → Nat → Nat) × ClassId × ClassId × Nat × Nat × Nat × Nat
abbrev gD (Γ : gX) : va_G := (Γ.1, Γ.2.1)
abbrev gI (Γ : gX) : ClassId := Γ.2.2.1
abbrev gS (Γ : gX) : ClassId := Γ.2.2.2.1
abbrev gb (Γ : gX) : Nat := Γ.2.2.2.2.1
abbrev gtL (Γ : gX) : Nat := Γ.2.2.2.2.2.1
abbrev gtH (Γ : gX) : Nat := Γ.2.2.2.2.2.2.1
abbrev gtF (Γ : gX) : Nat := Γ.2.2.2.2.2.2.2
def vI (z : Int) : Value := .int (Int32.ofInt z)
abbrev iR (z : Int) : Prop := -2147483648 ≤ z ∧ z < 2147483648
def rV (b : Nat) (o : Option Nat) : Value := va_rf (o.map (fun k => b + k))
def mU (M : mI) (k : Nat) (j v : Int) : mI := fun a i => if a = k ∧ i = j then v else M a i
def rU (R : mR) (k j : Nat) (v : Option Nat) : mR := fun a i => if a = k ∧ i = j then v else R a i
theorem mU_self (M : mI) (k : Nat) (j v : Int) : mU M k j v k j = v := by simp [mU]
theorem mU_cell {M : mI} {k a : Nat} {j v : Int} (h : a ≠ k) : mU M k j v a = M a := by funext i; simp [mU, h]
theorem mU_slot {M : mI} {k a : Nat} {j v i : Int} (h : i ≠ j) : mU M k j v a i = M a i := by simp [mU, h]
theorem mU_if (M : mI) (k : Nat) (j v i : Int) : mU M k j v k i = if i = j then v else M k i := by simp [mU]
theorem iR_mU {M : mI} {k : Nat} {j v : Int} (h : ∀ a i, iR (M a i)) (hv : iR v) : ∀ a i, iR (mU M k j v a i) := by
  intro a i
  unfold mU
  split
  · exact hv
  · exact h a i
/-- which cell is what: (0, n) a row of n ints, (1, ci) an object of class ci, (2, n) a row of n States -/
def dsL : List (Nat × Nat) := [(1, 0), (1, 1), (0, 60), (0, 5), (1, 1), (0, 60), (0, 5), (1, 2), (2, 4), (1, 1), (0, 60), (0, 5), (1, 1), (0, 60), (0, 5), (1, 1), (0, 60), (0, 5), (1, 1), (0, 60), (0, 5), (1, 3), (0, 61), (0, 60), (1, 4), (0, 180), (0, 180), (0, 62), (0, 61), (0, 60), (1, 5), (1, 6), (0, 120), (1, 7), (1, 1), (0, 60), (0, 5), (1, 8), (0, 66), (0, 264), (0, 66), (0, 120), (0, 60), (0, 60), (0, 60), (0, 61), (0, 60), (0, 60), (0, 60), (0, 60), (0, 60)]
def isR (ci j : Nat) : Bool := (isRL.getD ci []).getD j false
def r0L : List (List (Option Nat)) := [[some 1, some 4, none, some 7, some 21, some 24, some 30, some 31, some 33], [some 2, some 3], [], [], [some 5, some 6], [], [], [some 8], [some 9, some 12, some 15, some 18], [some 10, some 11], [], [], [some 13, some 14], [], [], [some 16, some 17], [], [], [some 19, some 20], [], [], [some 1, some 22, some 23], [], [], [some 1, some 21, some 25, some 26, some 27, some 28, some 29], [], [], [], [], [], [], [some 32], [], [some 31, some 1, some 34], [some 35, some 36], [], [], [some 38, some 39, some 40, none, none, some 41, none, some 42, some 43, some 44, none, some 45, some 46, some 47, some 48, some 49, none, none, none, none, some 50]]
def R0 : mR := fun k j => (r0L.getD k []).getD j none
def cV (Γ : gX) (R : mR) (M : mI) (ci k j : Nat) : Value := if isR ci j = true then rV (gb Γ) (R k j) else vI (M k j)
def cE (Γ : gX) (R : mR) (M : mI) (H : Heap) (k : Nat) : Prop :=
  (∀ n : Nat, dsL[k]? = some (0, n) → H[gb Γ + k]? = some (arrV (gI Γ) n (fun j => vI (M k j)))) ∧
  (∀ ci : Nat, dsL[k]? = some (1, ci) → ∃ r : vw_C, classes[ci]? = some r ∧ t_OB (gb Γ + k) (Γ.1 ci) r.2.2 (Γ.2.1 ci) H (cV Γ R M ci k)) ∧
  (∀ n : Nat, dsL[k]? = some (2, n) → H[gb Γ + k]? = some (arrV (gS Γ) n (fun j => rV (gb Γ) (R k j))))
def Hp (Γ : gX) (R : mR) (K : Nat) (M : mI) (H : Heap) : Prop := H.size = gb Γ + K ∧ (∀ k i, iR (M k i)) ∧ ∀ k : Nat, k < K → cE Γ R M H k
def gA (Γ : gX) : Nat → Prop := fun q => gb Γ ≤ q
/-- a static row of five ints that nobody writes -/
def sT (Γ : gX) (t : Nat) (n : String) (f : Int → Int) (U : State) : Prop := va_Z "WindowCopies" n "[I" (.ref t) (gA Γ) U U.heap ∧ va_T .int t 5 (fun j => vI (f j)) (gA Γ) U U.heap
def fLow (j : Int) : Int := if j = 1 then 2 else 1
def fHigh (j : Int) : Int := if j = 1 then 6 else if j = 3 then 20 else 60
def fFirst (j : Int) : Int := if j = 0 then 20 else if j = 1 then 3 else if j = 4 then 18 else 8
def Vf (Γ : gX) (U : State) : Prop := va_K (gD Γ) classes [(gI Γ, .int), (gS Γ, .object "WindowCopies$State")] U ∧ (∀ w ∈ nestWs, va_Nw w U) ∧ va_AO "WindowCopies$State" U ∧ sT Γ (gtL Γ) "LOWEST_VALUES" fLow U ∧ sT Γ (gtH Γ) "HIGHEST_VALUES" fHigh U ∧ sT Γ (gtF Γ) "FIRST_VALUES" fFirst U
theorem sT.moved {Γ : gX} {t : Nat} {n : String} {f : Int → Int} {u U : State} (h : sT Γ t n f u) (hvm : u.vm.Alike U.vm) (hh : ∀ q, q < gb Γ → U.heap[q]? = u.heap[q]?) : sT Γ t n f U := by
  have hq : ∀ a : Nat, a < u.heap.size → ¬ gA Γ a → U.heap[a]? = u.heap[a]? := fun a _ ha => hh a (Nat.not_le.mp ha)
  exact ⟨(va_Z.moved hvm h.1).kept hq, (va_T.moved hvm h.2).kept hq⟩
theorem nest_moved {s U : State} (hW : s.WarmedH U.vm) (h : ∀ w ∈ nestWs, va_Nw w s) : ∀ w ∈ nestWs, va_Nw w U := by
  intro w hw
  have h1 := h w hw
  unfold nestWs at hw
  simp only [List.mem_cons, List.not_mem_nil, or_false] at hw
  rcases hw with rfl | rfl | rfl | rfl | rfl | rfl | rfl | rfl | rfl | rfl | rfl | rfl | rfl
  all_goals first | exact va_Nw.warmF hW h1 | exact va_Nw.warmM hW h1
theorem Vf.moved {Γ : gX} {s U : State} (h : Vf Γ s) (hW : s.WarmedH U.vm) (hh : ∀ q, q < gb Γ → U.heap[q]? = s.heap[q]?) : Vf Γ U := by
  obtain ⟨h1, h2, h3, h4, h5, h6⟩ := h
  exact ⟨va_K.moved hW.alike h1, nest_moved hW h2, va_AO.moved hW.alike h3, h4.moved hW.alike hh, h5.moved hW.alike hh, h6.moved hW.alike hh⟩
theorem Vf.same {Γ : gX} {s U : State} (h : Vf Γ s) (hv : s.vm = U.vm) (hh : U.heap = s.heap) : Vf Γ U := by
  obtain ⟨h1, h2, h3, h4, h5, h6⟩ := h
  have ha : s.vm.Alike U.vm := by rw [hv]; exact Vm.Alike.refl _
  have hq : ∀ q, q < gb Γ → U.heap[q]? = s.heap[q]? := fun q _ => by rw [hh]
  refine ⟨va_K.moved ha h1, fun w hw => ?_, va_AO.moved ha h3, h4.moved ha hq, h5.moved ha hq, h6.moved ha hq⟩
  have h7 := h2 w hw
  unfold nestWs at hw
  simp only [List.mem_cons, List.not_mem_nil, or_false] at hw
  rcases hw with rfl | rfl | rfl | rfl | rfl | rfl | rfl | rfl | rfl | rfl | rfl | rfl | rfl
  all_goals exact va_Nw.same rfl hv h7
/-! the judgement: at pc, with the locals L (all of one slot), the operand stack st and the memory M, the machine comes to the end -/
abbrev XT : Type := Program × Launch × Env × Room × State × MethodId × Array Value × List Frame × Method × Code × (State → Prop)
abbrev xp (X : XT) : Program := X.1
abbrev xl (X : XT) : Launch := X.2.1
abbrev xe (X : XT) : Env := X.2.2.1
abbrev xR (X : XT) : Room := X.2.2.2.1
abbrev xs (X : XT) : State := X.2.2.2.2.1
abbrev xm (X : XT) : MethodId := X.2.2.2.2.2.1
abbrev xa (X : XT) : Array Value := X.2.2.2.2.2.2.1
abbrev xw (X : XT) : List Frame := X.2.2.2.2.2.2.2.1
abbrev xt (X : XT) : Method := X.2.2.2.2.2.2.2.2.1
abbrev xc (X : XT) : Code := X.2.2.2.2.2.2.2.2.2.1
abbrev xQ (X : XT) : State → Prop := X.2.2.2.2.2.2.2.2.2.2
abbrev ZT : Type := mR × Nat × Nat × Nat
def lh (ls : Array Slot) (nL : Nat) (L : List (Option Value)) : Prop := ls.size = nL ∧ (∀ (i : Nat) (v : Value), L[i]? = some (some v) → ls[i]? = some (.val v)) ∧ ∀ i : Nat, ls[i]? ≠ some .second ∧ ∀ v : Value, ls[i]? = some (.val v) → v.category = 1
theorem lh_store {ls : Array Slot} {nL : Nat} {L : List (Option Value)} {i : Nat} {v : Value} (h : lh ls nL L) (hi : i < nL) (hc : v.category = 1) : ∃ ls', storeLocals ls i v = some ls' ∧ lh ls' nL (L.set i (some v)) := by
  obtain ⟨h1, h2, h3⟩ := h
  have hi' : i < ls.size := by omega
  have hx : ls[i]? = some ls[i] := Array.getElem?_eq_getElem hi'
  refine ⟨ls.setIfInBounds i (.val v), ?_, by simp [h1], ?_, ?_⟩
  · have h3i := h3 i
    generalize ls[i] = x at hx
    refine storeLocals_cat1 hx hc ?_
    cases x with
    | second => exact absurd hx h3i.1
    | val old => exact h3i.2 old hx
    | unset => trivial
  · intro j w hw
    by_cases hj : i = j
    · subst hj
      by_cases hl : i < L.length
      · rw [List.getElem?_set_self hl] at hw
        cases hw
        simp [hi']
      · rw [List.getElem?_eq_none (by simpa using hl)] at hw
        cases hw
    · rw [List.getElem?_set_ne hj] at hw
      rw [Array.getElem?_setIfInBounds_ne hj]
      exact h2 j w hw
  · intro j
    by_cases hj : i = j
    · subst hj
      refine ⟨by simp [hi'], fun w hw => ?_⟩
      simp [hi'] at hw
      rw [← hw]
      exact hc
    · rw [Array.getElem?_setIfInBounds_ne hj]
      exact h3 j
theorem lh_entry (av : List Value) (n : Nat) (hc : ∀ v ∈ av, v.category = 1) (hn : av.length ≤ n) : lh ((lg_sl av ++ List.replicate (n - (lg_sl av).length) Slot.unset).toArray) n (av.map some ++ List.replicate (n - av.length) none) := by
  have e : lg_sl av = av.map Slot.val := by
    clear hn
    induction av with
    | nil => rfl
    | cons v t ih =>
      have hv : v.category = 1 := hc v List.mem_cons_self
      have ht := ih (fun w hw => hc w (List.mem_cons_of_mem _ hw))
      unfold lg_sl at ht ⊢
      simp [hv, ht]
  rw [e]
  refine ⟨by simp; omega, fun i v hv => ?_, fun i => ?_⟩
  · simp only [List.getElem?_toArray]
    by_cases hi : i < av.length
    · rw [List.getElem?_append_left (by simpa using hi)] at hv ⊢
      rw [List.getElem?_map] at hv ⊢
      cases hw : av[i]? with
      | none => rw [hw] at hv; cases hv
      | some w => rw [hw] at hv; cases hv; rfl
    · rw [List.getElem?_append_right (by simpa using hi)] at hv
      have := List.eq_of_mem_replicate (List.mem_of_getElem? hv)
      cases this
  · simp only [List.getElem?_toArray]
    by_cases hi : i < av.length
    · rw [List.getElem?_append_left (by simpa using hi), List.getElem?_map]
      cases hw : av[i]? with
      | none => exact ⟨by simp, fun v hv => by simp at hv⟩
      | some w =>
        refine ⟨by simp, fun v hv => ?_⟩
        simp at hv
        rw [← hv]
        exact hc w (List.mem_of_getElem? hw)
    · rw [List.getElem?_append_right (by simpa using hi)]
      refine ⟨fun h => ?_, fun v hv => ?_⟩
      · have := List.eq_of_mem_replicate (List.mem_of_getElem? h)
        cases this
      · have := List.eq_of_mem_replicate (List.mem_of_getElem? hv)
        cases this
def G (Γ : gX) (X : XT) (nL : Nat) (Z : ZT) (pc : Nat) (L : List (Option Value)) (st : List Value) (M : mI) : Prop :=
  ∀ (H : Heap) (locs : List Loc) (ls : Array Slot), Hp Γ Z.1 Z.2.1 M H → (∀ q, q < gb Γ → H[q]? = (xs X).heap[q]?) → (∀ q ∈ locs, gb Γ ≤ q.base) → lh ls nL L → W (xp X) (xl X) (xe X) (xR X) (xs X) (xm X) (xa X) (xw X) (xt X) (xc X) H locs Z.2.2.1 Z.2.2.2 (xQ X) (F0 (xm X) pc ls st)
def Cx (Γ : gX) (X : XT) (nL h : Nat) (cc : ByteArray) (own : String) : Prop := (xp X).tables.exec = Jvm.exec ∧ (xc X).code = cc ∧ (xc X).maxLocals = nL ∧ (xs X).vm.findClass own = some (xm X).cls ∧ (∀ w ∈ gT, w.before (xa X) (xs X) = true) ∧ (xt X).locks = false ∧ Vf Γ (xs X) ∧ h ≤ (xR X).frames ∧ 40 * h ≤ (xR X).locals
theorem i32_toInt {z : Int} (h : iR z) : (Int32.ofInt z).toInt = z := Int32.toInt_ofInt_of_le (by omega) (by omega)
theorem i32_lt {x y : Int} (hx : iR x) (hy : iR y) : Int32.ofInt x < Int32.ofInt y ↔ x < y := by rw [Int32.lt_iff_toInt_lt, i32_toInt hx, i32_toInt hy]
theorem i32_le {x y : Int} (hx : iR x) (hy : iR y) : Int32.ofInt x ≤ Int32.ofInt y ↔ x ≤ y := by rw [Int32.le_iff_toInt_le, i32_toInt hx, i32_toInt hy]
theorem i32_eq {x y : Int} (hx : iR x) (hy : iR y) : Int32.ofInt x = Int32.ofInt y ↔ x = y := by rw [← Int32.toInt_inj, i32_toInt hx, i32_toInt hy]
theorem i32_0 : (0 : Int32) = Int32.ofInt 0 := rfl
theorem i32_of (x : Int32) : vI x.toInt = .int x := by unfold vI; rw [Int32.ofInt_toInt]
theorem i32_clamp {z : Int} (h0 : 0 ≤ z) (h : z < 2147483648) : (Int32.ofInt z).toNatClampNeg = z.toNat := by
  show (Int32.ofInt z).toInt.toNat = _
  rw [i32_toInt ⟨by omega, h⟩]
theorem i32_in {z : Int} {n : Nat} (h0 : 0 ≤ z) (h : z < n) (hn : n < 2147483648) : ¬ (Int32.ofInt z < 0 ∨ n ≤ (Int32.ofInt z).toNatClampNeg) := by
  rw [i32_clamp h0 (by omega), i32_0, i32_lt ⟨by omega, by omega⟩ ⟨by omega, by omega⟩]
  omega
end
section
/-! rows: an instruction a row, over G -/
section GR
variable {Γ : gX} {X : XT} {nL h : Nat} {Z : ZT} {pc : Nat} {L : List (Option Value)} {st : List Value} {M : mI} {cc : ByteArray} {own : String}
theorem g_iconst {n : Int} (hX : Cx Γ X nL h cc own) (hdg : decode cc pc = .ok (.iconst n, 1)) (k : G Γ X nL Z (pc + 1) L (vI n :: st) M) : G Γ X nL Z pc L st M :=
  fun H locs ls h1 h2 h3 h4 => lv_iconst hX.1 hX.2.1 hdg rfl (k H locs ls h1 h2 h3 h4)
theorem g_bipush {n : Int} (hX : Cx Γ X nL h cc own) (hdg : decode cc pc = .ok (.bipush n, 2)) (hn : (Int8.ofInt n).toInt32 = Int32.ofInt n) (k : G Γ X nL Z (pc + 2) L (vI n :: st) M) : G Γ X nL Z pc L st M :=
  fun H locs ls h1 h2 h3 h4 => lv_bipush hX.1 hX.2.1 hdg hn (k H locs ls h1 h2 h3 h4)
theorem g_sipush {n : Int} (hX : Cx Γ X nL h cc own) (hdg : decode cc pc = .ok (.sipush n, 3)) (hn : (Int16.ofInt n).toInt32 = Int32.ofInt n) (k : G Γ X nL Z (pc + 3) L (vI n :: st) M) : G Γ X nL Z pc L st M :=
  fun H locs ls h1 h2 h3 h4 => lv_sipush hX.1 hX.2.1 hdg hn (k H locs ls h1 h2 h3 h4)
theorem g_iload_n {q : Fin 4} {x : Int} (hX : Cx Γ X nL h cc own) (hdg : decode cc pc = .ok (.iload_n q, 1)) (hl : L[(q : Nat)]? = some (some (vI x))) (k : G Γ X nL Z (pc + 1) L (vI x :: st) M) : G Γ X nL Z pc L st M :=
  fun H locs ls h1 h2 h3 h4 => lv_iload_n hX.1 hX.2.1 hdg rfl (h4.2.1 _ _ hl) (k H locs ls h1 h2 h3 h4)
theorem g_iload {q : Nat} {x : Int} (hX : Cx Γ X nL h cc own) (hdg : decode cc pc = .ok (.iload q, 2)) (hl : L[q]? = some (some (vI x))) (k : G Γ X nL Z (pc + 2) L (vI x :: st) M) : G Γ X nL Z pc L st M :=
  fun H locs ls h1 h2 h3 h4 => lv_iload hX.1 hX.2.1 hdg (h4.2.1 _ _ hl) (k H locs ls h1 h2 h3 h4)
theorem g_aload_n {q : Fin 4} {x : Nat} (hX : Cx Γ X nL h cc own) (hdg : decode cc pc = .ok (.aload_n q, 1)) (hl : L[(q : Nat)]? = some (some (.ref x))) (k : G Γ X nL Z (pc + 1) L (.ref x :: st) M) : G Γ X nL Z pc L st M :=
  fun H locs ls h1 h2 h3 h4 => lv_aload_n hX.1 hX.2.1 hdg rfl (h4.2.1 _ _ hl) (k H locs ls h1 h2 h3 h4)
theorem g_istore_n {q : Fin 4} {x : Int} (hX : Cx Γ X nL h cc own) (hdg : decode cc pc = .ok (.istore_n q, 1)) (hn : (q : Nat) < nL) (k : G Γ X nL Z (pc + 1) (L.set q (some (vI x))) st M) : G Γ X nL Z pc L (vI x :: st) M := by
  intro H locs ls h1 h2 h3 h4
  obtain ⟨ls', e', h'⟩ := lh_store (v := vI x) h4 hn rfl
  intro T hT Y
  obtain ⟨t, a, b⟩ := k H locs ls' h1 h2 h3 h' T hT Y
  refine ⟨t, ?_, b⟩
  have hb := hX.2.1
  have hx := hX.1
  unfold vI at e' ⊢
  jvm_step Y.here [Y.here.top, ↓top_set Y.here.top, hx, hb, hdg, e']
  exact a
theorem g_istore {q : Nat} {x : Int} (hX : Cx Γ X nL h cc own) (hdg : decode cc pc = .ok (.istore q, 2)) (hn : (q : Nat) < nL) (k : G Γ X nL Z (pc + 2) (L.set q (some (vI x))) st M) : G Γ X nL Z pc L (vI x :: st) M := by
  intro H locs ls h1 h2 h3 h4
  obtain ⟨ls', e', h'⟩ := lh_store (v := vI x) h4 hn rfl
  intro T hT Y
  obtain ⟨t, a, b⟩ := k H locs ls' h1 h2 h3 h' T hT Y
  refine ⟨t, ?_, b⟩
  have hb := hX.2.1
  have hx := hX.1
  unfold vI at e' ⊢
  jvm_step Y.here [Y.here.top, ↓top_set Y.here.top, hx, hb, hdg, e']
  exact a
theorem g_astore_n {q : Fin 4} {x : Nat} (hX : Cx Γ X nL h cc own) (hdg : decode cc pc = .ok (.astore_n q, 1)) (hn : (q : Nat) < nL) (k : G Γ X nL Z (pc + 1) (L.set q (some (.ref x))) st M) : G Γ X nL Z pc L (.ref x :: st) M := by
  intro H locs ls h1 h2 h3 h4
  obtain ⟨ls', e', h'⟩ := lh_store (v := .ref x) h4 hn rfl
  intro T hT Y
  obtain ⟨t, a, b⟩ := k H locs ls' h1 h2 h3 h' T hT Y
  refine ⟨t, ?_, b⟩
  have hb := hX.2.1
  have hx := hX.1
  jvm_step Y.here [Y.here.top, ↓top_set Y.here.top, hx, hb, hdg, e', Value.isRef]
  exact a
theorem g_iinc {i : Nat} {n x : Int} (hX : Cx Γ X nL h cc own) (hdg : decode cc pc = .ok (.iinc i n, 3)) (hl : L[i]? = some (some (vI x))) (hn : i < nL) (k : G Γ X nL Z (pc + 3) (L.set i (some (vI (x + n)))) st M) : G Γ X nL Z pc L st M := by
  intro H locs ls h1 h2 h3 h4
  obtain ⟨ls', e', h'⟩ := lh_store (v := vI (x + n)) h4 hn rfl
  have hg : ls[i]? = some (.val (.int (Int32.ofInt x))) := h4.2.1 _ _ hl
  intro T hT Y
  obtain ⟨t, a, b⟩ := k H locs ls' h1 h2 h3 h' T hT Y
  refine ⟨t, ?_, b⟩
  have hb := hX.2.1
  have hx := hX.1
  unfold vI at e'
  rw [Int32.ofInt_add] at e'
  jvm_step Y.here [Y.here.top, ↓top_set Y.here.top, hx, hb, hdg, hg, e']
  exact a
theorem g_iadd {x y : Int} (hX : Cx Γ X nL h cc own) (hdg : decode cc pc = .ok (.iadd, 1)) (k : G Γ X nL Z (pc + 1) L (vI (x + y) :: st) M) : G Γ X nL Z pc L (vI y :: vI x :: st) M := by
  intro H locs ls h1 h2 h3 h4
  have k' := k H locs ls h1 h2 h3 h4
  unfold vI at k'
  rw [Int32.ofInt_add] at k'
  exact lv_iadd hX.1 hX.2.1 hdg k'
theorem g_isub {x y : Int} (hX : Cx Γ X nL h cc own) (hdg : decode cc pc = .ok (.isub, 1)) (k : G Γ X nL Z (pc + 1) L (vI (x - y) :: st) M) : G Γ X nL Z pc L (vI y :: vI x :: st) M := by
  intro H locs ls h1 h2 h3 h4
  have k' := k H locs ls h1 h2 h3 h4
  unfold vI at k'
  rw [Int32.ofInt_sub] at k'
  exact lv_isub hX.1 hX.2.1 hdg k'
theorem g_imul {x y : Int} (hX : Cx Γ X nL h cc own) (hdg : decode cc pc = .ok (.imul, 1)) (k : G Γ X nL Z (pc + 1) L (vI (x * y) :: st) M) : G Γ X nL Z pc L (vI y :: vI x :: st) M := by
  intro H locs ls h1 h2 h3 h4
  have k' := k H locs ls h1 h2 h3 h4
  unfold vI at k'
  rw [Int32.ofInt_mul] at k'
  exact lv_imul hX.1 hX.2.1 hdg k'
theorem i32_div {x y : Int} (hx : 0 ≤ x ∧ x < 2147483648) (hy : 0 < y ∧ y < 2147483648) : Int32.ofInt x / Int32.ofInt y = Int32.ofInt (x / y) := by
  have h1 : 0 ≤ x / y := Int.ediv_nonneg hx.1 (by omega)
  have h2 : x / y ≤ x := Int.ediv_le_self y hx.1
  rw [← Int32.toInt_inj, i32_toInt ⟨by omega, by omega⟩, Int32.toInt_div_of_ne_right _ _ (by rw [Ne, show (-1 : Int32) = Int32.ofInt (-1) from rfl, i32_eq ⟨by omega, by omega⟩ ⟨by omega, by omega⟩]; omega), i32_toInt ⟨by omega, by omega⟩, i32_toInt ⟨by omega, by omega⟩]
  exact Int.tdiv_eq_ediv_of_nonneg hx.1
theorem g_idiv {x y : Int} (hX : Cx Γ X nL h cc own) (hx : 0 ≤ x ∧ x < 2147483648) (hy : 0 < y ∧ y < 2147483648) (hdg : decode cc pc = .ok (.idiv, 1)) (k : G Γ X nL Z (pc + 1) L (vI (x / y) :: st) M) : G Γ X nL Z pc L (vI y :: vI x :: st) M := by
  intro H locs ls h1 h2 h3 h4
  have k' := k H locs ls h1 h2 h3 h4
  unfold vI at k'
  rw [← i32_div hx hy] at k'
  exact lv_idiv hX.1 hX.2.1 hdg (by rw [i32_0, i32_eq ⟨by omega, by omega⟩ ⟨by omega, by omega⟩]; omega) k'
theorem g_irem {x y : Int} (hX : Cx Γ X nL h cc own) (hx : 0 ≤ x ∧ x < 2147483648) (hy : 0 < y ∧ y < 2147483648) (hdg : decode cc pc = .ok (.irem, 1)) (k : G Γ X nL Z (pc + 1) L (vI (x % y) :: st) M) : G Γ X nL Z pc L (vI y :: vI x :: st) M := by
  intro H locs ls h1 h2 h3 h4
  have k' := k H locs ls h1 h2 h3 h4
  unfold vI at k'
  have e : x % y = x - x / y * y := by rw [Int.mul_comm]; exact Int.emod_def x y
  rw [e, Int32.ofInt_sub, Int32.ofInt_mul, ← i32_div hx hy] at k'
  exact lv_irem hX.1 hX.2.1 hdg (by rw [i32_0, i32_eq ⟨by omega, by omega⟩ ⟨by omega, by omega⟩]; omega) k'
theorem g_dup {v : Value} (hX : Cx Γ X nL h cc own) (hdg : decode cc pc = .ok (.dup, 1)) (hc : v.category = 1) (k : G Γ X nL Z (pc + 1) L (v :: v :: st) M) : G Γ X nL Z pc L (v :: st) M :=
  fun H locs ls h1 h2 h3 h4 => lv_dup hX.1 hX.2.1 hdg hc (k H locs ls h1 h2 h3 h4)
theorem g_dup2 {v w : Value} (hX : Cx Γ X nL h cc own) (hdg : decode cc pc = .ok (.dup2, 1)) (hc : v.category = 1) (hd : w.category = 1) (k : G Γ X nL Z (pc + 1) L (v :: w :: v :: w :: st) M) : G Γ X nL Z pc L (v :: w :: st) M :=
  fun H locs ls h1 h2 h3 h4 => lv_dup2_11 hX.1 hX.2.1 hdg hc hd (k H locs ls h1 h2 h3 h4)
theorem g_goto {off : Int} (tgt : Nat) (hX : Cx Γ X nL h cc own) (hdg : decode cc pc = .ok (.goto off, 3)) (ht : (pc : Int) + off = (tgt : Int)) (k : G Γ X nL Z tgt L st M) : G Γ X nL Z pc L st M :=
  fun H locs ls h1 h2 h3 h4 => lv_goto hX.1 hX.2.1 hdg ht (k H locs ls h1 h2 h3 h4)
theorem g_if_eq {x off : Int} (tgt : Nat) (hX : Cx Γ X nL h cc own) (hdg : decode cc pc = .ok (.ifCond .eq off, 3)) (ht : (pc : Int) + off = (tgt : Int)) (hx : iR x) (kt : x = 0 → G Γ X nL Z tgt L st M) (kf : x ≠ 0 → G Γ X nL Z (pc + 3) L st M) : G Γ X nL Z pc L (vI x :: st) M :=
  fun H locs ls h1 h2 h3 h4 => lv_if_eq hX.1 hX.2.1 hdg ht (fun q => kt ((i32_eq hx ⟨by omega, by omega⟩).mp (by rw [q, i32_0])) H locs ls h1 h2 h3 h4) (fun q => kf (fun e => q (by rw [e, i32_0])) H locs ls h1 h2 h3 h4)
theorem g_if_ne {x off : Int} (tgt : Nat) (hX : Cx Γ X nL h cc own) (hdg : decode cc pc = .ok (.ifCond .ne off, 3)) (ht : (pc : Int) + off = (tgt : Int)) (hx : iR x) (kt : x ≠ 0 → G Γ X nL Z tgt L st M) (kf : x = 0 → G Γ X nL Z (pc + 3) L st M) : G Γ X nL Z pc L (vI x :: st) M :=
  fun H locs ls h1 h2 h3 h4 => lv_if_ne hX.1 hX.2.1 hdg ht (fun q => kt (fun e => q (by rw [e, i32_0])) H locs ls h1 h2 h3 h4) (fun q => kf ((i32_eq hx ⟨by omega, by omega⟩).mp (by rw [q, i32_0])) H locs ls h1 h2 h3 h4)
theorem g_if_lt {x off : Int} (tgt : Nat) (hX : Cx Γ X nL h cc own) (hdg : decode cc pc = .ok (.ifCond .lt off, 3)) (ht : (pc : Int) + off = (tgt : Int)) (hx : iR x) (kt : x < 0 → G Γ X nL Z tgt L st M) (kf : 0 ≤ x → G Γ X nL Z (pc + 3) L st M) : G Γ X nL Z pc L (vI x :: st) M :=
  fun H locs ls h1 h2 h3 h4 => lv_if_lt hX.1 hX.2.1 hdg ht (fun q => kt (by rw [i32_0, i32_lt hx ⟨by omega, by omega⟩] at q; exact q) H locs ls h1 h2 h3 h4) (fun q => kf (by rw [i32_0, i32_lt hx ⟨by omega, by omega⟩] at q; omega) H locs ls h1 h2 h3 h4)
theorem g_if_ge {x off : Int} (tgt : Nat) (hX : Cx Γ X nL h cc own) (hdg : decode cc pc = .ok (.ifCond .ge off, 3)) (ht : (pc : Int) + off = (tgt : Int)) (hx : iR x) (kt : 0 ≤ x → G Γ X nL Z tgt L st M) (kf : x < 0 → G Γ X nL Z (pc + 3) L st M) : G Γ X nL Z pc L (vI x :: st) M :=
  fun H locs ls h1 h2 h3 h4 => lv_if_ge hX.1 hX.2.1 hdg ht (fun q => kt (by first | (rw [i32_0, i32_le ⟨by omega, by omega⟩ hx] at q; exact q) | (rw [i32_0, i32_lt hx ⟨by omega, by omega⟩] at q; omega)) H locs ls h1 h2 h3 h4) (fun q => kf (by first | (rw [i32_0, i32_le ⟨by omega, by omega⟩ hx] at q; omega) | (rw [i32_0, i32_lt hx ⟨by omega, by omega⟩] at q; omega)) H locs ls h1 h2 h3 h4)
theorem g_if_gt {x off : Int} (tgt : Nat) (hX : Cx Γ X nL h cc own) (hdg : decode cc pc = .ok (.ifCond .gt off, 3)) (ht : (pc : Int) + off = (tgt : Int)) (hx : iR x) (kt : 0 < x → G Γ X nL Z tgt L st M) (kf : x ≤ 0 → G Γ X nL Z (pc + 3) L st M) : G Γ X nL Z pc L (vI x :: st) M :=
  fun H locs ls h1 h2 h3 h4 => lv_if_gt hX.1 hX.2.1 hdg ht (fun q => kt (by first | (rw [i32_0, i32_lt ⟨by omega, by omega⟩ hx] at q; exact q) | (rw [i32_0, i32_le hx ⟨by omega, by omega⟩] at q; omega)) H locs ls h1 h2 h3 h4) (fun q => kf (by first | (rw [i32_0, i32_lt ⟨by omega, by omega⟩ hx] at q; omega) | (rw [i32_0, i32_le hx ⟨by omega, by omega⟩] at q; omega)) H locs ls h1 h2 h3 h4)
theorem g_if_le {x off : Int} (tgt : Nat) (hX : Cx Γ X nL h cc own) (hdg : decode cc pc = .ok (.ifCond .le off, 3)) (ht : (pc : Int) + off = (tgt : Int)) (hx : iR x) (kt : x ≤ 0 → G Γ X nL Z tgt L st M) (kf : 0 < x → G Γ X nL Z (pc + 3) L st M) : G Γ X nL Z pc L (vI x :: st) M :=
  fun H locs ls h1 h2 h3 h4 => lv_if_le hX.1 hX.2.1 hdg ht (fun q => kt (by first | (rw [i32_0, i32_le hx ⟨by omega, by omega⟩] at q; omega) | (rw [i32_0, i32_lt ⟨by omega, by omega⟩ hx] at q; omega)) H locs ls h1 h2 h3 h4) (fun q => kf (by first | (rw [i32_0, i32_le hx ⟨by omega, by omega⟩] at q; omega) | (rw [i32_0, i32_lt ⟨by omega, by omega⟩ hx] at q; omega)) H locs ls h1 h2 h3 h4)
theorem g_icmp_eq {x y off : Int} (tgt : Nat) (hX : Cx Γ X nL h cc own) (hdg : decode cc pc = .ok (.if_icmp .eq off, 3)) (ht : (pc : Int) + off = (tgt : Int)) (hx : iR x) (hy : iR y) (kt : x = y → G Γ X nL Z tgt L st M) (kf : x ≠ y → G Γ X nL Z (pc + 3) L st M) : G Γ X nL Z pc L (vI y :: vI x :: st) M :=
  fun H locs ls h1 h2 h3 h4 => lv_icmp_eq hX.1 hX.2.1 hdg ht (fun q => kt ((i32_eq hx hy).mp q) H locs ls h1 h2 h3 h4) (fun q => kf (fun e => q (by rw [e])) H locs ls h1 h2 h3 h4)
theorem g_icmp_ne {x y off : Int} (tgt : Nat) (hX : Cx Γ X nL h cc own) (hdg : decode cc pc = .ok (.if_icmp .ne off, 3)) (ht : (pc : Int) + off = (tgt : Int)) (hx : iR x) (hy : iR y) (kt : x ≠ y → G Γ X nL Z tgt L st M) (kf : x = y → G Γ X nL Z (pc + 3) L st M) : G Γ X nL Z pc L (vI y :: vI x :: st) M :=
  fun H locs ls h1 h2 h3 h4 => lv_icmp_ne hX.1 hX.2.1 hdg ht (fun q => kt (fun e => q (by rw [e])) H locs ls h1 h2 h3 h4) (fun q => kf ((i32_eq hx hy).mp q) H locs ls h1 h2 h3 h4)
theorem g_icmp_lt {x y off : Int} (tgt : Nat) (hX : Cx Γ X nL h cc own) (hdg : decode cc pc = .ok (.if_icmp .lt off, 3)) (ht : (pc : Int) + off = (tgt : Int)) (hx : iR x) (hy : iR y) (kt : x < y → G Γ X nL Z tgt L st M) (kf : y ≤ x → G Γ X nL Z (pc + 3) L st M) : G Γ X nL Z pc L (vI y :: vI x :: st) M :=
  fun H locs ls h1 h2 h3 h4 => lv_icmp_lt hX.1 hX.2.1 hdg ht (fun q => kt ((i32_lt hx hy).mp q) H locs ls h1 h2 h3 h4) (fun q => kf (by rw [i32_lt hx hy] at q; omega) H locs ls h1 h2 h3 h4)
theorem g_icmp_ge {x y off : Int} (tgt : Nat) (hX : Cx Γ X nL h cc own) (hdg : decode cc pc = .ok (.if_icmp .ge off, 3)) (ht : (pc : Int) + off = (tgt : Int)) (hx : iR x) (hy : iR y) (kt : y ≤ x → G Γ X nL Z tgt L st M) (kf : x < y → G Γ X nL Z (pc + 3) L st M) : G Γ X nL Z pc L (vI y :: vI x :: st) M :=
  fun H locs ls h1 h2 h3 h4 => lv_icmp_ge hX.1 hX.2.1 hdg ht (fun q => kt (by first | exact (i32_le hy hx).mp q | (rw [i32_lt hx hy] at q; omega)) H locs ls h1 h2 h3 h4) (fun q => kf (by first | (rw [i32_lt hx hy] at q; omega) | (rw [i32_le hy hx] at q; omega)) H locs ls h1 h2 h3 h4)
theorem g_icmp_gt {x y off : Int} (tgt : Nat) (hX : Cx Γ X nL h cc own) (hdg : decode cc pc = .ok (.if_icmp .gt off, 3)) (ht : (pc : Int) + off = (tgt : Int)) (hx : iR x) (hy : iR y) (kt : y < x → G Γ X nL Z tgt L st M) (kf : x ≤ y → G Γ X nL Z (pc + 3) L st M) : G Γ X nL Z pc L (vI y :: vI x :: st) M :=
  fun H locs ls h1 h2 h3 h4 => lv_icmp_gt hX.1 hX.2.1 hdg ht (fun q => kt (by first | exact (i32_lt hy hx).mp q | (rw [i32_le hx hy] at q; omega)) H locs ls h1 h2 h3 h4) (fun q => kf (by first | (rw [i32_lt hy hx] at q; omega) | (rw [i32_le hx hy] at q; omega)) H locs ls h1 h2 h3 h4)
theorem g_icmp_le {x y off : Int} (tgt : Nat) (hX : Cx Γ X nL h cc own) (hdg : decode cc pc = .ok (.if_icmp .le off, 3)) (ht : (pc : Int) + off = (tgt : Int)) (hx : iR x) (hy : iR y) (kt : x ≤ y → G Γ X nL Z tgt L st M) (kf : y < x → G Γ X nL Z (pc + 3) L st M) : G Γ X nL Z pc L (vI y :: vI x :: st) M :=
  fun H locs ls h1 h2 h3 h4 => lv_icmp_le hX.1 hX.2.1 hdg ht (fun q => kt (by first | exact (i32_le hx hy).mp q | (rw [i32_lt hy hx] at q; omega)) H locs ls h1 h2 h3 h4) (fun q => kf (by first | (rw [i32_le hx hy] at q; omega) | (rw [i32_lt hy hx] at q; omega)) H locs ls h1 h2 h3 h4)
/-- the memory's numbers are ints -/
theorem g_rng (k : (∀ a i, iR (M a i)) → G Γ X nL Z pc L st M) : G Γ X nL Z pc L st M := fun H locs ls h1 h2 h3 h4 => k h1.2.1 H locs ls h1 h2 h3 h4
def DS (Z : ZT) (k : Nat) (q : Nat × Nat) : Prop := dsL[k]? = some q ∧ k < Z.2.1
def FL (own : String) (idx ci j : Nat) : Prop := ∃ r : vw_C, classes[ci]? = some r ∧ j < r.2.2 ∧ Cond.fieldLink own idx r.1 (r.2.1 j).2.1 (r.2.1 j).2.2.1 ∈ gT
def CF (q : vw_C) (ci : Nat) : Prop := (∀ k, k < q.2.2 → (q.2.1 k).1 = q.1) ∧ (∀ w ∈ u_ws q.1 q.2.1 q.2.2, w ∈ gT) ∧ (∀ k, k < q.2.2 → parseFieldDescriptor (q.2.1 k).2.2.1 = some ((tyL.getD ci []).getD k .int)) ∧ ∀ a, a < q.2.2 → ∀ b, b < q.2.2 → a ≠ b → (q.2.1 a).2.1 ≠ (q.2.1 b).2.1
theorem cf_ok : ∀ (ci : Nat) (q : vw_C), classes[ci]? = some q → CF q ci := by
  intro ci q hq
  match ci, hq with
  | 0, hq => cases hq; exact ⟨by decide +kernel, u_WC, by decide +kernel, by decide +kernel⟩
  | 1, hq => cases hq; exact ⟨by decide +kernel, u_State, by decide +kernel, by decide +kernel⟩
  | 2, hq => cases hq; exact ⟨by decide +kernel, u_History, by decide +kernel, by decide +kernel⟩
  | 3, hq => cases hq; exact ⟨by decide +kernel, u_Cand, by decide +kernel, by decide +kernel⟩
  | 4, hq => cases hq; exact ⟨by decide +kernel, u_Plan, by decide +kernel, by decide +kernel⟩
  | 5, hq => cases hq; exact ⟨by decide +kernel, u_Stretch, by decide +kernel, by decide +kernel⟩
  | 6, hq => cases hq; exact ⟨by decide +kernel, u_Text, by decide +kernel, by decide +kernel⟩
  | 7, hq => cases hq; exact ⟨by decide +kernel, u_Reader, by decide +kernel, by decide +kernel⟩
  | 8, hq => cases hq; exact ⟨by decide +kernel, u_Mo, by decide +kernel, by decide +kernel⟩
  | k + 9, hq => simp [classes] at hq
theorem g_get {k ci j idx : Nat} (hX : Cx Γ X nL h cc own) (hd : DS Z k (1, ci)) (hF : FL own idx ci j) (hdg : decode cc pc = .ok (.getfield idx, 3)) (kk : G Γ X nL Z (pc + 3) L (cV Γ Z.1 M ci k j :: st) M) : G Γ X nL Z pc L (.ref (gb Γ + k) :: st) M := by
  intro H locs ls h1 h2 h3 h4
  obtain ⟨q, hc, hj, hl⟩ := hF
  obtain ⟨hdec, hin, -, -⟩ := cf_ok ci q hc
  obtain ⟨r, hr, cell, q1, q2, q3, q4⟩ := (h1.2.2 k hd.2).2.1 ci hd.1
  have erq : r = q := Option.some.inj (hr.symm.trans hc)
  subst erq
  obtain ⟨hx, hb, hml, hown, hts, hlk, hV, -⟩ := hX
  obtain ⟨hS, hfc, kC, hkC, hkind⟩ := hV.1.1 ci _ hc
  obtain ⟨cf, kf, fi, f, hi, hsl⟩ := hS j hj
  have hts' : ∀ w ∈ u_ws r.1 r.2.1 r.2.2, w.before (xa X) (xs X) = true := fun w hw => hts w (hin w hw)
  refine W.getf hx hb hown (hts _ hl) (by rw [← hdec j hj]; exact hi) (u_facts hfc hkC (u_lays hts' (fun _ w => w) hj) hi).1 q1 (by rw [q3]; exact fun h => by cases h) (v := cV Γ Z.1 M ci k j) ?_ rfl rfl hdg (kk H locs ls h1 h2 h3 h4)
  rw [hsl]
  exact q4 j hj
theorem g_getI {k ci j idx : Nat} (hX : Cx Γ X nL h cc own) (hF : FL own idx ci j) (hdg : decode cc pc = .ok (.getfield idx, 3)) (jj : Int) (hd : DS Z k (1, ci)) (hjj : ((j : Nat) : Int) = jj) (hr : isR ci j = false) (kk : iR (M k jj) → G Γ X nL Z (pc + 3) L (vI (M k jj) :: st) M) : G Γ X nL Z pc L (.ref (gb Γ + k) :: st) M :=
  g_rng fun hr' => g_get hX hd hF hdg (by subst hjj; have e : cV Γ Z.1 M ci k j = vI (M k j) := by (unfold cV; rw [hr]; rfl)
                                          rw [e]; exact kk (hr' _ _))
theorem g_getR {k ci j idx k' : Nat} (hX : Cx Γ X nL h cc own) (hF : FL own idx ci j) (hdg : decode cc pc = .ok (.getfield idx, 3)) (hd : DS Z k (1, ci)) (hk : Z.1 k j = some k') (hr : isR ci j = true) (kk : G Γ X nL Z (pc + 3) L (.ref (gb Γ + k') :: st) M) : G Γ X nL Z pc L (.ref (gb Γ + k) :: st) M :=
  g_get hX hd hF hdg (by have e : cV Γ Z.1 M ci k j = .ref (gb Γ + k') := by (unfold cV; rw [hr, hk]; rfl)
                         rw [e]; exact kk)
theorem cE_other {R : mR} {M M' : mI} {H H' : Heap} {k : Nat} (hE : cE Γ R M H k) (hM : M' k = M k) (hH : H'[gb Γ + k]? = H[gb Γ + k]?) : cE Γ R M' H' k := by
  refine ⟨fun n hn => ?_, fun ci hc => ?_, fun n hn => ?_⟩
  · rw [hH, hM]; exact hE.1 n hn
  · obtain ⟨r, h1, h2⟩ := hE.2.1 ci hc
    refine ⟨r, h1, ?_⟩
    have e : cV Γ R M' ci k = cV Γ R M ci k := by funext j; unfold cV; rw [hM]
    rw [e]
    exact h2.kept hH
  · rw [hH]; exact hE.2.2 n hn
theorem Hp_put {R : mR} {K : Nat} {M : mI} {H H' : Heap} {k : Nat} {j v : Int} (h1 : Hp Γ R K M H) (hv : iR v) (hsz : H'.size = H.size) (oq : ∀ q, q ≠ gb Γ + k → H'[q]? = H[q]?) (hE : cE Γ R (mU M k j v) H' k) : Hp Γ R K (mU M k j v) H' := by
  refine ⟨by rw [hsz]; exact h1.1, iR_mU h1.2.1 hv, fun a ha => ?_⟩
  by_cases hk : a = k
  · subst hk; exact hE
  · exact cE_other (h1.2.2 a ha) (mU_cell hk) (oq _ (by omega))
theorem loc_put {locs : List Loc} {k : Nat} {i : Nat} (h3 : ∀ q ∈ locs, gb Γ ≤ q.base) : ∀ q ∈ locs ++ [⟨gb Γ + k, i⟩], gb Γ ≤ q.base := by
  intro q hq
  rcases List.mem_append.mp hq with h | h
  · exact h3 q h
  · rw [List.mem_singleton.mp h]
    exact Nat.le_add_right _ _
theorem g_put {k ci j idx : Nat} {x jj : Int} (hX : Cx Γ X nL h cc own) (hF : FL own idx ci j) (hdg : decode cc pc = .ok (.putfield idx, 3)) (hd : DS Z k (1, ci)) (hjj : ((j : Nat) : Int) = jj) (hr : isR ci j = false) (hfin : ∀ q : vw_C, classes[ci]? = some q → (q.2.1 j).2.2.2 = false) {ty : FieldType} (hty : (tyL.getD ci []).getD j .int = ty) (hn : narrow ty (vI x) = vI x) (hfit : fits ty (vI x) = true) (hv : iR x) (kk : G Γ X nL Z (pc + 3) L st (mU M k jj x)) : G Γ X nL Z pc L (vI x :: .ref (gb Γ + k) :: st) M := by
  intro H locs ls h1 h2 h3 h4
  subst hjj
  obtain ⟨q, hc, hj, hl⟩ := hF
  obtain ⟨hdec, hin, hpd, hnm⟩ := cf_ok ci q hc
  obtain ⟨r, hr', cell, q1, q2, q3, q4⟩ := (h1.2.2 k hd.2).2.1 ci hd.1
  have erq : r = q := Option.some.inj (hr'.symm.trans hc)
  subst erq
  obtain ⟨hx, hb, hml, hown, hts, hlk, hV, -⟩ := hX
  have hts' : ∀ w ∈ u_ws r.1 r.2.1 r.2.2, w.before (xa X) (xs X) = true := fun w hw => hts w (hin w hw)
  have hap := va_apart (own := own) hts' (fun _ w => w) (fun k => (tyL.getD ci []).getD k .int) hpd hnm hV.1 hc
  obtain ⟨hS, hfc, kC, hkC, hkind⟩ := hV.1.1 ci _ hc
  obtain ⟨cf, kf, fi, f, hi, hsl⟩ := hS j hj
  have hlay := hts' _ (u_in_lay hj)
  unfold u_lay at hlay
  rw [if_neg (by rw [hfin r hc]; decide)] at hlay
  have hst := (u_facts hfc hkC (u_lays hts' (fun _ w => w) hj) hi).1
  have h6 := u_store hfc hkC hkind hlay hi (hpd j hj) (by rw [hty]; exact hn) (by rw [hty]; exact hfit)
  refine W.putK hx hb (f := f) ⟨hown, hts _ hl, ⟨_, _, _, by rw [← hdec j hj]; exact hi⟩, hst⟩ (by rw [q2]; exact h6) q1 q3 (by rw [hsl]; exact k2_hasslot (q4 j hj)) rfl rfl hdg fun H' e1 e2 e3 => ?_
  rw [hsl] at e1 ⊢
  refine kk H' _ ls (Hp_put h1 hv e2 e3 ⟨fun n hn' => ?_, fun ci' hc' => ?_, fun n hn' => ?_⟩) (fun q hq => by rw [e3 q (Nat.ne_of_lt (Nat.lt_of_lt_of_le hq (Nat.le_add_right _ _)))]; exact h2 q hq) (loc_put h3) h4
  · cases hd.1.symm.trans hn'
  · cases hd.1.symm.trans hc'
    refine ⟨_, hc, t_OB.to (V := updV (cV Γ Z.1 M ci k) j (vI x)) ⟨_, e1, q2, q3, t_set q4 hap hj (vI x)⟩ (fun i hi => ?_)⟩
    unfold updV cV
    by_cases hij : i = j
    · subst hij
      rw [if_pos rfl, hr]
      rw [if_neg (by decide), mU_self]
    · rw [if_neg hij, mU_slot (by omega)]
  · cases hd.1.symm.trans hn'
theorem g_putI {k ci j idx : Nat} {x : Int} (hX : Cx Γ X nL h cc own) (hF : FL own idx ci j) (hdg : decode cc pc = .ok (.putfield idx, 3)) (jj : Int) (hd : DS Z k (1, ci)) (hjj : ((j : Nat) : Int) = jj) (hr : isR ci j = false) (hfin : ∀ q : vw_C, classes[ci]? = some q → (q.2.1 j).2.2.2 = false) (hty : (tyL.getD ci []).getD j .int = .int) (hv : iR x) (kk : G Γ X nL Z (pc + 3) L st (mU M k jj x)) : G Γ X nL Z pc L (vI x :: .ref (gb Γ + k) :: st) M :=
  g_put hX hF hdg hd hjj hr hfin hty rfl rfl hv kk
theorem g_putZ {k ci j idx : Nat} {x : Int} (hX : Cx Γ X nL h cc own) (hF : FL own idx ci j) (hdg : decode cc pc = .ok (.putfield idx, 3)) (jj : Int) (hd : DS Z k (1, ci)) (hjj : ((j : Nat) : Int) = jj) (hr : isR ci j = false) (hfin : ∀ q : vw_C, classes[ci]? = some q → (q.2.1 j).2.2.2 = false) (hty : (tyL.getD ci []).getD j .int = .boolean) (hv : x = 0 ∨ x = 1) (kk : G Γ X nL Z (pc + 3) L st (mU M k jj x)) : G Γ X nL Z pc L (vI x :: .ref (gb Γ + k) :: st) M :=
  g_put hX hF hdg hd hjj hr hfin hty (by rcases hv with rfl | rfl <;> rfl) (by rcases hv with rfl | rfl <;> rfl) (by omega) kk
theorem ds_small : ∀ k n : Nat, dsL[k]? = some (0, n) → n < 2147483648 := by
  intro k n hk
  have h : ∀ q ∈ dsL, q.2 < 2147483648 := by decide +kernel
  exact h _ (List.mem_of_getElem? hk)
theorem g_iald {k n : Nat} {i : Int} (hX : Cx Γ X nL h cc own) (hdg : decode cc pc = .ok (.iaload, 1)) (hd : DS Z k (0, n)) (hi : 0 ≤ i ∧ i < n) (kk : iR (M k i) → G Γ X nL Z (pc + 1) L (vI (M k i) :: st) M) : G Γ X nL Z pc L (vI i :: .ref (gb Γ + k) :: st) M := by
  intro H locs ls h1 h2 h3 h4
  have hn := ds_small k n hd.1
  have hE := (h1.2.2 k hd.2).1 n hd.1
  have hj : i.toNat < n := by omega
  have hz : ((i.toNat : Nat) : Int) = i := by omega
  obtain ⟨hx, hb, hml, hown, hts, hlk, hV, -⟩ := hX
  have hcl := i32_clamp hi.1 (show i < 2147483648 by omega)
  refine W.iald (v := vI (M k i)) hx hb hE ((hV.1.2 0 _ rfl).1 n (fun j => vI (M k j))) (fun q => by cases q) (by rw [arrV_size]; exact i32_in hi.1 hi.2 hn) (by rw [hcl, arrV_read _ _ hj, hz]) rfl rfl hdg (kk (h1.2.1 k i) H locs ls h1 h2 h3 h4)
theorem g_iast {k n : Nat} {i x : Int} (hX : Cx Γ X nL h cc own) (hdg : decode cc pc = .ok (.iastore, 1)) (hd : DS Z k (0, n)) (hi : 0 ≤ i ∧ i < n) (hv : iR x) (kk : G Γ X nL Z (pc + 1) L st (mU M k i x)) : G Γ X nL Z pc L (vI x :: vI i :: .ref (gb Γ + k) :: st) M := by
  intro H locs ls h1 h2 h3 h4
  have hn := ds_small k n hd.1
  have hE := (h1.2.2 k hd.2).1 n hd.1
  have hj : i.toNat < n := by omega
  have hz : ((i.toNat : Nat) : Int) = i := by omega
  obtain ⟨hx, hb, hml, hown, hts, hlk, hV, -⟩ := hX
  have hcl := i32_clamp hi.1 (show i < 2147483648 by omega)
  refine W.iast hx hb hE ((hV.1.2 0 _ rfl).1 n (fun j => vI (M k j))) (fun q => by cases q) (by rw [arrV_size]; exact i32_in hi.1 hi.2 hn) rfl rfl hdg fun H' e1 e2 e3 => ?_
  refine kk H' _ ls (Hp_put h1 hv e2 e3 ⟨fun n' hn' => ?_, fun ci' hc' => ?_, fun n' hn' => ?_⟩) (fun q hq => by rw [e3 q (Nat.ne_of_lt (Nat.lt_of_lt_of_le hq (Nat.le_add_right _ _)))]; exact h2 q hq) (loc_put h3) h4
  · cases hd.1.symm.trans hn'
    rw [e1, hcl, arrV_store]
    congr 2
    funext j
    unfold updV
    by_cases hij : j = i.toNat
    · subst hij
      rw [if_pos rfl, hz, mU_self]
      rfl
    · rw [if_neg hij, mU_slot (by omega)]
  · cases hd.1.symm.trans hc'
  · cases hd.1.symm.trans hn'
theorem g_alen {k n : Nat} (hX : Cx Γ X nL h cc own) (hdg : decode cc pc = .ok (.arraylength, 1)) (hd : DS Z k (0, n)) (kk : G Γ X nL Z (pc + 1) L (vI n :: st) M) : G Γ X nL Z pc L (.ref (gb Γ + k) :: st) M := by
  intro H locs ls h1 h2 h3 h4
  have hE := (h1.2.2 k hd.2).1 n hd.1
  obtain ⟨hx, hb, hml, hown, hts, hlk, hV, -⟩ := hX
  exact W.alen (n := Int32.ofInt n) hx hb hE ((hV.1.2 0 _ rfl).1 n (fun j => vI (M k j))) (by rw [arrV_size]; rfl) rfl rfl hdg (kk H locs ls h1 h2 h3 h4)
theorem g_alenS {k n : Nat} (hX : Cx Γ X nL h cc own) (hdg : decode cc pc = .ok (.arraylength, 1)) (hd : DS Z k (2, n)) (kk : G Γ X nL Z (pc + 1) L (vI n :: st) M) : G Γ X nL Z pc L (.ref (gb Γ + k) :: st) M := by
  intro H locs ls h1 h2 h3 h4
  have hE := (h1.2.2 k hd.2).2.2 n hd.1
  obtain ⟨hx, hb, hml, hown, hts, hlk, hV, -⟩ := hX
  exact W.alen (n := Int32.ofInt n) hx hb hE ((hV.1.2 1 _ rfl).1 n (fun j => rV (gb Γ) (Z.1 k j))) (by rw [arrV_size]; rfl) rfl rfl hdg (kk H locs ls h1 h2 h3 h4)
theorem ds_small2 : ∀ k n : Nat, dsL[k]? = some (2, n) → n < 2147483648 := by
  intro k n hk
  have h : ∀ q ∈ dsL, q.2 < 2147483648 := by decide +kernel
  exact h _ (List.mem_of_getElem? hk)
theorem g_aald {k n k' : Nat} {i : Int} (hX : Cx Γ X nL h cc own) (hdg : decode cc pc = .ok (.aaload, 1)) (hd : DS Z k (2, n)) (hi : 0 ≤ i ∧ i < n) (hr : Z.1 k i.toNat = some k') (kk : G Γ X nL Z (pc + 1) L (.ref (gb Γ + k') :: st) M) : G Γ X nL Z pc L (vI i :: .ref (gb Γ + k) :: st) M := by
  intro H locs ls h1 h2 h3 h4
  have hn := ds_small2 k n hd.1
  have hE := (h1.2.2 k hd.2).2.2 n hd.1
  have hj : i.toNat < n := by omega
  obtain ⟨hx, hb, hml, hown, hts, hlk, hV, -⟩ := hX
  have hcl := i32_clamp hi.1 (show i < 2147483648 by omega)
  exact W.aald (v := .ref (gb Γ + k')) (ty := .object "WindowCopies$State") hx hb hE ((hV.1.2 1 _ rfl).1 n (fun j => rV (gb Γ) (Z.1 k j))) rfl (fun q => by cases q) (by rw [arrV_size]; exact i32_in hi.1 hi.2 hn) (by rw [hcl, arrV_read _ _ hj, hr]; rfl) rfl rfl hdg (kk H locs ls h1 h2 h3 h4)
theorem g_null (hX : Cx Γ X nL h cc own) (hdg : decode cc pc = .ok (.aconst_null, 1)) (k : G Γ X nL Z (pc + 1) L (.null :: st) M) : G Γ X nL Z pc L st M :=
  fun H locs ls h1 h2 h3 h4 => lv_null hX.1 hX.2.1 hdg (k H locs ls h1 h2 h3 h4)
theorem g_ifnull {a : Nat} {off : Int} (hX : Cx Γ X nL h cc own) (hdg : decode cc pc = .ok (.ifnull off, 3)) (k : G Γ X nL Z (pc + 3) L st M) : G Γ X nL Z pc L (.ref a :: st) M :=
  fun H locs ls h1 h2 h3 h4 => lv_ifnull hX.1 hX.2.1 hdg (k H locs ls h1 h2 h3 h4)
theorem g_ifnullN {off : Int} (tgt : Nat) (hX : Cx Γ X nL h cc own) (hdg : decode cc pc = .ok (.ifnull off, 3)) (ht : (pc : Int) + off = (tgt : Int)) (k : G Γ X nL Z tgt L st M) : G Γ X nL Z pc L (.null :: st) M :=
  fun H locs ls h1 h2 h3 h4 => lv_ifnullN hX.1 hX.2.1 hdg ht (k H locs ls h1 h2 h3 h4)
end GR
end
section
/-! contracts over the memory, calls, ends -/
abbrev yT : Type := MethodName × ByteArray × Nat × Option FieldType × Nat × Nat
def rmh (h : Nat) : Room := { frames := h, cells := 0, slots := 0, locals := 40 * h }
def PN (Γ : gX) (R : mR) (K : Nat) (av : List Value) (M : mI) : Array Value → State → Prop := fun v U => v = av.toArray ∧ Hp Γ R K M U.heap ∧ Vf Γ U
def QN (Γ : gX) (R : mR) (K : Nat) (P : Option Value → mI → Prop) : Array Value → State → Outcome → State → Prop := fun _ st o t => ∃ (v : Option Value) (M' : mI), o = .returned v ∧ P v M' ∧ Hp Γ R K M' t.heap ∧ ∀ q, q < gb Γ → t.heap[q]? = st.heap[q]?
/-- what method i does: from the memory M with the arguments av it returns, and P says of its answer and the memory behind it -/
def Cn (Γ : gX) (l : Launch) (i : yT) (R : mR) (K : Nat) (av : List Value) (M : mI) (P : Option Value → mI → Prop) : Prop := Met l i.1 (.code i.1 i.2.1 i.2.2.1 i.2.2.2.1 :: gT) (rmh i.2.2.2.2.2) (PN Γ R K av M) (QN Γ R K P) 0 0 (fun q => gb Γ ≤ q)
def pI (P : Int → mI → Prop) : Option Value → mI → Prop := fun v M' => ∃ r : Int, v = some (vI r) ∧ iR r ∧ P r M'
def pV (P : mI → Prop) : Option Value → mI → Prop := fun v M' => v = none ∧ P M'
def pR (Γ : gX) (P : Nat → mI → Prop) : Option Value → mI → Prop := fun v M' => ∃ o : Nat, v = some (.ref (gb Γ + o)) ∧ P o M'
def Ym (i : yT) : Prop := Cond.code i.1 i.2.1 i.2.2.1 i.2.2.2.1 ∈ gT ∧ Cond.initialized i.1.cls ∈ gT ∧ (i.1.cls ≠ "java/lang/invoke/MethodHandle" ∧ i.1.cls ≠ "java/lang/invoke/VarHandle" ∧ (parseMethodDescriptor i.1.desc).map (fun d => d.parameters.length) = some i.2.2.2.2.1) ∧ plainName i.1.cls = true ∧ i.2.2.1 ≤ 21
def Yv (i : yT) : Prop := Ym i ∧ Cond.instanceMethod i.1 ∈ gT ∧ Cond.selects i.1.cls i.1 i.1 ∈ gT
def Ys (i : yT) : Prop := Ym i ∧ Cond.static i.1 ∈ gT
def Rt (Γ : gX) (X : XT) (R : mR) (K : Nat) (ret : Option FieldType) (P : Option Value → mI → Prop) : Prop := xQ X = MQ (xw X) (QN Γ R K P) (xa X) (xs X) 0 0 (fun q => gb Γ ≤ q) ∧ (xt X).sig.returnType = ret
theorem gT_sub {i : yT} (hy : Ym i) : ∀ w ∈ (Cond.code i.1 i.2.1 i.2.2.1 i.2.2.2.1 :: gT), w ∈ gT := by
  intro w hw
  rcases List.mem_cons.mp hw with rfl | hw
  · exact hy.1
  · exact hw
theorem gT_goodIn {i : yT} (hy : Ym i) : GoodIn gT (Cond.code i.1 i.2.1 i.2.2.1 i.2.2.2.1 :: gT) := fun w hw => ⟨gT_sub hy w hw, gT_good (gT_sub hy w hw)⟩
theorem cn_intro {Γ : gX} {l : Launch} {i : yT} {R : mR} {K : Nat} {av : List Value} {M : mI} {P : Option Value → mI → Prop} {L : List (Option Value)} (hy : Ym i) (hc : av.all (fun v => v.category == 1) = true) (hn : av.length ≤ i.2.2.1) (hL : av.map some ++ List.replicate (i.2.2.1 - av.length) none = L)
    (body : ∀ X : XT, Cx Γ X i.2.2.1 i.2.2.2.2.2 i.2.1 i.1.cls → Rt Γ X R K i.2.2.2.1 P → G Γ X i.2.2.1 (R, K, 0, 0) 0 L [] M) : Cn Γ l i R K av M P := by
  refine Met.ofW (cc := i.2.1) (maxL := i.2.2.1) (ret := i.2.2.2.1) hy.2.2.2.1 rfl ?_
  intro p e s m args below meth c s₁ B hml hv
  obtain ⟨rfl, hH, hV⟩ := hv
  have hts := atoms_spec (ws := Cond.code i.1 i.2.1 i.2.2.1 i.2.2.2.1 :: gT) B.pre
  have hown : s.vm.findClass i.1.cls = some m.cls := findClass_of_methodNamed B.named
  have g := body (p, l, e, (headSpec (Cond.code i.1 i.2.1 i.2.2.1 i.2.2.2.1 :: gT) (rmh i.2.2.2.2.2)).room, s, m, av.toArray, below, meth, c, MQ below (QN Γ R K P) av.toArray s 0 0 (fun q => gb Γ ≤ q))
    ⟨B.exec, B.bytes, hml, hown, fun w hw => hts w (List.mem_cons_of_mem _ hw), B.notSynchronized, hV, Nat.le_refl _, Nat.le_refl _⟩ ⟨rfl, B.returns⟩
  rw [lg_entry_eq]
  have hl := lh_entry av i.2.2.1 (fun v hv => by simpa using List.all_eq_true.mp hc v hv) hn
  rw [hL] at hl
  exact g s.heap [] _ hH (fun _ _ => rfl) (fun _ h => by cases h) hl
theorem PN_blind {Γ : gX} {R : mR} {K : Nat} {av : List Value} {M : mI} : FrameBlind (PN Γ R K av M) := fun a U g mk h => ⟨h.1, h.2.1, h.2.2.same rfl rfl⟩
section GC
variable {Γ : gX} {X : XT} {nL h : Nat} {Z : ZT} {pc : Nat} {L : List (Option Value)} {st0 rest : List Value} {M : mI} {cc : ByteArray} {own : String} {P : Option Value → mI → Prop} {i : yT} {As : List Value}
theorem g_run {a : Array Value} (hrun : ∀ (H : Heap) (locs : List Loc) (ls : Array Slot), Hp Γ Z.1 Z.2.1 M H → (∀ q, q < gb Γ → H[q]? = (xs X).heap[q]?) → lh ls nL L → va_Run (xp X) (xl X) (xe X) (xR X) (xs X) (xm X) (xa X) (xw X) (xt X) (xc X) H locs Z.2.2.1 Z.2.2.2 0 0 (F0 (xm X) pc ls st0) rest (QN Γ Z.1 Z.2.1 P a) (fun q => gb Γ ≤ q))
    (kk : ∀ (v : Option Value) (M' : mI), P v M' → G Γ X nL Z (pc + 3) L (v.toList ++ rest) M') : G Γ X nL Z pc L st0 M := by
  intro H locs ls h1 h2 h3 h4 T hT Y
  obtain ⟨v, st₀, t, T', locs', h0, Y', hL, e1, e2, ⟨v', M', hv, hP, hH, hF⟩, stp⟩ := hrun H locs ls h1 h2 h4 T hT Y
  cases hv
  obtain ⟨t2, a1, b1⟩ := kk v M' hP T'.heap (locs ++ locs') ls (by rw [e1]; exact hH) (fun q hq => by rw [e1, hF q hq, h0]; exact h2 q hq) (fun q hq => by
    rcases List.mem_append.mp hq with h | h
    · exact h3 q h
    · exact hL q h) h4 T' rfl Y'
  exact ⟨t2, stp t2 a1, b1⟩
theorem pay_gT (hX : Cx Γ X nL h cc own) (hy : Ym i) : ∀ w ∈ (Cond.code i.1 i.2.1 i.2.2.1 i.2.2.2.1 :: gT), ∀ (a' : Array Value) (U : State), (xs X).WarmedH U.vm → w.before a' U = true := pay_in hX.2.2.2.2.1 (gT_goodIn hy)
theorem callB_g (hX : Cx Γ X nL h cc own) (hy : Ym i) {idx : Nat} (hl : Cond.methodLink own idx i.1 ∈ gT) (hh : i.2.2.2.2.2 < h) : CallB (xR X) (xs X) (xa X) own idx i.1 i.2.1 i.2.2.1 i.2.2.2.1 (Cond.code i.1 i.2.1 i.2.2.1 i.2.2.2.1 :: gT) (rmh i.2.2.2.2.2) 0 0 i.2.2.2.2.1 := by
  obtain ⟨hx, hb, hml, hown, hts, hlk, hV, hf, hlo⟩ := hX
  obtain ⟨y1, y2, ⟨y3, y4, y5⟩, y6, y7⟩ := hy
  refine ⟨rfl, rfl, by show i.2.2.2.2.2 + 1 ≤ _; omega, by show 8 + (i.2.2.1 + 11) + 40 * i.2.2.2.2.2 ≤ _; omega, pay_in hts (gT_goodIn ⟨y1, y2, ⟨y3, y4, y5⟩, y6, y7⟩), List.mem_cons_self, hts _ y1, hts _ y2, ⟨y3, y4⟩, fun sig hs => ?_, hts _ hl⟩
  rw [hs] at y5
  exact (Option.some.inj y5).symm
theorem Hp_recv {R : mR} {K : Nat} {H : Heap} {k ci : Nat} {q : vw_C} {s : State} (h1 : Hp Γ R K M H) (hk : k < K) (hd : dsL[k]? = some (1, ci)) (hc : classes[ci]? = some q) (hV : Vf Γ s) : ∃ cell : Cell, H[gb Γ + k]? = some cell ∧ cell.vm.isStatics = false ∧ s.vm.findClass q.1 = some cell.cls := by
  obtain ⟨r, hr, cell, q1, q2, q3, q4⟩ := (h1.2.2 k hk).2.1 ci hd
  exact ⟨cell, q1, by rw [q3]; rfl, by rw [q2]; exact (hV.1.1 ci q hc).2.1⟩
theorem g_callV {k ci idx : Nat} (hX : Cx Γ X nL h cc own) (hy : Yv i) (hl : Cond.methodLink own idx i.1 ∈ gT) (hdg : decode cc pc = .ok (.invokevirtual idx, 3)) (hc : Cn Γ (xl X) i Z.1 Z.2.1 (.ref (gb Γ + k) :: As) M P) (hst : st0 = As.reverse ++ .ref (gb Γ + k) :: rest) (hlen : As.length = i.2.2.2.2.1) (hd : DS Z k (1, ci)) (hcn : (classes[ci]?).map (fun q => q.1) = some i.1.cls) (hh : i.2.2.2.2.2 < h) (hroom : (rest.map fun v => v.category).sum ≤ 8) (hz : Z.2.2.1 ≤ (xR X).cells ∧ Z.2.2.2 ≤ (xR X).slots)
    (kk : ∀ (v : Option Value) (M' : mI), P v M' → G Γ X nL Z (pc + 3) L (v.toList ++ rest) M') : G Γ X nL Z pc L st0 M := by
  refine g_run (a := (Value.ref (gb Γ + k) :: As).toArray) (fun H locs ls h1 h2 h4 => ?_) kk
  obtain ⟨hx, hb, hml, hown, hts, hlk, hV, hf, hlo⟩ := id hX
  cases hq : classes[ci]? with
  | none => rw [hq] at hcn; cases hcn
  | some q =>
    rw [hq] at hcn
    have hcn' : q.1 = i.1.cls := Option.some.inj hcn
    refine va_runV (C := i.1.cls) (As := As) (rest := rest) ⟨hx, hb, hml, hown, hts⟩ hc ⟨callB_g hX hy.1 hl hh, hts _ hy.2.1, hts _ hy.2.2⟩ ⟨PN_blind, ?_, fun U hU hW => ⟨rfl, by rw [hU]; exact h1, hV.moved hW (fun q hq => by rw [hU]; exact h2 q hq)⟩⟩ rfl hlen h4.1 hst (lv_room hroom) hdg ⟨hz.1, hz.2⟩
    rw [← hcn']
    exact Hp_recv h1 hd.2 hd.1 hq hV
theorem g_callS {idx : Nat} (hX : Cx Γ X nL h cc own) (hy : Ys i) (hl : Cond.methodLink own idx i.1 ∈ gT) (hdg : decode cc pc = .ok (.invokestatic idx, 3)) (hc : Cn Γ (xl X) i Z.1 Z.2.1 As M P) (hst : st0 = As.reverse ++ rest) (hlen : As.length = i.2.2.2.2.1) (hh : i.2.2.2.2.2 < h) (hroom : (rest.map fun v => v.category).sum ≤ 8) (hz : Z.2.2.1 ≤ (xR X).cells ∧ Z.2.2.2 ≤ (xR X).slots)
    (kk : ∀ (v : Option Value) (M' : mI), P v M' → G Γ X nL Z (pc + 3) L (v.toList ++ rest) M') : G Γ X nL Z pc L st0 M := by
  refine g_run (a := As.toArray) (fun H locs ls h1 h2 h4 => ?_) kk
  obtain ⟨hx, hb, hml, hown, hts, hlk, hV, hf, hlo⟩ := id hX
  exact va_runS (As := As) (rest := rest) ⟨hx, hb, hml, hown, hts⟩ hc ⟨callB_g hX hy.1 hl hh, hts _ hy.2⟩ ⟨PN_blind, fun U hU hW => ⟨rfl, by rw [hU]; exact h1, hV.moved hW (fun q hq => by rw [hU]; exact h2 q hq)⟩⟩ rfl hlen h4.1 hst (lv_room hroom) hdg ⟨hz.1, hz.2⟩
theorem g_callSN {idx : Nat} {host : String} (hX : Cx Γ X nL h cc own) (hy : Ys i) (hl : Cond.methodLinkNest own idx i.1 host ∈ nestWs) (hdg : decode cc pc = .ok (.invokestatic idx, 3)) (hc : Cn Γ (xl X) i Z.1 Z.2.1 As M P) (hst : st0 = As.reverse ++ rest) (hlen : As.length = i.2.2.2.2.1) (hh : i.2.2.2.2.2 < h) (hroom : (rest.map fun v => v.category).sum ≤ 8) (hz : Z.2.2.1 ≤ (xR X).cells ∧ Z.2.2.2 ≤ (xR X).slots)
    (kk : ∀ (v : Option Value) (M' : mI), P v M' → G Γ X nL Z (pc + 3) L (v.toList ++ rest) M') : G Γ X nL Z pc L st0 M := by
  refine g_run (a := As.toArray) (fun H locs ls h1 h2 h4 => ?_) kk
  obtain ⟨hx, hb, hml, hown, hts, hlk, hV, hf, hlo⟩ := id hX
  obtain ⟨y1, y2, ⟨y3, y4, y5⟩, y6, y7⟩ := id hy.1
  refine va_runSN (host := host) (As := As) (rest := rest) ⟨hx, hb, hml, hown, hts⟩ hc ⟨⟨⟨rfl, rfl, by show i.2.2.2.2.2 + 1 ≤ _; omega, by show 8 + (i.2.2.1 + 11) + 40 * i.2.2.2.2.2 ≤ _; omega, pay_gT hX hy.1, List.mem_cons_self⟩, hts _ y1, hts _ y2, ⟨y3, y4⟩, fun sig hs => ?_, va_Nw.use rfl (hV.2.1 _ hl)⟩, hts _ hy.2, trivial⟩ ⟨PN_blind, fun U hU hW => ⟨rfl, by rw [hU]; exact h1, hV.moved hW (fun q hq => by rw [hU]; exact h2 q hq)⟩⟩ rfl hlen h4.1 hst (lv_room hroom) hdg ⟨hz.1, hz.2⟩
  rw [hs] at y5
  exact (Option.some.inj y5).symm
theorem k_int {P : Int → mI → Prop} (kk : ∀ (r : Int) (M' : mI), iR r → P r M' → G Γ X nL Z pc L (vI r :: rest) M') : ∀ (v : Option Value) (M' : mI), pI P v M' → G Γ X nL Z pc L (v.toList ++ rest) M' := by
  rintro v M' ⟨r, rfl, hr, hp⟩
  exact kk r M' hr hp
theorem k_void {P : mI → Prop} (kk : ∀ (M' : mI), P M' → G Γ X nL Z pc L rest M') : ∀ (v : Option Value) (M' : mI), pV P v M' → G Γ X nL Z pc L (v.toList ++ rest) M' := by
  rintro v M' ⟨rfl, hp⟩
  exact kk M' hp
theorem k_ref {P : Nat → mI → Prop} (kk : ∀ (o : Nat) (M' : mI), P o M' → G Γ X nL Z pc L (.ref (gb Γ + o) :: rest) M') : ∀ (v : Option Value) (M' : mI), pR Γ P v M' → G Γ X nL Z pc L (v.toList ++ rest) M' := by
  rintro v M' ⟨o, rfl, hp⟩
  exact kk o M' hp
theorem g_iret {R : mR} {K : Nat} {P : Int → mI → Prop} {r : Int} (hX : Cx Γ X nL h cc own) (hR : Rt Γ X R K (some .int) (pI P)) (hdg : decode cc pc = .ok (.ireturn, 1)) (hr : iR r) (hP : P r M) : G Γ X nL (R, K, 0, 0) pc L [vI r] M := by
  intro H locs ls h1 h2 h3 h4
  rw [hR.1]
  exact W.iret hX.1 hX.2.1 hR.2 (fun t ht hW => ⟨_, M, rfl, ⟨r, rfl, hr, hP⟩, by rw [ht]; exact h1, fun q hq => by rw [ht]; exact h2 q hq⟩) h3 hdg hX.2.2.2.2.2.1
theorem g_zret {R : mR} {K : Nat} {P : Int → mI → Prop} {r : Int} (hX : Cx Γ X nL h cc own) (hR : Rt Γ X R K (some .boolean) (pI P)) (hdg : decode cc pc = .ok (.ireturn, 1)) (hr : r = 0 ∨ r = 1) (hP : P r M) : G Γ X nL (R, K, 0, 0) pc L [vI r] M := by
  intro H locs ls h1 h2 h3 h4
  rw [hR.1]
  exact W.zret hX.1 hX.2.1 hR.2 (by rcases hr with rfl | rfl <;> rfl) (fun t ht hW => ⟨_, M, rfl, ⟨r, rfl, by omega, hP⟩, by rw [ht]; exact h1, fun q hq => by rw [ht]; exact h2 q hq⟩) h3 hdg hX.2.2.2.2.2.1
theorem g_vret {R : mR} {K : Nat} {P : mI → Prop} (hX : Cx Γ X nL h cc own) (hR : Rt Γ X R K none (pV P)) (hdg : decode cc pc = .ok (.return_, 1)) (hP : P M) : G Γ X nL (R, K, 0, 0) pc L [] M := by
  intro H locs ls h1 h2 h3 h4
  rw [hR.1]
  exact W.vret hX.1 hX.2.1 hR.2 (fun t ht hW => ⟨_, M, rfl, ⟨rfl, hP⟩, by rw [ht]; exact h1, fun q hq => by rw [ht]; exact h2 q hq⟩) h3 hdg hX.2.2.2.2.2.1
theorem g_aret {R : mR} {K : Nat} {P : Nat → mI → Prop} {o : Nat} {n : String} (hX : Cx Γ X nL h cc own) (hR : Rt Γ X R K (some (.object n)) (pR Γ P)) (hdg : decode cc pc = .ok (.areturn, 1)) (hP : P o M) : G Γ X nL (R, K, 0, 0) pc L [.ref (gb Γ + o)] M := by
  intro H locs ls h1 h2 h3 h4
  rw [hR.1]
  exact W.aret hX.1 hX.2.1 hR.2 (Or.inl ⟨n, rfl⟩) (Or.inr ⟨_, rfl⟩) (fun t ht hW => ⟨_, M, rfl, ⟨o, rfl, hP⟩, by rw [ht]; exact h1, fun q hq => by rw [ht]; exact h2 q hq⟩) h3 hdg hX.2.2.2.2.2.1
end GC
/-! Math.max, Math.min; the static rows -/
section GM
variable {Γ : gX} {X : XT} {nL h : Nat} {Z : ZT} {pc : Nat} {L : List (Option Value)} {st : List Value} {M : mI} {cc : ByteArray} {own : String}
theorem g_max {x y : Int} {idx : Nat} (hX : Cx Γ X nL h cc own) (hdg : decode cc pc = .ok (.invokestatic idx, 3)) (hl : Cond.methodLink own idx ⟨"java/lang/Math", "max", "(II)I"⟩ ∈ gT) (hx : iR x) (hy : iR y) (hh : 0 < h) (hroom : (st.map fun v => v.category).sum ≤ 8) (hz : Z.2.2.1 ≤ (xR X).cells ∧ Z.2.2.2 ≤ (xR X).slots) (kk : G Γ X nL Z (pc + 3) L (vI (max x y) :: st) M) : G Γ X nL Z pc L (vI y :: vI x :: st) M := by
  intro H locs ls h1 h2 h3 h4
  obtain ⟨q1, q2, hml, hown, hts, hlk, hV, hf, hlo⟩ := hX
  refine va_mmax q1 q2 (by rw [hml, h4.1]) hown (hts _ hl) (hts _ q_276) (hts _ q_10) (hts _ (gT_t 277 rfl rfl)) (by omega) (by omega) hz.1 hz.2 hdg ?_
  have e : (if Int32.ofInt x < Int32.ofInt y then Int32.ofInt y else Int32.ofInt x) = Int32.ofInt (max x y) := by
    by_cases hq : x < y
    · rw [if_pos ((i32_lt hx hy).mpr hq), Int.max_eq_right (by omega)]
    · rw [if_neg (fun z => hq ((i32_lt hx hy).mp z)), Int.max_eq_left (by omega)]
  rw [e]
  exact kk H locs ls h1 h2 h3 h4
theorem g_min {x y : Int} {idx : Nat} (hX : Cx Γ X nL h cc own) (hdg : decode cc pc = .ok (.invokestatic idx, 3)) (hl : Cond.methodLink own idx ⟨"java/lang/Math", "min", "(II)I"⟩ ∈ gT) (hx : iR x) (hy : iR y) (hh : 0 < h) (hroom : (st.map fun v => v.category).sum ≤ 8) (hz : Z.2.2.1 ≤ (xR X).cells ∧ Z.2.2.2 ≤ (xR X).slots) (kk : G Γ X nL Z (pc + 3) L (vI (min x y) :: st) M) : G Γ X nL Z pc L (vI y :: vI x :: st) M := by
  intro H locs ls h1 h2 h3 h4
  obtain ⟨q1, q2, hml, hown, hts, hlk, hV, hf, hlo⟩ := hX
  refine va_mmin q1 q2 (by rw [hml, h4.1]) hown (hts _ hl) (hts _ q_323) (hts _ q_10) (hts _ (gT_t 324 rfl rfl)) (by omega) (by omega) hz.1 hz.2 hdg ?_
  have e : (if Int32.ofInt y < Int32.ofInt x then Int32.ofInt y else Int32.ofInt x) = Int32.ofInt (min x y) := by
    by_cases hq : y < x
    · rw [if_pos ((i32_lt hy hx).mpr hq), Int.min_eq_right (by omega)]
    · rw [if_neg (fun z => hq ((i32_lt hy hx).mp z)), Int.min_eq_left (by omega)]
  rw [e]
  exact kk H locs ls h1 h2 h3 h4
theorem g_getsL {idx : Nat} (hX : Cx Γ X nL h cc own) (hdg : decode cc pc = .ok (.getstatic idx, 3)) (hl : Cond.fieldLink own idx "WindowCopies" "LOWEST_VALUES" "[I" ∈ gT) (kk : G Γ X nL Z (pc + 3) L (.ref (gtL Γ) :: st) M) : G Γ X nL Z pc L st M := by
  intro H locs ls h1 h2 h3 h4
  obtain ⟨q1, q2, hml, hown, hts, hlk, hV, hf, hlo⟩ := hX
  obtain ⟨cf, kf, fi, f, a, cell, z1, z2, z3, z4, z5, z6, z7, z8⟩ := hV.2.2.2.1.1
  exact W.gets q1 q2 hown (hts _ hl) z1 z2 z3 z4 (by rw [h2 a (Nat.not_le.mp z8)]; exact z5) (fun e => by rw [e] at z6; cases z6) z7 rfl hdg (kk H locs ls h1 h2 h3 h4)
theorem g_getsH {idx : Nat} (hX : Cx Γ X nL h cc own) (hdg : decode cc pc = .ok (.getstatic idx, 3)) (hl : Cond.fieldLink own idx "WindowCopies" "HIGHEST_VALUES" "[I" ∈ gT) (kk : G Γ X nL Z (pc + 3) L (.ref (gtH Γ) :: st) M) : G Γ X nL Z pc L st M := by
  intro H locs ls h1 h2 h3 h4
  obtain ⟨q1, q2, hml, hown, hts, hlk, hV, hf, hlo⟩ := hX
  obtain ⟨cf, kf, fi, f, a, cell, z1, z2, z3, z4, z5, z6, z7, z8⟩ := hV.2.2.2.2.1.1
  exact W.gets q1 q2 hown (hts _ hl) z1 z2 z3 z4 (by rw [h2 a (Nat.not_le.mp z8)]; exact z5) (fun e => by rw [e] at z6; cases z6) z7 rfl hdg (kk H locs ls h1 h2 h3 h4)
theorem g_tlen {t : Nat} {n : String} {f : Int → Int} (hX : Cx Γ X nL h cc own) (hT : sT Γ t n f (xs X)) (hdg : decode cc pc = .ok (.arraylength, 1)) (kk : G Γ X nL Z (pc + 1) L (vI 5 :: st) M) : G Γ X nL Z pc L (.ref t :: st) M := by
  intro H locs ls h1 h2 h3 h4
  obtain ⟨q1, q2, hml, hown, hts, hlk, hV, hf, hlo⟩ := hX
  obtain ⟨cell, z1, z2, z3, z4, z5, z6, z7⟩ := hT.2
  exact W.alen (n := Int32.ofInt 5) q1 q2 (by rw [h2 t (Nat.not_le.mp z7)]; exact z1) z2 z5 rfl rfl hdg (kk H locs ls h1 h2 h3 h4)
theorem g_tald {t : Nat} {n : String} {f : Int → Int} {i : Int} (hX : Cx Γ X nL h cc own) (hT : sT Γ t n f (xs X)) (hdg : decode cc pc = .ok (.iaload, 1)) (hi : 0 ≤ i ∧ i < 5) (kk : G Γ X nL Z (pc + 1) L (vI (f i) :: st) M) : G Γ X nL Z pc L (vI i :: .ref t :: st) M := by
  intro H locs ls h1 h2 h3 h4
  obtain ⟨q1, q2, hml, hown, hts, hlk, hV, hf, hlo⟩ := hX
  obtain ⟨cell, z1, z2, z3, z4, z5, z6, z7⟩ := hT.2
  have hcl := i32_clamp hi.1 (show i < 2147483648 by omega)
  have hz : ((i.toNat : Nat) : Int) = i := by omega
  refine W.iald (v := vI (f i)) q1 q2 (by rw [h2 t (Nat.not_le.mp z7)]; exact z1) z2 z3 (by rw [hcl, i32_0, i32_lt ⟨by omega, by omega⟩ ⟨by omega, by omega⟩]; omega) (by rw [hcl, z6 i.toNat (by omega)]; show some (vI (f (i.toNat : Int))) = _; rw [hz]) rfl rfl hdg (kk H locs ls h1 h2 h3 h4)
end GM
end
section
theorem fl_WC_10 : FL "WindowCopies" 10 0 0 := ⟨_, rfl, by decide +kernel, q_184⟩
theorem fl_WC_16 : FL "WindowCopies" 16 0 1 := ⟨_, rfl, by decide +kernel, q_185⟩
theorem fl_WC_19 : FL "WindowCopies" 19 0 2 := ⟨_, rfl, by decide +kernel, q_186⟩
theorem fl_WC_26 : FL "WindowCopies" 26 0 3 := ⟨_, rfl, by decide +kernel, q_187⟩
theorem fl_WC_35 : FL "WindowCopies" 35 0 4 := ⟨_, rfl, by decide +kernel, q_188⟩
theorem fl_WC_44 : FL "WindowCopies" 44 0 5 := ⟨_, rfl, by decide +kernel, q_189⟩
theorem fl_WC_51 : FL "WindowCopies" 51 0 6 := ⟨_, rfl, by decide +kernel, q_190⟩
theorem fl_WC_58 : FL "WindowCopies" 58 0 7 := ⟨_, rfl, by decide +kernel, q_191⟩
theorem fl_WC_67 : FL "WindowCopies" 67 0 8 := ⟨_, rfl, by decide +kernel, q_192⟩
theorem fl_Mo_7 : FL "WindowCopiesModel" 7 8 0 := ⟨_, rfl, by decide +kernel, q_664⟩
theorem fl_Mo_13 : FL "WindowCopiesModel" 13 8 1 := ⟨_, rfl, by decide +kernel, q_665⟩
theorem fl_Mo_16 : FL "WindowCopiesModel" 16 8 2 := ⟨_, rfl, by decide +kernel, q_666⟩
theorem fl_Mo_19 : FL "WindowCopiesModel" 19 8 5 := ⟨_, rfl, by decide +kernel, q_669⟩
theorem fl_Mo_22 : FL "WindowCopiesModel" 22 8 7 := ⟨_, rfl, by decide +kernel, q_671⟩
theorem fl_Mo_25 : FL "WindowCopiesModel" 25 8 8 := ⟨_, rfl, by decide +kernel, q_672⟩
theorem fl_Mo_28 : FL "WindowCopiesModel" 28 8 9 := ⟨_, rfl, by decide +kernel, q_673⟩
theorem fl_Mo_31 : FL "WindowCopiesModel" 31 8 11 := ⟨_, rfl, by decide +kernel, q_675⟩
theorem fl_Mo_34 : FL "WindowCopiesModel" 34 8 12 := ⟨_, rfl, by decide +kernel, q_676⟩
theorem fl_Mo_37 : FL "WindowCopiesModel" 37 8 13 := ⟨_, rfl, by decide +kernel, q_677⟩
theorem fl_Mo_40 : FL "WindowCopiesModel" 40 8 14 := ⟨_, rfl, by decide +kernel, q_678⟩
theorem fl_Mo_43 : FL "WindowCopiesModel" 43 8 15 := ⟨_, rfl, by decide +kernel, q_679⟩
theorem fl_Mo_46 : FL "WindowCopiesModel" 46 8 20 := ⟨_, rfl, by decide +kernel, q_684⟩
theorem fl_Mo_49 : FL "WindowCopiesModel" 49 8 4 := ⟨_, rfl, by decide +kernel, q_668⟩
theorem fl_Mo_98 : FL "WindowCopiesModel" 98 8 10 := ⟨_, rfl, by decide +kernel, q_674⟩
theorem fl_Mo_123 : FL "WindowCopiesModel" 123 8 6 := ⟨_, rfl, by decide +kernel, q_670⟩
theorem fl_Mo_126 : FL "WindowCopiesModel" 126 8 3 := ⟨_, rfl, by decide +kernel, q_667⟩
theorem fl_Mo_143 : FL "WindowCopiesModel" 143 8 16 := ⟨_, rfl, by decide +kernel, q_680⟩
theorem fl_Mo_146 : FL "WindowCopiesModel" 146 8 17 := ⟨_, rfl, by decide +kernel, q_681⟩
theorem fl_Mo_152 : FL "WindowCopiesModel" 152 8 18 := ⟨_, rfl, by decide +kernel, q_682⟩
theorem fl_Mo_155 : FL "WindowCopiesModel" 155 8 19 := ⟨_, rfl, by decide +kernel, q_683⟩
theorem fl_Cand_9 : FL "WindowCopies$Candidates" 9 3 1 := ⟨_, rfl, by decide +kernel, q_70⟩
theorem fl_Cand_15 : FL "WindowCopies$Candidates" 15 3 2 := ⟨_, rfl, by decide +kernel, q_71⟩
theorem fl_Cand_18 : FL "WindowCopies$Candidates" 18 3 3 := ⟨_, rfl, by decide +kernel, q_72⟩
theorem fl_Cand_22 : FL "WindowCopies$Candidates" 22 3 4 := ⟨_, rfl, by decide +kernel, q_73⟩
theorem fl_Cand_25 : FL "WindowCopies$Candidates" 25 3 5 := ⟨_, rfl, by decide +kernel, q_74⟩
theorem fl_Cand_28 : FL "WindowCopies$Candidates" 28 3 0 := ⟨_, rfl, by decide +kernel, q_69⟩
theorem fl_History_11 : FL "WindowCopies$History" 11 2 0 := ⟨_, rfl, by decide +kernel, q_53⟩
theorem fl_History_17 : FL "WindowCopies$History" 17 2 1 := ⟨_, rfl, by decide +kernel, q_54⟩
theorem fl_History_21 : FL "WindowCopies$History" 21 2 2 := ⟨_, rfl, by decide +kernel, q_55⟩
theorem fl_Plan_9 : FL "WindowCopies$Plan" 9 4 2 := ⟨_, rfl, by decide +kernel, q_96⟩
theorem fl_Plan_15 : FL "WindowCopies$Plan" 15 4 3 := ⟨_, rfl, by decide +kernel, q_97⟩
theorem fl_Plan_18 : FL "WindowCopies$Plan" 18 4 4 := ⟨_, rfl, by decide +kernel, q_98⟩
theorem fl_Plan_21 : FL "WindowCopies$Plan" 21 4 5 := ⟨_, rfl, by decide +kernel, q_99⟩
theorem fl_Plan_24 : FL "WindowCopies$Plan" 24 4 6 := ⟨_, rfl, by decide +kernel, q_100⟩
theorem fl_Plan_27 : FL "WindowCopies$Plan" 27 4 7 := ⟨_, rfl, by decide +kernel, q_101⟩
theorem fl_Plan_31 : FL "WindowCopies$Plan" 31 4 8 := ⟨_, rfl, by decide +kernel, q_102⟩
theorem fl_Plan_34 : FL "WindowCopies$Plan" 34 4 9 := ⟨_, rfl, by decide +kernel, q_103⟩
theorem fl_Plan_37 : FL "WindowCopies$Plan" 37 4 10 := ⟨_, rfl, by decide +kernel, q_104⟩
theorem fl_Plan_40 : FL "WindowCopies$Plan" 40 4 0 := ⟨_, rfl, by decide +kernel, q_94⟩
theorem fl_Plan_44 : FL "WindowCopies$Plan" 44 4 1 := ⟨_, rfl, by decide +kernel, q_95⟩
theorem fl_State_9 : FL "WindowCopies$State" 9 1 0 := ⟨_, rfl, by decide +kernel, q_33⟩
theorem fl_State_15 : FL "WindowCopies$State" 15 1 1 := ⟨_, rfl, by decide +kernel, q_34⟩
theorem fl_State_18 : FL "WindowCopies$State" 18 1 2 := ⟨_, rfl, by decide +kernel, q_35⟩
theorem fl_Stretch_7 : FL "WindowCopies$Stretch" 7 5 0 := ⟨_, rfl, by decide +kernel, q_134⟩
theorem fl_Stretch_13 : FL "WindowCopies$Stretch" 13 5 1 := ⟨_, rfl, by decide +kernel, q_135⟩
theorem fl_Stretch_16 : FL "WindowCopies$Stretch" 16 5 2 := ⟨_, rfl, by decide +kernel, q_136⟩
theorem fl_Text_9 : FL "WindowCopies$Text" 9 6 0 := ⟨_, rfl, by decide +kernel, q_150⟩
theorem fl_Text_15 : FL "WindowCopies$Text" 15 6 1 := ⟨_, rfl, by decide +kernel, q_151⟩
theorem fl_Reader_12 : FL "WindowCopies$TextReader" 12 7 2 := ⟨_, rfl, by decide +kernel, q_167⟩
theorem fl_Reader_18 : FL "WindowCopies$TextReader" 18 7 3 := ⟨_, rfl, by decide +kernel, q_168⟩
theorem fl_Reader_22 : FL "WindowCopies$TextReader" 22 7 4 := ⟨_, rfl, by decide +kernel, q_169⟩
theorem fl_Reader_25 : FL "WindowCopies$TextReader" 25 7 5 := ⟨_, rfl, by decide +kernel, q_170⟩
theorem fl_Reader_28 : FL "WindowCopies$TextReader" 28 7 0 := ⟨_, rfl, by decide +kernel, q_165⟩
theorem fl_Reader_32 : FL "WindowCopies$TextReader" 32 7 1 := ⟨_, rfl, by decide +kernel, q_166⟩
theorem yo_WC_init : Ym i_WC_init := ⟨qc_WC_init, q_1, ⟨by decide +kernel, by decide +kernel, by decide +kernel⟩, by decide +kernel, by decide +kernel⟩
theorem yo_WC_put : Yv i_WC_put := ⟨⟨qc_WC_put, q_1, ⟨by decide +kernel, by decide +kernel, by decide +kernel⟩, by decide +kernel, by decide +kernel⟩, q_213, q_214⟩
theorem yo_WC_drop : Yv i_WC_drop := ⟨⟨qc_WC_drop, q_1, ⟨by decide +kernel, by decide +kernel, by decide +kernel⟩, by decide +kernel, by decide +kernel⟩, q_268, q_269⟩
theorem yo_WC_mend : Yv i_WC_mend := ⟨⟨qc_WC_mend, q_1, ⟨by decide +kernel, by decide +kernel, by decide +kernel⟩, by decide +kernel, by decide +kernel⟩, q_279, q_280⟩
theorem yo_WC_set : Yv i_WC_set := ⟨⟨qc_WC_set, q_1, ⟨by decide +kernel, by decide +kernel, by decide +kernel⟩, by decide +kernel, by decide +kernel⟩, q_289, q_290⟩
theorem yo_WC_letter : Yv i_WC_letter := ⟨⟨qc_WC_letter, q_1, ⟨by decide +kernel, by decide +kernel, by decide +kernel⟩, by decide +kernel, by decide +kernel⟩, q_300, q_301⟩
theorem yo_WC_candidate : Yv i_WC_candidate := ⟨⟨qc_WC_candidate, q_1, ⟨by decide +kernel, by decide +kernel, by decide +kernel⟩, by decide +kernel, by decide +kernel⟩, q_304, q_305⟩
theorem yo_WC_found : Yv i_WC_found := ⟨⟨qc_WC_found, q_1, ⟨by decide +kernel, by decide +kernel, by decide +kernel⟩, by decide +kernel, by decide +kernel⟩, q_344, q_345⟩
theorem yo_WC_isCopy : Yv i_WC_isCopy := ⟨⟨qc_WC_isCopy, q_1, ⟨by decide +kernel, by decide +kernel, by decide +kernel⟩, by decide +kernel, by decide +kernel⟩, q_361, q_362⟩
theorem yo_WC_part : Yv i_WC_part := ⟨⟨qc_WC_part, q_1, ⟨by decide +kernel, by decide +kernel, by decide +kernel⟩, by decide +kernel, by decide +kernel⟩, q_370, q_371⟩
theorem yo_WC_total : Yv i_WC_total := ⟨⟨qc_WC_total, q_1, ⟨by decide +kernel, by decide +kernel, by decide +kernel⟩, by decide +kernel, by decide +kernel⟩, q_439, q_440⟩
theorem yo_WC_partAt : Yv i_WC_partAt := ⟨⟨qc_WC_partAt, q_1, ⟨by decide +kernel, by decide +kernel, by decide +kernel⟩, by decide +kernel, by decide +kernel⟩, q_459, q_460⟩
theorem yo_WC_parting : Yv i_WC_parting := ⟨⟨qc_WC_parting, q_1, ⟨by decide +kernel, by decide +kernel, by decide +kernel⟩, by decide +kernel, by decide +kernel⟩, q_468, q_469⟩
theorem yo_WC_repeat : Yv i_WC_repeat := ⟨⟨qc_WC_repeat, q_1, ⟨by decide +kernel, by decide +kernel, by decide +kernel⟩, by decide +kernel, by decide +kernel⟩, q_476, q_477⟩
theorem yo_WC_count : Yv i_WC_count := ⟨⟨qc_WC_count, q_1, ⟨by decide +kernel, by decide +kernel, by decide +kernel⟩, by decide +kernel, by decide +kernel⟩, q_498, q_499⟩
theorem yo_WC_settingCount : Yv i_WC_settingCount := ⟨⟨qc_WC_settingCount, q_1, ⟨by decide +kernel, by decide +kernel, by decide +kernel⟩, by decide +kernel, by decide +kernel⟩, q_523, qs_11⟩
theorem yo_WC_cheapestWay : Yv i_WC_cheapestWay := ⟨⟨qc_WC_cheapestWay, q_1, ⟨by decide +kernel, by decide +kernel, by decide +kernel⟩, by decide +kernel, by decide +kernel⟩, q_511, qs_10⟩
theorem yo_WC_keep : Yv i_WC_keep := ⟨⟨qc_WC_keep, q_1, ⟨by decide +kernel, by decide +kernel, by decide +kernel⟩, by decide +kernel, by decide +kernel⟩, q_526, q_527⟩
theorem yo_WC_restore : Yv i_WC_restore := ⟨⟨qc_WC_restore, q_1, ⟨by decide +kernel, by decide +kernel, by decide +kernel⟩, by decide +kernel, by decide +kernel⟩, q_531, q_532⟩
theorem yo_WC_undo : Yv i_WC_undo := ⟨⟨qc_WC_undo, q_1, ⟨by decide +kernel, by decide +kernel, by decide +kernel⟩, by decide +kernel, by decide +kernel⟩, q_535, q_536⟩
theorem yo_WC_type : Yv i_WC_type := ⟨⟨qc_WC_type, q_1, ⟨by decide +kernel, by decide +kernel, by decide +kernel⟩, by decide +kernel, by decide +kernel⟩, q_543, q_544⟩
theorem yo_WC_clearText : Yv i_WC_clearText := ⟨⟨qc_WC_clearText, q_1, ⟨by decide +kernel, by decide +kernel, by decide +kernel⟩, by decide +kernel, by decide +kernel⟩, q_552, q_553⟩
theorem yo_WC_write : Yv i_WC_write := ⟨⟨qc_WC_write, q_1, ⟨by decide +kernel, by decide +kernel, by decide +kernel⟩, by decide +kernel, by decide +kernel⟩, q_560, q_561⟩
theorem yo_WC_charactersOf : Yv i_WC_charactersOf := ⟨⟨qc_WC_charactersOf, q_1, ⟨by decide +kernel, by decide +kernel, by decide +kernel⟩, by decide +kernel, by decide +kernel⟩, q_565, qs_12⟩
theorem yo_WC_fault : Yv i_WC_fault := ⟨⟨qc_WC_fault, q_1, ⟨by decide +kernel, by decide +kernel, by decide +kernel⟩, by decide +kernel, by decide +kernel⟩, q_583, q_584⟩
theorem yo_WC_read : Yv i_WC_read := ⟨⟨qc_WC_read, q_1, ⟨by decide +kernel, by decide +kernel, by decide +kernel⟩, by decide +kernel, by decide +kernel⟩, q_650, q_651⟩
theorem yo_WC_isIn : Ys i_WC_isIn := ⟨⟨qc_WC_isIn, q_1, ⟨by decide +kernel, by decide +kernel, by decide +kernel⟩, by decide +kernel, by decide +kernel⟩, q_220⟩
theorem yo_WC_isLetter : Ys i_WC_isLetter := ⟨⟨qc_WC_isLetter, q_1, ⟨by decide +kernel, by decide +kernel, by decide +kernel⟩, by decide +kernel, by decide +kernel⟩, q_217⟩
theorem yo_WC_isWay : Ys i_WC_isWay := ⟨⟨qc_WC_isWay, q_1, ⟨by decide +kernel, by decide +kernel, by decide +kernel⟩, by decide +kernel, by decide +kernel⟩, q_374⟩
theorem yo_WC_at : Ys i_WC_at := ⟨⟨qc_WC_at, q_1, ⟨by decide +kernel, by decide +kernel, by decide +kernel⟩, by decide +kernel, by decide +kernel⟩, q_28⟩
theorem yo_WC_store : Ys i_WC_store := ⟨⟨qc_WC_store, q_1, ⟨by decide +kernel, by decide +kernel, by decide +kernel⟩, by decide +kernel, by decide +kernel⟩, q_31⟩
theorem yo_Mo_init : Ym i_Mo_init := ⟨qc_Mo_init, q_9, ⟨by decide +kernel, by decide +kernel, by decide +kernel⟩, by decide +kernel, by decide +kernel⟩
theorem yo_Mo_in : Ys i_Mo_in := ⟨⟨qc_Mo_in, q_9, ⟨by decide +kernel, by decide +kernel, by decide +kernel⟩, by decide +kernel, by decide +kernel⟩, q_733⟩
theorem yo_Mo_copies : Ys i_Mo_copies := ⟨⟨qc_Mo_copies, q_9, ⟨by decide +kernel, by decide +kernel, by decide +kernel⟩, by decide +kernel, by decide +kernel⟩, q_866⟩
theorem yo_Mo_changes : Yv i_Mo_changes := ⟨⟨qc_Mo_changes, q_9, ⟨by decide +kernel, by decide +kernel, by decide +kernel⟩, by decide +kernel, by decide +kernel⟩, q_737, qs_21⟩
theorem yo_Mo_isPlace : Yv i_Mo_isPlace := ⟨⟨qc_Mo_isPlace, q_9, ⟨by decide +kernel, by decide +kernel, by decide +kernel⟩, by decide +kernel, by decide +kernel⟩, q_749, qs_22⟩
theorem yo_Mo_put : Yv i_Mo_put := ⟨⟨qc_Mo_put, q_9, ⟨by decide +kernel, by decide +kernel, by decide +kernel⟩, by decide +kernel, by decide +kernel⟩, q_729, q_730⟩
theorem yo_Mo_drop : Yv i_Mo_drop := ⟨⟨qc_Mo_drop, q_9, ⟨by decide +kernel, by decide +kernel, by decide +kernel⟩, by decide +kernel, by decide +kernel⟩, q_740, q_741⟩
theorem yo_Mo_mend : Yv i_Mo_mend := ⟨⟨qc_Mo_mend, q_9, ⟨by decide +kernel, by decide +kernel, by decide +kernel⟩, by decide +kernel, by decide +kernel⟩, q_744, q_745⟩
theorem yo_Mo_least : Ys i_Mo_least := ⟨⟨qc_Mo_least, q_9, ⟨by decide +kernel, by decide +kernel, by decide +kernel⟩, by decide +kernel, by decide +kernel⟩, q_756⟩
theorem yo_Mo_most : Ys i_Mo_most := ⟨⟨qc_Mo_most, q_9, ⟨by decide +kernel, by decide +kernel, by decide +kernel⟩, by decide +kernel, by decide +kernel⟩, q_759⟩
theorem yo_Mo_set : Yv i_Mo_set := ⟨⟨qc_Mo_set, q_9, ⟨by decide +kernel, by decide +kernel, by decide +kernel⟩, by decide +kernel, by decide +kernel⟩, q_752, q_753⟩
theorem yo_Mo_letter : Yv i_Mo_letter := ⟨⟨qc_Mo_letter, q_9, ⟨by decide +kernel, by decide +kernel, by decide +kernel⟩, by decide +kernel, by decide +kernel⟩, q_762, q_763⟩
theorem yo_Mo_reach : Yv i_Mo_reach := ⟨⟨qc_Mo_reach, q_9, ⟨by decide +kernel, by decide +kernel, by decide +kernel⟩, by decide +kernel, by decide +kernel⟩, q_779, qs_25⟩
theorem yo_Mo_isCandidate : Yv i_Mo_isCandidate := ⟨⟨qc_Mo_isCandidate, q_9, ⟨by decide +kernel, by decide +kernel, by decide +kernel⟩, by decide +kernel, by decide +kernel⟩, q_775, qs_24⟩
theorem yo_Mo_candidates : Yv i_Mo_candidates := ⟨⟨qc_Mo_candidates, q_9, ⟨by decide +kernel, by decide +kernel, by decide +kernel⟩, by decide +kernel, by decide +kernel⟩, q_787, qs_26⟩
theorem yo_Mo_distance : Yv i_Mo_distance := ⟨⟨qc_Mo_distance, q_9, ⟨by decide +kernel, by decide +kernel, by decide +kernel⟩, by decide +kernel, by decide +kernel⟩, q_771, qs_23⟩
theorem yo_Mo_candidate : Yv i_Mo_candidate := ⟨⟨qc_Mo_candidate, q_9, ⟨by decide +kernel, by decide +kernel, by decide +kernel⟩, by decide +kernel, by decide +kernel⟩, q_766, q_767⟩
theorem yo_Mo_best : Yv i_Mo_best := ⟨⟨qc_Mo_best, q_9, ⟨by decide +kernel, by decide +kernel, by decide +kernel⟩, by decide +kernel, by decide +kernel⟩, q_791, qs_27⟩
theorem yo_Mo_saves : Yv i_Mo_saves := ⟨⟨qc_Mo_saves, q_9, ⟨by decide +kernel, by decide +kernel, by decide +kernel⟩, by decide +kernel, by decide +kernel⟩, q_795, qs_28⟩
theorem yo_Mo_found : Yv i_Mo_found := ⟨⟨qc_Mo_found, q_9, ⟨by decide +kernel, by decide +kernel, by decide +kernel⟩, by decide +kernel, by decide +kernel⟩, q_782, q_783⟩
theorem yo_Mo_isCopy : Yv i_Mo_isCopy := ⟨⟨qc_Mo_isCopy, q_9, ⟨by decide +kernel, by decide +kernel, by decide +kernel⟩, by decide +kernel, by decide +kernel⟩, q_798, q_799⟩
theorem yo_Mo_savesMore : Yv i_Mo_savesMore := ⟨⟨qc_Mo_savesMore, q_9, ⟨by decide +kernel, by decide +kernel, by decide +kernel⟩, by decide +kernel, by decide +kernel⟩, q_819, qs_32⟩
theorem yo_Mo_takes : Yv i_Mo_takes := ⟨⟨qc_Mo_takes, q_9, ⟨by decide +kernel, by decide +kernel, by decide +kernel⟩, by decide +kernel, by decide +kernel⟩, q_815, qs_31⟩
theorem yo_Mo_weighs : Yv i_Mo_weighs := ⟨⟨qc_Mo_weighs, q_9, ⟨by decide +kernel, by decide +kernel, by decide +kernel⟩, by decide +kernel, by decide +kernel⟩, q_811, qs_30⟩
theorem yo_Mo_lays : Yv i_Mo_lays := ⟨⟨qc_Mo_lays, q_9, ⟨by decide +kernel, by decide +kernel, by decide +kernel⟩, by decide +kernel, by decide +kernel⟩, q_807, qs_29⟩
theorem yo_Mo_cost : Yv i_Mo_cost := ⟨⟨qc_Mo_cost, q_9, ⟨by decide +kernel, by decide +kernel, by decide +kernel⟩, by decide +kernel, by decide +kernel⟩, q_823, qs_33⟩
theorem yo_Mo_part : Yv i_Mo_part := ⟨⟨qc_Mo_part, q_9, ⟨by decide +kernel, by decide +kernel, by decide +kernel⟩, by decide +kernel, by decide +kernel⟩, q_802, q_803⟩
theorem yo_Mo_costAll : Yv i_Mo_costAll := ⟨⟨qc_Mo_costAll, q_9, ⟨by decide +kernel, by decide +kernel, by decide +kernel⟩, by decide +kernel, by decide +kernel⟩, q_831, qs_34⟩
theorem yo_Mo_total : Yv i_Mo_total := ⟨⟨qc_Mo_total, q_9, ⟨by decide +kernel, by decide +kernel, by decide +kernel⟩, by decide +kernel, by decide +kernel⟩, q_826, q_827⟩
theorem yo_Mo_partAt : Yv i_Mo_partAt := ⟨⟨qc_Mo_partAt, q_9, ⟨by decide +kernel, by decide +kernel, by decide +kernel⟩, by decide +kernel, by decide +kernel⟩, q_834, q_835⟩
theorem yo_Mo_parting : Yv i_Mo_parting := ⟨⟨qc_Mo_parting, q_9, ⟨by decide +kernel, by decide +kernel, by decide +kernel⟩, by decide +kernel, by decide +kernel⟩, q_838, q_839⟩
theorem yo_Mo_stretch : Yv i_Mo_stretch := ⟨⟨qc_Mo_stretch, q_9, ⟨by decide +kernel, by decide +kernel, by decide +kernel⟩, by decide +kernel, by decide +kernel⟩, q_847, qs_35⟩
theorem yo_Mo_repeat : Yv i_Mo_repeat := ⟨⟨qc_Mo_repeat, q_9, ⟨by decide +kernel, by decide +kernel, by decide +kernel⟩, by decide +kernel, by decide +kernel⟩, q_842, q_843⟩
theorem yo_Mo_unlike : Yv i_Mo_unlike := ⟨⟨qc_Mo_unlike, q_9, ⟨by decide +kernel, by decide +kernel, by decide +kernel⟩, by decide +kernel, by decide +kernel⟩, q_855, qs_36⟩
theorem yo_Mo_cheapest : Yv i_Mo_cheapest := ⟨⟨qc_Mo_cheapest, q_9, ⟨by decide +kernel, by decide +kernel, by decide +kernel⟩, by decide +kernel, by decide +kernel⟩, q_859, qs_37⟩
theorem yo_Mo_count : Yv i_Mo_count := ⟨⟨qc_Mo_count, q_9, ⟨by decide +kernel, by decide +kernel, by decide +kernel⟩, by decide +kernel, by decide +kernel⟩, q_850, q_851⟩
theorem yo_Mo_keep : Yv i_Mo_keep := ⟨⟨qc_Mo_keep, q_9, ⟨by decide +kernel, by decide +kernel, by decide +kernel⟩, by decide +kernel, by decide +kernel⟩, q_862, q_863⟩
theorem yo_Mo_restore : Yv i_Mo_restore := ⟨⟨qc_Mo_restore, q_9, ⟨by decide +kernel, by decide +kernel, by decide +kernel⟩, by decide +kernel, by decide +kernel⟩, q_869, q_870⟩
theorem yo_Mo_undo : Yv i_Mo_undo := ⟨⟨qc_Mo_undo, q_9, ⟨by decide +kernel, by decide +kernel, by decide +kernel⟩, by decide +kernel, by decide +kernel⟩, q_873, q_874⟩
theorem yo_Mo_type : Yv i_Mo_type := ⟨⟨qc_Mo_type, q_9, ⟨by decide +kernel, by decide +kernel, by decide +kernel⟩, by decide +kernel, by decide +kernel⟩, q_877, q_878⟩
theorem yo_Mo_clearText : Yv i_Mo_clearText := ⟨⟨qc_Mo_clearText, q_9, ⟨by decide +kernel, by decide +kernel, by decide +kernel⟩, by decide +kernel, by decide +kernel⟩, q_881, q_882⟩
theorem yo_Mo_digits : Ys i_Mo_digits := ⟨⟨qc_Mo_digits, q_9, ⟨by decide +kernel, by decide +kernel, by decide +kernel⟩, by decide +kernel, by decide +kernel⟩, q_889⟩
theorem yo_Mo_writesNumber : Yv i_Mo_writesNumber := ⟨⟨qc_Mo_writesNumber, q_9, ⟨by decide +kernel, by decide +kernel, by decide +kernel⟩, by decide +kernel, by decide +kernel⟩, q_897, qs_39⟩
theorem yo_Mo_writesSign : Yv i_Mo_writesSign := ⟨⟨qc_Mo_writesSign, q_9, ⟨by decide +kernel, by decide +kernel, by decide +kernel⟩, by decide +kernel, by decide +kernel⟩, q_893, qs_38⟩
theorem yo_Mo_write : Yv i_Mo_write := ⟨⟨qc_Mo_write, q_9, ⟨by decide +kernel, by decide +kernel, by decide +kernel⟩, by decide +kernel, by decide +kernel⟩, q_885, q_886⟩
theorem yo_Mo_isAt : Yv i_Mo_isAt := ⟨⟨qc_Mo_isAt, q_9, ⟨by decide +kernel, by decide +kernel, by decide +kernel⟩, by decide +kernel, by decide +kernel⟩, q_909, qs_41⟩
theorem yo_Mo_fails : Yv i_Mo_fails := ⟨⟨qc_Mo_fails, q_9, ⟨by decide +kernel, by decide +kernel, by decide +kernel⟩, by decide +kernel, by decide +kernel⟩, q_921, qs_44⟩
theorem yo_Mo_sign : Yv i_Mo_sign := ⟨⟨qc_Mo_sign, q_9, ⟨by decide +kernel, by decide +kernel, by decide +kernel⟩, by decide +kernel, by decide +kernel⟩, q_925, qs_45⟩
theorem yo_Mo_numbered : Yv i_Mo_numbered := ⟨⟨qc_Mo_numbered, q_9, ⟨by decide +kernel, by decide +kernel, by decide +kernel⟩, by decide +kernel, by decide +kernel⟩, q_917, qs_43⟩
theorem yo_Mo_wrong : Yv i_Mo_wrong := ⟨⟨qc_Mo_wrong, q_9, ⟨by decide +kernel, by decide +kernel, by decide +kernel⟩, by decide +kernel, by decide +kernel⟩, q_929, qs_46⟩
theorem yo_Mo_readsCopy : Yv i_Mo_readsCopy := ⟨⟨qc_Mo_readsCopy, q_9, ⟨by decide +kernel, by decide +kernel, by decide +kernel⟩, by decide +kernel, by decide +kernel⟩, q_913, qs_42⟩
theorem yo_Mo_readsLetter : Yv i_Mo_readsLetter := ⟨⟨qc_Mo_readsLetter, q_9, ⟨by decide +kernel, by decide +kernel, by decide +kernel⟩, by decide +kernel, by decide +kernel⟩, q_933, qs_47⟩
theorem yo_Mo_isRight : Yv i_Mo_isRight := ⟨⟨qc_Mo_isRight, q_9, ⟨by decide +kernel, by decide +kernel, by decide +kernel⟩, by decide +kernel, by decide +kernel⟩, q_905, qs_40⟩
theorem yo_Mo_fault : Yv i_Mo_fault := ⟨⟨qc_Mo_fault, q_9, ⟨by decide +kernel, by decide +kernel, by decide +kernel⟩, by decide +kernel, by decide +kernel⟩, q_900, q_901⟩
theorem yo_Mo_read : Yv i_Mo_read := ⟨⟨qc_Mo_read, q_9, ⟨by decide +kernel, by decide +kernel, by decide +kernel⟩, by decide +kernel, by decide +kernel⟩, q_936, q_937⟩
theorem yo_Cand_init : Ym i_Cand_init := ⟨qc_Cand_init, q_4, ⟨by decide +kernel, by decide +kernel, by decide +kernel⟩, by decide +kernel, by decide +kernel⟩
theorem yo_Cand_beginBehindRow : Yv i_Cand_beginBehindRow := ⟨⟨qc_Cand_beginBehindRow, q_4, ⟨by decide +kernel, by decide +kernel, by decide +kernel⟩, by decide +kernel, by decide +kernel⟩, q_312, q_313⟩
theorem yo_Cand_stepAhead : Yv i_Cand_stepAhead := ⟨⟨qc_Cand_stepAhead, q_4, ⟨by decide +kernel, by decide +kernel, by decide +kernel⟩, by decide +kernel, by decide +kernel⟩, q_318, q_319⟩
theorem yo_Cand_takeIn : Yv i_Cand_takeIn := ⟨⟨qc_Cand_takeIn, q_4, ⟨by decide +kernel, by decide +kernel, by decide +kernel⟩, by decide +kernel, by decide +kernel⟩, q_329, qs_2⟩
theorem yo_Cand_lookAt : Yv i_Cand_lookAt := ⟨⟨qc_Cand_lookAt, q_4, ⟨by decide +kernel, by decide +kernel, by decide +kernel⟩, by decide +kernel, by decide +kernel⟩, q_308, q_309⟩
theorem yo_Cand_all : Yv i_Cand_all := ⟨⟨qc_Cand_all, q_4, ⟨by decide +kernel, by decide +kernel, by decide +kernel⟩, by decide +kernel, by decide +kernel⟩, q_348, q_349⟩
theorem yo_Cand_lookedAt : Yv i_Cand_lookedAt := ⟨⟨qc_Cand_lookedAt, q_4, ⟨by decide +kernel, by decide +kernel, by decide +kernel⟩, by decide +kernel, by decide +kernel⟩, q_332, q_333⟩
theorem yo_Cand_distance : Yv i_Cand_distance := ⟨⟨qc_Cand_distance, q_4, ⟨by decide +kernel, by decide +kernel, by decide +kernel⟩, by decide +kernel, by decide +kernel⟩, q_336, q_337⟩
theorem yo_Cand_reach : Yv i_Cand_reach := ⟨⟨qc_Cand_reach, q_4, ⟨by decide +kernel, by decide +kernel, by decide +kernel⟩, by decide +kernel, by decide +kernel⟩, q_340, q_341⟩
theorem yo_Cand_best : Yv i_Cand_best := ⟨⟨qc_Cand_best, q_4, ⟨by decide +kernel, by decide +kernel, by decide +kernel⟩, by decide +kernel, by decide +kernel⟩, q_352, q_353⟩
theorem yo_History_init : Ym i_History_init := ⟨qc_History_init, q_3, ⟨by decide +kernel, by decide +kernel, by decide +kernel⟩, by decide +kernel, by decide +kernel⟩
theorem yo_History_size : Yv i_History_size := ⟨⟨qc_History_size, q_3, ⟨by decide +kernel, by decide +kernel, by decide +kernel⟩, by decide +kernel, by decide +kernel⟩, q_514, q_515⟩
theorem yo_History_record : Yv i_History_record := ⟨⟨qc_History_record, q_3, ⟨by decide +kernel, by decide +kernel, by decide +kernel⟩, by decide +kernel, by decide +kernel⟩, q_227, q_228⟩
theorem yo_History_takeBack : Yv i_History_takeBack := ⟨⟨qc_History_takeBack, q_3, ⟨by decide +kernel, by decide +kernel, by decide +kernel⟩, by decide +kernel, by decide +kernel⟩, q_539, q_540⟩
theorem yo_History_stateAt : Yv i_History_stateAt := ⟨⟨qc_History_stateAt, q_3, ⟨by decide +kernel, by decide +kernel, by decide +kernel⟩, by decide +kernel, by decide +kernel⟩, q_236, qs_1⟩
theorem yo_History_slotOf : Yv i_History_slotOf := ⟨⟨qc_History_slotOf, q_3, ⟨by decide +kernel, by decide +kernel, by decide +kernel⟩, by decide +kernel, by decide +kernel⟩, q_232, qs_0⟩
theorem yo_Plan_init : Ym i_Plan_init := ⟨qc_Plan_init, q_5, ⟨by decide +kernel, by decide +kernel, by decide +kernel⟩, by decide +kernel, by decide +kernel⟩
theorem yo_Plan_make : Yv i_Plan_make := ⟨⟨qc_Plan_make, q_5, ⟨by decide +kernel, by decide +kernel, by decide +kernel⟩, by decide +kernel, by decide +kernel⟩, q_377, q_378⟩
theorem yo_Plan_planFound : Yv i_Plan_planFound := ⟨⟨qc_Plan_planFound, q_5, ⟨by decide +kernel, by decide +kernel, by decide +kernel⟩, by decide +kernel, by decide +kernel⟩, q_386, qs_3⟩
theorem yo_Plan_planWeighed : Yv i_Plan_planWeighed := ⟨⟨qc_Plan_planWeighed, q_5, ⟨by decide +kernel, by decide +kernel, by decide +kernel⟩, by decide +kernel, by decide +kernel⟩, q_402, qs_6⟩
theorem yo_Plan_planCheapest : Yv i_Plan_planCheapest := ⟨⟨qc_Plan_planCheapest, q_5, ⟨by decide +kernel, by decide +kernel, by decide +kernel⟩, by decide +kernel, by decide +kernel⟩, q_415, qs_7⟩
theorem yo_Plan_planLetter : Yv i_Plan_planLetter := ⟨⟨qc_Plan_planLetter, q_5, ⟨by decide +kernel, by decide +kernel, by decide +kernel⟩, by decide +kernel, by decide +kernel⟩, q_391, qs_4⟩
theorem yo_Plan_planPart : Yv i_Plan_planPart := ⟨⟨qc_Plan_planPart, q_5, ⟨by decide +kernel, by decide +kernel, by decide +kernel⟩, by decide +kernel, by decide +kernel⟩, q_395, qs_5⟩
theorem yo_Plan_distanceAt : Yv i_Plan_distanceAt := ⟨⟨qc_Plan_distanceAt, q_5, ⟨by decide +kernel, by decide +kernel, by decide +kernel⟩, by decide +kernel, by decide +kernel⟩, q_406, q_407⟩
theorem yo_Plan_lengthAt : Yv i_Plan_lengthAt := ⟨⟨qc_Plan_lengthAt, q_5, ⟨by decide +kernel, by decide +kernel, by decide +kernel⟩, by decide +kernel, by decide +kernel⟩, q_410, q_411⟩
theorem yo_Plan_layOut : Yv i_Plan_layOut := ⟨⟨qc_Plan_layOut, q_5, ⟨by decide +kernel, by decide +kernel, by decide +kernel⟩, by decide +kernel, by decide +kernel⟩, q_421, q_422⟩
theorem yo_Plan_countCopy : Yv i_Plan_countCopy := ⟨⟨qc_Plan_countCopy, q_5, ⟨by decide +kernel, by decide +kernel, by decide +kernel⟩, by decide +kernel, by decide +kernel⟩, q_426, qs_8⟩
theorem yo_Plan_parts : Yv i_Plan_parts := ⟨⟨qc_Plan_parts, q_5, ⟨by decide +kernel, by decide +kernel, by decide +kernel⟩, by decide +kernel, by decide +kernel⟩, q_429, q_430⟩
theorem yo_Plan_copies : Yv i_Plan_copies := ⟨⟨qc_Plan_copies, q_5, ⟨by decide +kernel, by decide +kernel, by decide +kernel⟩, by decide +kernel, by decide +kernel⟩, q_443, q_444⟩
theorem yo_Plan_copiedLetters : Yv i_Plan_copiedLetters := ⟨⟨qc_Plan_copiedLetters, q_5, ⟨by decide +kernel, by decide +kernel, by decide +kernel⟩, by decide +kernel, by decide +kernel⟩, q_451, q_452⟩
theorem yo_Plan_longestCopy : Yv i_Plan_longestCopy := ⟨⟨qc_Plan_longestCopy, q_5, ⟨by decide +kernel, by decide +kernel, by decide +kernel⟩, by decide +kernel, by decide +kernel⟩, q_455, q_456⟩
theorem yo_Plan_cost : Yv i_Plan_cost := ⟨⟨qc_Plan_cost, q_5, ⟨by decide +kernel, by decide +kernel, by decide +kernel⟩, by decide +kernel, by decide +kernel⟩, q_447, q_448⟩
theorem yo_Plan_beginOf : Yv i_Plan_beginOf := ⟨⟨qc_Plan_beginOf, q_5, ⟨by decide +kernel, by decide +kernel, by decide +kernel⟩, by decide +kernel, by decide +kernel⟩, q_433, q_434⟩
theorem yo_Plan_indexAt : Yv i_Plan_indexAt := ⟨⟨qc_Plan_indexAt, q_5, ⟨by decide +kernel, by decide +kernel, by decide +kernel⟩, by decide +kernel, by decide +kernel⟩, q_463, q_464⟩
theorem yo_Plan_firstUnlike : Yv i_Plan_firstUnlike := ⟨⟨qc_Plan_firstUnlike, q_5, ⟨by decide +kernel, by decide +kernel, by decide +kernel⟩, by decide +kernel, by decide +kernel⟩, q_472, q_473⟩
theorem yo_State_init : Ym i_State_init := ⟨qc_State_init, q_2, ⟨by decide +kernel, by decide +kernel, by decide +kernel⟩, by decide +kernel, by decide +kernel⟩
theorem yo_State_size : Yv i_State_size := ⟨⟨qc_State_size, q_2, ⟨by decide +kernel, by decide +kernel, by decide +kernel⟩, by decide +kernel, by decide +kernel⟩, q_223, q_224⟩
theorem yo_State_hasPlace : Yv i_State_hasPlace := ⟨⟨qc_State_hasPlace, q_2, ⟨by decide +kernel, by decide +kernel, by decide +kernel⟩, by decide +kernel, by decide +kernel⟩, q_283, q_284⟩
theorem yo_State_letterAt : Yv i_State_letterAt := ⟨⟨qc_State_letterAt, q_2, ⟨by decide +kernel, by decide +kernel, by decide +kernel⟩, by decide +kernel, by decide +kernel⟩, q_248, q_249⟩
theorem yo_State_changeLetter : Yv i_State_changeLetter := ⟨⟨qc_State_changeLetter, q_2, ⟨by decide +kernel, by decide +kernel, by decide +kernel⟩, by decide +kernel, by decide +kernel⟩, q_252, q_253⟩
theorem yo_State_append : Yv i_State_append := ⟨⟨qc_State_append, q_2, ⟨by decide +kernel, by decide +kernel, by decide +kernel⟩, by decide +kernel, by decide +kernel⟩, q_264, q_265⟩
theorem yo_State_appendCopy : Yv i_State_appendCopy := ⟨⟨qc_State_appendCopy, q_2, ⟨by decide +kernel, by decide +kernel, by decide +kernel⟩, by decide +kernel, by decide +kernel⟩, q_630, q_631⟩
theorem yo_State_shorten : Yv i_State_shorten := ⟨⟨qc_State_shorten, q_2, ⟨by decide +kernel, by decide +kernel, by decide +kernel⟩, by decide +kernel, by decide +kernel⟩, q_272, q_273⟩
theorem yo_State_setting : Yv i_State_setting := ⟨⟨qc_State_setting, q_2, ⟨by decide +kernel, by decide +kernel, by decide +kernel⟩, by decide +kernel, by decide +kernel⟩, q_256, q_257⟩
theorem yo_State_changeSetting : Yv i_State_changeSetting := ⟨⟨qc_State_changeSetting, q_2, ⟨by decide +kernel, by decide +kernel, by decide +kernel⟩, by decide +kernel, by decide +kernel⟩, q_260, q_261⟩
theorem yo_State_savingOf : Yv i_State_savingOf := ⟨⟨qc_State_savingOf, q_2, ⟨by decide +kernel, by decide +kernel, by decide +kernel⟩, by decide +kernel, by decide +kernel⟩, q_357, q_358⟩
theorem yo_State_likeLength : Yv i_State_likeLength := ⟨⟨qc_State_likeLength, q_2, ⟨by decide +kernel, by decide +kernel, by decide +kernel⟩, by decide +kernel, by decide +kernel⟩, q_366, q_367⟩
theorem yo_State_unlikeLetters : Yv i_State_unlikeLetters := ⟨⟨qc_State_unlikeLetters, q_2, ⟨by decide +kernel, by decide +kernel, by decide +kernel⟩, by decide +kernel, by decide +kernel⟩, q_502, q_503⟩
theorem yo_State_holds : Yv i_State_holds := ⟨⟨qc_State_holds, q_2, ⟨by decide +kernel, by decide +kernel, by decide +kernel⟩, by decide +kernel, by decide +kernel⟩, q_507, qs_9⟩
theorem yo_State_copyFrom : Yv i_State_copyFrom := ⟨⟨qc_State_copyFrom, q_2, ⟨by decide +kernel, by decide +kernel, by decide +kernel⟩, by decide +kernel, by decide +kernel⟩, q_239, q_240⟩
theorem yo_State_copyRowFrom : Yv i_State_copyRowFrom := ⟨⟨qc_State_copyRowFrom, q_2, ⟨by decide +kernel, by decide +kernel, by decide +kernel⟩, by decide +kernel, by decide +kernel⟩, q_243, q_244⟩
theorem yo_Stretch_init : Ym i_Stretch_init := ⟨qc_Stretch_init, q_6, ⟨by decide +kernel, by decide +kernel, by decide +kernel⟩, by decide +kernel, by decide +kernel⟩
theorem yo_Stretch_findLongest : Yv i_Stretch_findLongest := ⟨⟨qc_Stretch_findLongest, q_6, ⟨by decide +kernel, by decide +kernel, by decide +kernel⟩, by decide +kernel, by decide +kernel⟩, q_480, q_481⟩
theorem yo_Stretch_length : Yv i_Stretch_length := ⟨⟨qc_Stretch_length, q_6, ⟨by decide +kernel, by decide +kernel, by decide +kernel⟩, by decide +kernel, by decide +kernel⟩, q_486, q_487⟩
theorem yo_Stretch_former : Yv i_Stretch_former := ⟨⟨qc_Stretch_former, q_6, ⟨by decide +kernel, by decide +kernel, by decide +kernel⟩, by decide +kernel, by decide +kernel⟩, q_490, q_491⟩
theorem yo_Stretch_latter : Yv i_Stretch_latter := ⟨⟨qc_Stretch_latter, q_6, ⟨by decide +kernel, by decide +kernel, by decide +kernel⟩, by decide +kernel, by decide +kernel⟩, q_494, q_495⟩
theorem yo_Text_init : Ym i_Text_init := ⟨qc_Text_init, q_7, ⟨by decide +kernel, by decide +kernel, by decide +kernel⟩, by decide +kernel, by decide +kernel⟩
theorem yo_Text_size : Yv i_Text_size := ⟨⟨qc_Text_size, q_7, ⟨by decide +kernel, by decide +kernel, by decide +kernel⟩, by decide +kernel, by decide +kernel⟩, q_518, q_519⟩
theorem yo_Text_characterAt : Yv i_Text_characterAt := ⟨⟨qc_Text_characterAt, q_7, ⟨by decide +kernel, by decide +kernel, by decide +kernel⟩, by decide +kernel, by decide +kernel⟩, q_598, q_599⟩
theorem yo_Text_empty : Yv i_Text_empty := ⟨⟨qc_Text_empty, q_7, ⟨by decide +kernel, by decide +kernel, by decide +kernel⟩, by decide +kernel, by decide +kernel⟩, q_556, q_557⟩
theorem yo_Text_append : Yv i_Text_append := ⟨⟨qc_Text_append, q_7, ⟨by decide +kernel, by decide +kernel, by decide +kernel⟩, by decide +kernel, by decide +kernel⟩, q_547, q_548⟩
theorem yo_Text_appendCopy : Yv i_Text_appendCopy := ⟨⟨qc_Text_appendCopy, q_7, ⟨by decide +kernel, by decide +kernel, by decide +kernel⟩, by decide +kernel, by decide +kernel⟩, q_574, q_575⟩
theorem yo_Text_appendNumber : Yv i_Text_appendNumber := ⟨⟨qc_Text_appendNumber, q_7, ⟨by decide +kernel, by decide +kernel, by decide +kernel⟩, by decide +kernel, by decide +kernel⟩, q_580, qs_13⟩
theorem yo_Text_charactersOfCopy : Ys i_Text_charactersOfCopy := ⟨⟨qc_Text_charactersOfCopy, q_7, ⟨by decide +kernel, by decide +kernel, by decide +kernel⟩, by decide +kernel, by decide +kernel⟩, q_568⟩
theorem yo_Text_digitsOf : Ys i_Text_digitsOf := ⟨⟨qc_Text_digitsOf, q_7, ⟨by decide +kernel, by decide +kernel, by decide +kernel⟩, by decide +kernel, by decide +kernel⟩, q_571⟩
theorem yo_Reader_init : Ym i_Reader_init := ⟨qc_Reader_init, q_8, ⟨by decide +kernel, by decide +kernel, by decide +kernel⟩, by decide +kernel, by decide +kernel⟩
theorem yo_Reader_readThrough : Yv i_Reader_readThrough := ⟨⟨qc_Reader_readThrough, q_8, ⟨by decide +kernel, by decide +kernel, by decide +kernel⟩, by decide +kernel, by decide +kernel⟩, q_587, q_588⟩
theorem yo_Reader_hasFault : Yv i_Reader_hasFault := ⟨⟨qc_Reader_hasFault, q_8, ⟨by decide +kernel, by decide +kernel, by decide +kernel⟩, by decide +kernel, by decide +kernel⟩, q_594, q_595⟩
theorem yo_Reader_faultPlace : Yv i_Reader_faultPlace := ⟨⟨qc_Reader_faultPlace, q_8, ⟨by decide +kernel, by decide +kernel, by decide +kernel⟩, by decide +kernel, by decide +kernel⟩, q_642, q_643⟩
theorem yo_Reader_faultReason : Yv i_Reader_faultReason := ⟨⟨qc_Reader_faultReason, q_8, ⟨by decide +kernel, by decide +kernel, by decide +kernel⟩, by decide +kernel, by decide +kernel⟩, q_646, q_647⟩
theorem yo_Reader_told : Yv i_Reader_told := ⟨⟨qc_Reader_told, q_8, ⟨by decide +kernel, by decide +kernel, by decide +kernel⟩, by decide +kernel, by decide +kernel⟩, q_654, q_655⟩
theorem yo_Reader_takeLetter : Yv i_Reader_takeLetter := ⟨⟨qc_Reader_takeLetter, q_8, ⟨by decide +kernel, by decide +kernel, by decide +kernel⟩, by decide +kernel, by decide +kernel⟩, q_636, qs_20⟩
theorem yo_Reader_takeCopy : Yv i_Reader_takeCopy := ⟨⟨qc_Reader_takeCopy, q_8, ⟨by decide +kernel, by decide +kernel, by decide +kernel⟩, by decide +kernel, by decide +kernel⟩, q_604, qs_14⟩
theorem yo_Reader_reasonAgainst : Yv i_Reader_reasonAgainst := ⟨⟨qc_Reader_reasonAgainst, q_8, ⟨by decide +kernel, by decide +kernel, by decide +kernel⟩, by decide +kernel, by decide +kernel⟩, q_625, qs_19⟩
theorem yo_Reader_takeNumber : Yv i_Reader_takeNumber := ⟨⟨qc_Reader_takeNumber, q_8, ⟨by decide +kernel, by decide +kernel, by decide +kernel⟩, by decide +kernel, by decide +kernel⟩, q_608, qs_15⟩
theorem yo_Reader_digitAt : Yv i_Reader_digitAt := ⟨⟨qc_Reader_digitAt, q_8, ⟨by decide +kernel, by decide +kernel, by decide +kernel⟩, by decide +kernel, by decide +kernel⟩, q_612, qs_16⟩
theorem yo_Reader_takeSign : Yv i_Reader_takeSign := ⟨⟨qc_Reader_takeSign, q_8, ⟨by decide +kernel, by decide +kernel, by decide +kernel⟩, by decide +kernel, by decide +kernel⟩, q_621, qs_18⟩
theorem yo_Reader_blame : Yv i_Reader_blame := ⟨⟨qc_Reader_blame, q_8, ⟨by decide +kernel, by decide +kernel, by decide +kernel⟩, by decide +kernel, by decide +kernel⟩, q_617, qs_17⟩
/-- cell k is a State's object, its two rows behind it -/
def St (k : Nat) : Prop := dsL[k]? = some (1, 1) ∧ R0 k 0 = some (k + 1) ∧ R0 k 1 = some (k + 2) ∧ dsL[k + 1]? = some (0, 60) ∧ dsL[k + 2]? = some (0, 5) ∧ k + 2 < 51
abbrev Zn : ZT := (R0, 51, 0, 0)
theorem St.d {k : Nat} {cs sl : Nat} (h : St k) : DS (R0, 51, cs, sl) k (1, 1) := ⟨h.1, by show k < 51; have := h.2.2.2.2.2; omega⟩
theorem St.l {k : Nat} {cs sl : Nat} (h : St k) : DS (R0, 51, cs, sl) (k + 1) (0, 60) := ⟨h.2.2.2.1, by show k + 1 < 51; have := h.2.2.2.2.2; omega⟩
theorem St.g {k : Nat} {cs sl : Nat} (h : St k) : DS (R0, 51, cs, sl) (k + 2) (0, 5) := ⟨h.2.2.2.2.1, by show k + 2 < 51; have := h.2.2.2.2.2; omega⟩
theorem st_1 : St 1 := ⟨rfl, rfl, rfl, rfl, rfl, by decide⟩
theorem st_4 : St 4 := ⟨rfl, rfl, rfl, rfl, rfl, by decide⟩
theorem st_34 : St 34 := ⟨rfl, rfl, rfl, rfl, rfl, by decide⟩
theorem st_h (i : Nat) (hi : i < 4) : St (9 + 3 * i) := by
  match i, hi with
  | 0, _ => exact ⟨rfl, rfl, rfl, rfl, rfl, by decide⟩
  | 1, _ => exact ⟨rfl, rfl, rfl, rfl, rfl, by decide⟩
  | 2, _ => exact ⟨rfl, rfl, rfl, rfl, rfl, by decide⟩
  | 3, _ => exact ⟨rfl, rfl, rfl, rfl, rfl, by decide⟩
  | k + 4, h => exact absurd h (by omega)
end
section
theorem d_WC_init_0 : decode prog_1_method_1_code 0 = .ok (.aload_n 0, 1) := by decide +kernel
theorem d_WC_init_1 : decode prog_1_method_1_code 1 = .ok (.invokespecial 1, 3) := by decide +kernel
theorem d_WC_init_4 : decode prog_1_method_1_code 4 = .ok (.aload_n 0, 1) := by decide +kernel
theorem d_WC_init_5 : decode prog_1_method_1_code 5 = .ok (.new 7, 3) := by decide +kernel
theorem d_WC_init_8 : decode prog_1_method_1_code 8 = .ok (.dup, 1) := by decide +kernel
theorem d_WC_init_9 : decode prog_1_method_1_code 9 = .ok (.invokespecial 9, 3) := by decide +kernel
theorem d_WC_init_12 : decode prog_1_method_1_code 12 = .ok (.putfield 10, 3) := by decide +kernel
theorem d_WC_init_15 : decode prog_1_method_1_code 15 = .ok (.aload_n 0, 1) := by decide +kernel
theorem d_WC_init_16 : decode prog_1_method_1_code 16 = .ok (.new 7, 3) := by decide +kernel
theorem d_WC_init_19 : decode prog_1_method_1_code 19 = .ok (.dup, 1) := by decide +kernel
theorem d_WC_init_20 : decode prog_1_method_1_code 20 = .ok (.invokespecial 9, 3) := by decide +kernel
theorem d_WC_init_23 : decode prog_1_method_1_code 23 = .ok (.putfield 16, 3) := by decide +kernel
theorem d_WC_init_26 : decode prog_1_method_1_code 26 = .ok (.aload_n 0, 1) := by decide +kernel
theorem d_WC_init_27 : decode prog_1_method_1_code 27 = .ok (.iconst 0, 1) := by decide +kernel
theorem d_WC_init_28 : decode prog_1_method_1_code 28 = .ok (.putfield 19, 3) := by decide +kernel
theorem d_WC_init_31 : decode prog_1_method_1_code 31 = .ok (.aload_n 0, 1) := by decide +kernel
theorem d_WC_init_32 : decode prog_1_method_1_code 32 = .ok (.new 23, 3) := by decide +kernel
theorem d_WC_init_35 : decode prog_1_method_1_code 35 = .ok (.dup, 1) := by decide +kernel
theorem d_WC_init_36 : decode prog_1_method_1_code 36 = .ok (.invokespecial 25, 3) := by decide +kernel
theorem d_WC_init_39 : decode prog_1_method_1_code 39 = .ok (.putfield 26, 3) := by decide +kernel
theorem d_WC_init_42 : decode prog_1_method_1_code 42 = .ok (.aload_n 0, 1) := by decide +kernel
theorem d_WC_init_43 : decode prog_1_method_1_code 43 = .ok (.new 30, 3) := by decide +kernel
theorem d_WC_init_46 : decode prog_1_method_1_code 46 = .ok (.dup, 1) := by decide +kernel
theorem d_WC_init_47 : decode prog_1_method_1_code 47 = .ok (.aload_n 0, 1) := by decide +kernel
theorem d_WC_init_48 : decode prog_1_method_1_code 48 = .ok (.getfield 10, 3) := by decide +kernel
theorem d_WC_init_51 : decode prog_1_method_1_code 51 = .ok (.invokespecial 32, 3) := by decide +kernel
theorem d_WC_init_54 : decode prog_1_method_1_code 54 = .ok (.putfield 35, 3) := by decide +kernel
theorem d_WC_init_57 : decode prog_1_method_1_code 57 = .ok (.aload_n 0, 1) := by decide +kernel
theorem d_WC_init_58 : decode prog_1_method_1_code 58 = .ok (.new 39, 3) := by decide +kernel
theorem d_WC_init_61 : decode prog_1_method_1_code 61 = .ok (.dup, 1) := by decide +kernel
theorem d_WC_init_62 : decode prog_1_method_1_code 62 = .ok (.aload_n 0, 1) := by decide +kernel
theorem d_WC_init_63 : decode prog_1_method_1_code 63 = .ok (.getfield 10, 3) := by decide +kernel
theorem d_WC_init_66 : decode prog_1_method_1_code 66 = .ok (.aload_n 0, 1) := by decide +kernel
theorem d_WC_init_67 : decode prog_1_method_1_code 67 = .ok (.getfield 35, 3) := by decide +kernel
theorem d_WC_init_70 : decode prog_1_method_1_code 70 = .ok (.invokespecial 41, 3) := by decide +kernel
theorem d_WC_init_73 : decode prog_1_method_1_code 73 = .ok (.putfield 44, 3) := by decide +kernel
theorem d_WC_init_76 : decode prog_1_method_1_code 76 = .ok (.aload_n 0, 1) := by decide +kernel
theorem d_WC_init_77 : decode prog_1_method_1_code 77 = .ok (.new 48, 3) := by decide +kernel
theorem d_WC_init_80 : decode prog_1_method_1_code 80 = .ok (.dup, 1) := by decide +kernel
theorem d_WC_init_81 : decode prog_1_method_1_code 81 = .ok (.invokespecial 50, 3) := by decide +kernel
theorem d_WC_init_84 : decode prog_1_method_1_code 84 = .ok (.putfield 51, 3) := by decide +kernel
theorem d_WC_init_87 : decode prog_1_method_1_code 87 = .ok (.aload_n 0, 1) := by decide +kernel
theorem d_WC_init_88 : decode prog_1_method_1_code 88 = .ok (.new 55, 3) := by decide +kernel
theorem d_WC_init_91 : decode prog_1_method_1_code 91 = .ok (.dup, 1) := by decide +kernel
theorem d_WC_init_92 : decode prog_1_method_1_code 92 = .ok (.invokespecial 57, 3) := by decide +kernel
theorem d_WC_init_95 : decode prog_1_method_1_code 95 = .ok (.putfield 58, 3) := by decide +kernel
theorem d_WC_init_98 : decode prog_1_method_1_code 98 = .ok (.aload_n 0, 1) := by decide +kernel
theorem d_WC_init_99 : decode prog_1_method_1_code 99 = .ok (.new 62, 3) := by decide +kernel
theorem d_WC_init_102 : decode prog_1_method_1_code 102 = .ok (.dup, 1) := by decide +kernel
theorem d_WC_init_103 : decode prog_1_method_1_code 103 = .ok (.aload_n 0, 1) := by decide +kernel
theorem d_WC_init_104 : decode prog_1_method_1_code 104 = .ok (.getfield 58, 3) := by decide +kernel
theorem d_WC_init_107 : decode prog_1_method_1_code 107 = .ok (.aload_n 0, 1) := by decide +kernel
theorem d_WC_init_108 : decode prog_1_method_1_code 108 = .ok (.getfield 10, 3) := by decide +kernel
theorem d_WC_init_111 : decode prog_1_method_1_code 111 = .ok (.invokespecial 64, 3) := by decide +kernel
theorem d_WC_init_114 : decode prog_1_method_1_code 114 = .ok (.putfield 67, 3) := by decide +kernel
theorem d_WC_init_117 : decode prog_1_method_1_code 117 = .ok (.return_, 1) := by decide +kernel
theorem d_WC_put_0 : decode prog_1_method_2_code 0 = .ok (.iload_n 1, 1) := by decide +kernel
theorem d_WC_put_1 : decode prog_1_method_2_code 1 = .ok (.invokestatic 71, 3) := by decide +kernel
theorem d_WC_put_4 : decode prog_1_method_2_code 4 = .ok (.ifCond .ne 7, 3) := by decide +kernel
theorem d_WC_put_7 : decode prog_1_method_2_code 7 = .ok (.sipush (-10001), 3) := by decide +kernel
theorem d_WC_put_10 : decode prog_1_method_2_code 10 = .ok (.ireturn, 1) := by decide +kernel
theorem d_WC_put_11 : decode prog_1_method_2_code 11 = .ok (.aload_n 0, 1) := by decide +kernel
theorem d_WC_put_12 : decode prog_1_method_2_code 12 = .ok (.getfield 10, 3) := by decide +kernel
theorem d_WC_put_15 : decode prog_1_method_2_code 15 = .ok (.invokevirtual 75, 3) := by decide +kernel
theorem d_WC_put_18 : decode prog_1_method_2_code 18 = .ok (.bipush 60, 2) := by decide +kernel
theorem d_WC_put_20 : decode prog_1_method_2_code 20 = .ok (.if_icmp .lt 7, 3) := by decide +kernel
theorem d_WC_put_23 : decode prog_1_method_2_code 23 = .ok (.sipush (-10003), 3) := by decide +kernel
theorem d_WC_put_26 : decode prog_1_method_2_code 26 = .ok (.ireturn, 1) := by decide +kernel
theorem d_WC_put_27 : decode prog_1_method_2_code 27 = .ok (.aload_n 0, 1) := by decide +kernel
theorem d_WC_put_28 : decode prog_1_method_2_code 28 = .ok (.getfield 26, 3) := by decide +kernel
theorem d_WC_put_31 : decode prog_1_method_2_code 31 = .ok (.aload_n 0, 1) := by decide +kernel
theorem d_WC_put_32 : decode prog_1_method_2_code 32 = .ok (.getfield 10, 3) := by decide +kernel
theorem d_WC_put_35 : decode prog_1_method_2_code 35 = .ok (.invokevirtual 79, 3) := by decide +kernel
theorem d_WC_put_38 : decode prog_1_method_2_code 38 = .ok (.aload_n 0, 1) := by decide +kernel
theorem d_WC_put_39 : decode prog_1_method_2_code 39 = .ok (.getfield 10, 3) := by decide +kernel
theorem d_WC_put_42 : decode prog_1_method_2_code 42 = .ok (.iload_n 1, 1) := by decide +kernel
theorem d_WC_put_43 : decode prog_1_method_2_code 43 = .ok (.invokevirtual 82, 3) := by decide +kernel
theorem d_WC_put_46 : decode prog_1_method_2_code 46 = .ok (.aload_n 0, 1) := by decide +kernel
theorem d_WC_put_47 : decode prog_1_method_2_code 47 = .ok (.getfield 10, 3) := by decide +kernel
theorem d_WC_put_50 : decode prog_1_method_2_code 50 = .ok (.invokevirtual 75, 3) := by decide +kernel
theorem d_WC_put_53 : decode prog_1_method_2_code 53 = .ok (.ireturn, 1) := by decide +kernel
theorem d_WC_drop_0 : decode prog_1_method_3_code 0 = .ok (.iload_n 1, 1) := by decide +kernel
theorem d_WC_drop_1 : decode prog_1_method_3_code 1 = .ok (.iconst 1, 1) := by decide +kernel
theorem d_WC_drop_2 : decode prog_1_method_3_code 2 = .ok (.bipush 60, 2) := by decide +kernel
theorem d_WC_drop_4 : decode prog_1_method_3_code 4 = .ok (.invokestatic 86, 3) := by decide +kernel
theorem d_WC_drop_7 : decode prog_1_method_3_code 7 = .ok (.ifCond .ne 7, 3) := by decide +kernel
theorem d_WC_drop_10 : decode prog_1_method_3_code 10 = .ok (.sipush (-10001), 3) := by decide +kernel
theorem d_WC_drop_13 : decode prog_1_method_3_code 13 = .ok (.ireturn, 1) := by decide +kernel
theorem d_WC_drop_14 : decode prog_1_method_3_code 14 = .ok (.iload_n 1, 1) := by decide +kernel
theorem d_WC_drop_15 : decode prog_1_method_3_code 15 = .ok (.aload_n 0, 1) := by decide +kernel
theorem d_WC_drop_16 : decode prog_1_method_3_code 16 = .ok (.getfield 10, 3) := by decide +kernel
theorem d_WC_drop_19 : decode prog_1_method_3_code 19 = .ok (.invokevirtual 75, 3) := by decide +kernel
theorem d_WC_drop_22 : decode prog_1_method_3_code 22 = .ok (.if_icmp .le 7, 3) := by decide +kernel
theorem d_WC_drop_25 : decode prog_1_method_3_code 25 = .ok (.sipush (-10002), 3) := by decide +kernel
theorem d_WC_drop_28 : decode prog_1_method_3_code 28 = .ok (.ireturn, 1) := by decide +kernel
theorem d_WC_drop_29 : decode prog_1_method_3_code 29 = .ok (.aload_n 0, 1) := by decide +kernel
theorem d_WC_drop_30 : decode prog_1_method_3_code 30 = .ok (.getfield 26, 3) := by decide +kernel
theorem d_WC_drop_33 : decode prog_1_method_3_code 33 = .ok (.aload_n 0, 1) := by decide +kernel
theorem d_WC_drop_34 : decode prog_1_method_3_code 34 = .ok (.getfield 10, 3) := by decide +kernel
theorem d_WC_drop_37 : decode prog_1_method_3_code 37 = .ok (.invokevirtual 79, 3) := by decide +kernel
theorem d_WC_drop_40 : decode prog_1_method_3_code 40 = .ok (.aload_n 0, 1) := by decide +kernel
theorem d_WC_drop_41 : decode prog_1_method_3_code 41 = .ok (.getfield 10, 3) := by decide +kernel
theorem d_WC_drop_44 : decode prog_1_method_3_code 44 = .ok (.iload_n 1, 1) := by decide +kernel
theorem d_WC_drop_45 : decode prog_1_method_3_code 45 = .ok (.invokevirtual 90, 3) := by decide +kernel
theorem d_WC_drop_48 : decode prog_1_method_3_code 48 = .ok (.aload_n 0, 1) := by decide +kernel
theorem d_WC_drop_49 : decode prog_1_method_3_code 49 = .ok (.getfield 10, 3) := by decide +kernel
theorem d_WC_drop_52 : decode prog_1_method_3_code 52 = .ok (.invokevirtual 75, 3) := by decide +kernel
theorem d_WC_drop_55 : decode prog_1_method_3_code 55 = .ok (.ireturn, 1) := by decide +kernel
theorem d_WC_mend_0 : decode prog_1_method_4_code 0 = .ok (.aload_n 0, 1) := by decide +kernel
theorem d_WC_mend_1 : decode prog_1_method_4_code 1 = .ok (.getfield 10, 3) := by decide +kernel
theorem d_WC_mend_4 : decode prog_1_method_4_code 4 = .ok (.iload_n 1, 1) := by decide +kernel
theorem d_WC_mend_5 : decode prog_1_method_4_code 5 = .ok (.invokevirtual 93, 3) := by decide +kernel
theorem d_WC_mend_8 : decode prog_1_method_4_code 8 = .ok (.ifCond .eq 10, 3) := by decide +kernel
theorem d_WC_mend_11 : decode prog_1_method_4_code 11 = .ok (.iload_n 2, 1) := by decide +kernel
theorem d_WC_mend_12 : decode prog_1_method_4_code 12 = .ok (.invokestatic 71, 3) := by decide +kernel
theorem d_WC_mend_15 : decode prog_1_method_4_code 15 = .ok (.ifCond .ne 7, 3) := by decide +kernel
theorem d_WC_mend_18 : decode prog_1_method_4_code 18 = .ok (.sipush (-10001), 3) := by decide +kernel
theorem d_WC_mend_21 : decode prog_1_method_4_code 21 = .ok (.ireturn, 1) := by decide +kernel
theorem d_WC_mend_22 : decode prog_1_method_4_code 22 = .ok (.aload_n 0, 1) := by decide +kernel
theorem d_WC_mend_23 : decode prog_1_method_4_code 23 = .ok (.getfield 26, 3) := by decide +kernel
theorem d_WC_mend_26 : decode prog_1_method_4_code 26 = .ok (.aload_n 0, 1) := by decide +kernel
theorem d_WC_mend_27 : decode prog_1_method_4_code 27 = .ok (.getfield 10, 3) := by decide +kernel
theorem d_WC_mend_30 : decode prog_1_method_4_code 30 = .ok (.invokevirtual 79, 3) := by decide +kernel
theorem d_WC_mend_33 : decode prog_1_method_4_code 33 = .ok (.aload_n 0, 1) := by decide +kernel
theorem d_WC_mend_34 : decode prog_1_method_4_code 34 = .ok (.getfield 10, 3) := by decide +kernel
theorem d_WC_mend_37 : decode prog_1_method_4_code 37 = .ok (.iload_n 1, 1) := by decide +kernel
theorem d_WC_mend_38 : decode prog_1_method_4_code 38 = .ok (.invokevirtual 96, 3) := by decide +kernel
theorem d_WC_mend_41 : decode prog_1_method_4_code 41 = .ok (.istore_n 3, 1) := by decide +kernel
theorem d_WC_mend_42 : decode prog_1_method_4_code 42 = .ok (.aload_n 0, 1) := by decide +kernel
theorem d_WC_mend_43 : decode prog_1_method_4_code 43 = .ok (.getfield 10, 3) := by decide +kernel
theorem d_WC_mend_46 : decode prog_1_method_4_code 46 = .ok (.iload_n 1, 1) := by decide +kernel
theorem d_WC_mend_47 : decode prog_1_method_4_code 47 = .ok (.iload_n 2, 1) := by decide +kernel
theorem d_WC_mend_48 : decode prog_1_method_4_code 48 = .ok (.invokevirtual 100, 3) := by decide +kernel
theorem d_WC_mend_51 : decode prog_1_method_4_code 51 = .ok (.iload_n 3, 1) := by decide +kernel
theorem d_WC_mend_52 : decode prog_1_method_4_code 52 = .ok (.ireturn, 1) := by decide +kernel
theorem d_WC_set_0 : decode prog_1_method_5_code 0 = .ok (.iload_n 1, 1) := by decide +kernel
theorem d_WC_set_1 : decode prog_1_method_5_code 1 = .ok (.iconst 0, 1) := by decide +kernel
theorem d_WC_set_2 : decode prog_1_method_5_code 2 = .ok (.iconst 4, 1) := by decide +kernel
theorem d_WC_set_3 : decode prog_1_method_5_code 3 = .ok (.invokestatic 86, 3) := by decide +kernel
theorem d_WC_set_6 : decode prog_1_method_5_code 6 = .ok (.ifCond .eq 24, 3) := by decide +kernel
theorem d_WC_set_9 : decode prog_1_method_5_code 9 = .ok (.iload_n 2, 1) := by decide +kernel
theorem d_WC_set_10 : decode prog_1_method_5_code 10 = .ok (.getstatic 104, 3) := by decide +kernel
theorem d_WC_set_13 : decode prog_1_method_5_code 13 = .ok (.iload_n 1, 1) := by decide +kernel
theorem d_WC_set_14 : decode prog_1_method_5_code 14 = .ok (.invokestatic 108, 3) := by decide +kernel
theorem d_WC_set_17 : decode prog_1_method_5_code 17 = .ok (.getstatic 112, 3) := by decide +kernel
theorem d_WC_set_20 : decode prog_1_method_5_code 20 = .ok (.iload_n 1, 1) := by decide +kernel
theorem d_WC_set_21 : decode prog_1_method_5_code 21 = .ok (.invokestatic 108, 3) := by decide +kernel
theorem d_WC_set_24 : decode prog_1_method_5_code 24 = .ok (.invokestatic 86, 3) := by decide +kernel
theorem d_WC_set_27 : decode prog_1_method_5_code 27 = .ok (.ifCond .ne 7, 3) := by decide +kernel
theorem d_WC_set_30 : decode prog_1_method_5_code 30 = .ok (.sipush (-10001), 3) := by decide +kernel
theorem d_WC_set_33 : decode prog_1_method_5_code 33 = .ok (.ireturn, 1) := by decide +kernel
theorem d_WC_set_34 : decode prog_1_method_5_code 34 = .ok (.aload_n 0, 1) := by decide +kernel
theorem d_WC_set_35 : decode prog_1_method_5_code 35 = .ok (.getfield 26, 3) := by decide +kernel
theorem d_WC_set_38 : decode prog_1_method_5_code 38 = .ok (.aload_n 0, 1) := by decide +kernel
theorem d_WC_set_39 : decode prog_1_method_5_code 39 = .ok (.getfield 10, 3) := by decide +kernel
theorem d_WC_set_42 : decode prog_1_method_5_code 42 = .ok (.invokevirtual 79, 3) := by decide +kernel
theorem d_WC_set_45 : decode prog_1_method_5_code 45 = .ok (.aload_n 0, 1) := by decide +kernel
theorem d_WC_set_46 : decode prog_1_method_5_code 46 = .ok (.getfield 10, 3) := by decide +kernel
theorem d_WC_set_49 : decode prog_1_method_5_code 49 = .ok (.iload_n 1, 1) := by decide +kernel
theorem d_WC_set_50 : decode prog_1_method_5_code 50 = .ok (.invokevirtual 115, 3) := by decide +kernel
theorem d_WC_set_53 : decode prog_1_method_5_code 53 = .ok (.istore_n 3, 1) := by decide +kernel
theorem d_WC_set_54 : decode prog_1_method_5_code 54 = .ok (.aload_n 0, 1) := by decide +kernel
theorem d_WC_set_55 : decode prog_1_method_5_code 55 = .ok (.getfield 10, 3) := by decide +kernel
theorem d_WC_set_58 : decode prog_1_method_5_code 58 = .ok (.iload_n 1, 1) := by decide +kernel
theorem d_WC_set_59 : decode prog_1_method_5_code 59 = .ok (.iload_n 2, 1) := by decide +kernel
theorem d_WC_set_60 : decode prog_1_method_5_code 60 = .ok (.invokevirtual 118, 3) := by decide +kernel
theorem d_WC_set_63 : decode prog_1_method_5_code 63 = .ok (.iload_n 3, 1) := by decide +kernel
theorem d_WC_set_64 : decode prog_1_method_5_code 64 = .ok (.ireturn, 1) := by decide +kernel
theorem d_WC_letter_0 : decode prog_1_method_6_code 0 = .ok (.aload_n 0, 1) := by decide +kernel
theorem d_WC_letter_1 : decode prog_1_method_6_code 1 = .ok (.getfield 10, 3) := by decide +kernel
theorem d_WC_letter_4 : decode prog_1_method_6_code 4 = .ok (.iload_n 1, 1) := by decide +kernel
theorem d_WC_letter_5 : decode prog_1_method_6_code 5 = .ok (.invokevirtual 93, 3) := by decide +kernel
theorem d_WC_letter_8 : decode prog_1_method_6_code 8 = .ok (.ifCond .eq 14, 3) := by decide +kernel
theorem d_WC_letter_11 : decode prog_1_method_6_code 11 = .ok (.aload_n 0, 1) := by decide +kernel
theorem d_WC_letter_12 : decode prog_1_method_6_code 12 = .ok (.getfield 10, 3) := by decide +kernel
theorem d_WC_letter_15 : decode prog_1_method_6_code 15 = .ok (.iload_n 1, 1) := by decide +kernel
theorem d_WC_letter_16 : decode prog_1_method_6_code 16 = .ok (.invokevirtual 96, 3) := by decide +kernel
theorem d_WC_letter_19 : decode prog_1_method_6_code 19 = .ok (.goto 6, 3) := by decide +kernel
theorem d_WC_letter_22 : decode prog_1_method_6_code 22 = .ok (.sipush (-10001), 3) := by decide +kernel
theorem d_WC_letter_25 : decode prog_1_method_6_code 25 = .ok (.ireturn, 1) := by decide +kernel
theorem d_WC_candidate_0 : decode prog_1_method_7_code 0 = .ok (.aload_n 0, 1) := by decide +kernel
theorem d_WC_candidate_1 : decode prog_1_method_7_code 1 = .ok (.getfield 10, 3) := by decide +kernel
theorem d_WC_candidate_4 : decode prog_1_method_7_code 4 = .ok (.iload_n 1, 1) := by decide +kernel
theorem d_WC_candidate_5 : decode prog_1_method_7_code 5 = .ok (.invokevirtual 93, 3) := by decide +kernel
theorem d_WC_candidate_8 : decode prog_1_method_7_code 8 = .ok (.ifCond .eq 16, 3) := by decide +kernel
theorem d_WC_candidate_11 : decode prog_1_method_7_code 11 = .ok (.iload_n 2, 1) := by decide +kernel
theorem d_WC_candidate_12 : decode prog_1_method_7_code 12 = .ok (.ifCond .lt 12, 3) := by decide +kernel
theorem d_WC_candidate_15 : decode prog_1_method_7_code 15 = .ok (.iload_n 3, 1) := by decide +kernel
theorem d_WC_candidate_16 : decode prog_1_method_7_code 16 = .ok (.iconst 0, 1) := by decide +kernel
theorem d_WC_candidate_17 : decode prog_1_method_7_code 17 = .ok (.iconst 1, 1) := by decide +kernel
theorem d_WC_candidate_18 : decode prog_1_method_7_code 18 = .ok (.invokestatic 86, 3) := by decide +kernel
theorem d_WC_candidate_21 : decode prog_1_method_7_code 21 = .ok (.ifCond .ne 7, 3) := by decide +kernel
theorem d_WC_candidate_24 : decode prog_1_method_7_code 24 = .ok (.sipush (-10001), 3) := by decide +kernel
theorem d_WC_candidate_27 : decode prog_1_method_7_code 27 = .ok (.ireturn, 1) := by decide +kernel
theorem d_WC_candidate_28 : decode prog_1_method_7_code 28 = .ok (.aload_n 0, 1) := by decide +kernel
theorem d_WC_candidate_29 : decode prog_1_method_7_code 29 = .ok (.getfield 35, 3) := by decide +kernel
theorem d_WC_candidate_32 : decode prog_1_method_7_code 32 = .ok (.iload_n 1, 1) := by decide +kernel
theorem d_WC_candidate_33 : decode prog_1_method_7_code 33 = .ok (.invokevirtual 121, 3) := by decide +kernel
theorem d_WC_candidate_36 : decode prog_1_method_7_code 36 = .ok (.iload_n 2, 1) := by decide +kernel
theorem d_WC_candidate_37 : decode prog_1_method_7_code 37 = .ok (.aload_n 0, 1) := by decide +kernel
theorem d_WC_candidate_38 : decode prog_1_method_7_code 38 = .ok (.getfield 35, 3) := by decide +kernel
theorem d_WC_candidate_41 : decode prog_1_method_7_code 41 = .ok (.invokevirtual 124, 3) := by decide +kernel
theorem d_WC_candidate_44 : decode prog_1_method_7_code 44 = .ok (.if_icmp .lt 7, 3) := by decide +kernel
theorem d_WC_candidate_47 : decode prog_1_method_7_code 47 = .ok (.sipush (-10004), 3) := by decide +kernel
theorem d_WC_candidate_50 : decode prog_1_method_7_code 50 = .ok (.ireturn, 1) := by decide +kernel
theorem d_WC_candidate_51 : decode prog_1_method_7_code 51 = .ok (.iload_n 3, 1) := by decide +kernel
theorem d_WC_candidate_52 : decode prog_1_method_7_code 52 = .ok (.ifCond .ne 14, 3) := by decide +kernel
theorem d_WC_candidate_55 : decode prog_1_method_7_code 55 = .ok (.aload_n 0, 1) := by decide +kernel
theorem d_WC_candidate_56 : decode prog_1_method_7_code 56 = .ok (.getfield 35, 3) := by decide +kernel
theorem d_WC_candidate_59 : decode prog_1_method_7_code 59 = .ok (.iload_n 2, 1) := by decide +kernel
theorem d_WC_candidate_60 : decode prog_1_method_7_code 60 = .ok (.invokevirtual 127, 3) := by decide +kernel
theorem d_WC_candidate_63 : decode prog_1_method_7_code 63 = .ok (.goto 11, 3) := by decide +kernel
theorem d_WC_candidate_66 : decode prog_1_method_7_code 66 = .ok (.aload_n 0, 1) := by decide +kernel
theorem d_WC_candidate_67 : decode prog_1_method_7_code 67 = .ok (.getfield 35, 3) := by decide +kernel
theorem d_WC_candidate_70 : decode prog_1_method_7_code 70 = .ok (.iload_n 2, 1) := by decide +kernel
theorem d_WC_candidate_71 : decode prog_1_method_7_code 71 = .ok (.invokevirtual 130, 3) := by decide +kernel
theorem d_WC_candidate_74 : decode prog_1_method_7_code 74 = .ok (.ireturn, 1) := by decide +kernel
theorem d_WC_found_0 : decode prog_1_method_8_code 0 = .ok (.aload_n 0, 1) := by decide +kernel
theorem d_WC_found_1 : decode prog_1_method_8_code 1 = .ok (.getfield 10, 3) := by decide +kernel
theorem d_WC_found_4 : decode prog_1_method_8_code 4 = .ok (.iload_n 1, 1) := by decide +kernel
theorem d_WC_found_5 : decode prog_1_method_8_code 5 = .ok (.invokevirtual 93, 3) := by decide +kernel
theorem d_WC_found_8 : decode prog_1_method_8_code 8 = .ok (.ifCond .eq 12, 3) := by decide +kernel
theorem d_WC_found_11 : decode prog_1_method_8_code 11 = .ok (.iload_n 2, 1) := by decide +kernel
theorem d_WC_found_12 : decode prog_1_method_8_code 12 = .ok (.iconst 0, 1) := by decide +kernel
theorem d_WC_found_13 : decode prog_1_method_8_code 13 = .ok (.iconst 3, 1) := by decide +kernel
theorem d_WC_found_14 : decode prog_1_method_8_code 14 = .ok (.invokestatic 86, 3) := by decide +kernel
theorem d_WC_found_17 : decode prog_1_method_8_code 17 = .ok (.ifCond .ne 7, 3) := by decide +kernel
theorem d_WC_found_20 : decode prog_1_method_8_code 20 = .ok (.sipush (-10001), 3) := by decide +kernel
theorem d_WC_found_23 : decode prog_1_method_8_code 23 = .ok (.ireturn, 1) := by decide +kernel
theorem d_WC_found_24 : decode prog_1_method_8_code 24 = .ok (.aload_n 0, 1) := by decide +kernel
theorem d_WC_found_25 : decode prog_1_method_8_code 25 = .ok (.getfield 35, 3) := by decide +kernel
theorem d_WC_found_28 : decode prog_1_method_8_code 28 = .ok (.iload_n 1, 1) := by decide +kernel
theorem d_WC_found_29 : decode prog_1_method_8_code 29 = .ok (.invokevirtual 121, 3) := by decide +kernel
theorem d_WC_found_32 : decode prog_1_method_8_code 32 = .ok (.iload_n 2, 1) := by decide +kernel
theorem d_WC_found_33 : decode prog_1_method_8_code 33 = .ok (.iconst 3, 1) := by decide +kernel
theorem d_WC_found_34 : decode prog_1_method_8_code 34 = .ok (.if_icmp .ne 11, 3) := by decide +kernel
theorem d_WC_found_37 : decode prog_1_method_8_code 37 = .ok (.aload_n 0, 1) := by decide +kernel
theorem d_WC_found_38 : decode prog_1_method_8_code 38 = .ok (.getfield 35, 3) := by decide +kernel
theorem d_WC_found_41 : decode prog_1_method_8_code 41 = .ok (.invokevirtual 133, 3) := by decide +kernel
theorem d_WC_found_44 : decode prog_1_method_8_code 44 = .ok (.ireturn, 1) := by decide +kernel
theorem d_WC_found_45 : decode prog_1_method_8_code 45 = .ok (.aload_n 0, 1) := by decide +kernel
theorem d_WC_found_46 : decode prog_1_method_8_code 46 = .ok (.getfield 35, 3) := by decide +kernel
theorem d_WC_found_49 : decode prog_1_method_8_code 49 = .ok (.invokevirtual 136, 3) := by decide +kernel
theorem d_WC_found_52 : decode prog_1_method_8_code 52 = .ok (.istore_n 3, 1) := by decide +kernel
theorem d_WC_found_53 : decode prog_1_method_8_code 53 = .ok (.iload_n 3, 1) := by decide +kernel
theorem d_WC_found_54 : decode prog_1_method_8_code 54 = .ok (.iconst (-1), 1) := by decide +kernel
theorem d_WC_found_55 : decode prog_1_method_8_code 55 = .ok (.if_icmp .ne 7, 3) := by decide +kernel
theorem d_WC_found_58 : decode prog_1_method_8_code 58 = .ok (.sipush (-10004), 3) := by decide +kernel
theorem d_WC_found_61 : decode prog_1_method_8_code 61 = .ok (.ireturn, 1) := by decide +kernel
theorem d_WC_found_62 : decode prog_1_method_8_code 62 = .ok (.iload_n 2, 1) := by decide +kernel
theorem d_WC_found_63 : decode prog_1_method_8_code 63 = .ok (.lookupswitch 43 #[(0, 25), (1, 34)], 25) := by decide +kernel
theorem d_WC_found_88 : decode prog_1_method_8_code 88 = .ok (.aload_n 0, 1) := by decide +kernel
theorem d_WC_found_89 : decode prog_1_method_8_code 89 = .ok (.getfield 35, 3) := by decide +kernel
theorem d_WC_found_92 : decode prog_1_method_8_code 92 = .ok (.iload_n 3, 1) := by decide +kernel
theorem d_WC_found_93 : decode prog_1_method_8_code 93 = .ok (.invokevirtual 127, 3) := by decide +kernel
theorem d_WC_found_96 : decode prog_1_method_8_code 96 = .ok (.ireturn, 1) := by decide +kernel
theorem d_WC_found_97 : decode prog_1_method_8_code 97 = .ok (.aload_n 0, 1) := by decide +kernel
theorem d_WC_found_98 : decode prog_1_method_8_code 98 = .ok (.getfield 35, 3) := by decide +kernel
theorem d_WC_found_101 : decode prog_1_method_8_code 101 = .ok (.iload_n 3, 1) := by decide +kernel
theorem d_WC_found_102 : decode prog_1_method_8_code 102 = .ok (.invokevirtual 130, 3) := by decide +kernel
theorem d_WC_found_105 : decode prog_1_method_8_code 105 = .ok (.ireturn, 1) := by decide +kernel
theorem d_WC_found_106 : decode prog_1_method_8_code 106 = .ok (.aload_n 0, 1) := by decide +kernel
theorem d_WC_found_107 : decode prog_1_method_8_code 107 = .ok (.getfield 10, 3) := by decide +kernel
theorem d_WC_found_110 : decode prog_1_method_8_code 110 = .ok (.aload_n 0, 1) := by decide +kernel
theorem d_WC_found_111 : decode prog_1_method_8_code 111 = .ok (.getfield 35, 3) := by decide +kernel
theorem d_WC_found_114 : decode prog_1_method_8_code 114 = .ok (.iload_n 3, 1) := by decide +kernel
theorem d_WC_found_115 : decode prog_1_method_8_code 115 = .ok (.invokevirtual 130, 3) := by decide +kernel
theorem d_WC_found_118 : decode prog_1_method_8_code 118 = .ok (.invokevirtual 139, 3) := by decide +kernel
theorem d_WC_found_121 : decode prog_1_method_8_code 121 = .ok (.ireturn, 1) := by decide +kernel
theorem d_WC_isCopy_0 : decode prog_1_method_9_code 0 = .ok (.aload_n 0, 1) := by decide +kernel
theorem d_WC_isCopy_1 : decode prog_1_method_9_code 1 = .ok (.getfield 10, 3) := by decide +kernel
theorem d_WC_isCopy_4 : decode prog_1_method_9_code 4 = .ok (.iload_n 1, 1) := by decide +kernel
theorem d_WC_isCopy_5 : decode prog_1_method_9_code 5 = .ok (.invokevirtual 93, 3) := by decide +kernel
theorem d_WC_isCopy_8 : decode prog_1_method_9_code 8 = .ok (.ifCond .ne 7, 3) := by decide +kernel
theorem d_WC_isCopy_11 : decode prog_1_method_9_code 11 = .ok (.sipush (-10001), 3) := by decide +kernel
theorem d_WC_isCopy_14 : decode prog_1_method_9_code 14 = .ok (.ireturn, 1) := by decide +kernel
theorem d_WC_isCopy_15 : decode prog_1_method_9_code 15 = .ok (.iload_n 2, 1) := by decide +kernel
theorem d_WC_isCopy_16 : decode prog_1_method_9_code 16 = .ok (.iconst 1, 1) := by decide +kernel
theorem d_WC_isCopy_17 : decode prog_1_method_9_code 17 = .ok (.aload_n 0, 1) := by decide +kernel
theorem d_WC_isCopy_18 : decode prog_1_method_9_code 18 = .ok (.getfield 10, 3) := by decide +kernel
theorem d_WC_isCopy_21 : decode prog_1_method_9_code 21 = .ok (.iconst 0, 1) := by decide +kernel
theorem d_WC_isCopy_22 : decode prog_1_method_9_code 22 = .ok (.invokevirtual 115, 3) := by decide +kernel
theorem d_WC_isCopy_25 : decode prog_1_method_9_code 25 = .ok (.iload_n 1, 1) := by decide +kernel
theorem d_WC_isCopy_26 : decode prog_1_method_9_code 26 = .ok (.invokestatic 142, 3) := by decide +kernel
theorem d_WC_isCopy_29 : decode prog_1_method_9_code 29 = .ok (.invokestatic 86, 3) := by decide +kernel
theorem d_WC_isCopy_32 : decode prog_1_method_9_code 32 = .ok (.istore 4, 2) := by decide +kernel
theorem d_WC_isCopy_34 : decode prog_1_method_9_code 34 = .ok (.iload_n 3, 1) := by decide +kernel
theorem d_WC_isCopy_35 : decode prog_1_method_9_code 35 = .ok (.aload_n 0, 1) := by decide +kernel
theorem d_WC_isCopy_36 : decode prog_1_method_9_code 36 = .ok (.getfield 10, 3) := by decide +kernel
theorem d_WC_isCopy_39 : decode prog_1_method_9_code 39 = .ok (.iconst 1, 1) := by decide +kernel
theorem d_WC_isCopy_40 : decode prog_1_method_9_code 40 = .ok (.invokevirtual 115, 3) := by decide +kernel
theorem d_WC_isCopy_43 : decode prog_1_method_9_code 43 = .ok (.bipush 20, 2) := by decide +kernel
theorem d_WC_isCopy_45 : decode prog_1_method_9_code 45 = .ok (.invokestatic 86, 3) := by decide +kernel
theorem d_WC_isCopy_48 : decode prog_1_method_9_code 48 = .ok (.istore 5, 2) := by decide +kernel
theorem d_WC_isCopy_50 : decode prog_1_method_9_code 50 = .ok (.iload 4, 2) := by decide +kernel
theorem d_WC_isCopy_52 : decode prog_1_method_9_code 52 = .ok (.ifCond .eq 27, 3) := by decide +kernel
theorem d_WC_isCopy_55 : decode prog_1_method_9_code 55 = .ok (.iload 5, 2) := by decide +kernel
theorem d_WC_isCopy_57 : decode prog_1_method_9_code 57 = .ok (.ifCond .eq 22, 3) := by decide +kernel
theorem d_WC_isCopy_60 : decode prog_1_method_9_code 60 = .ok (.aload_n 0, 1) := by decide +kernel
theorem d_WC_isCopy_61 : decode prog_1_method_9_code 61 = .ok (.getfield 10, 3) := by decide +kernel
theorem d_WC_isCopy_64 : decode prog_1_method_9_code 64 = .ok (.iload_n 1, 1) := by decide +kernel
theorem d_WC_isCopy_65 : decode prog_1_method_9_code 65 = .ok (.iload_n 2, 1) := by decide +kernel
theorem d_WC_isCopy_66 : decode prog_1_method_9_code 66 = .ok (.isub, 1) := by decide +kernel
theorem d_WC_isCopy_67 : decode prog_1_method_9_code 67 = .ok (.iload_n 1, 1) := by decide +kernel
theorem d_WC_isCopy_68 : decode prog_1_method_9_code 68 = .ok (.invokevirtual 148, 3) := by decide +kernel
theorem d_WC_isCopy_71 : decode prog_1_method_9_code 71 = .ok (.iload_n 3, 1) := by decide +kernel
theorem d_WC_isCopy_72 : decode prog_1_method_9_code 72 = .ok (.if_icmp .lt 7, 3) := by decide +kernel
theorem d_WC_isCopy_75 : decode prog_1_method_9_code 75 = .ok (.iconst 1, 1) := by decide +kernel
theorem d_WC_isCopy_76 : decode prog_1_method_9_code 76 = .ok (.goto 4, 3) := by decide +kernel
theorem d_WC_isCopy_79 : decode prog_1_method_9_code 79 = .ok (.iconst 0, 1) := by decide +kernel
theorem d_WC_isCopy_80 : decode prog_1_method_9_code 80 = .ok (.ireturn, 1) := by decide +kernel
theorem d_WC_part_0 : decode prog_1_method_10_code 0 = .ok (.iload_n 1, 1) := by decide +kernel
theorem d_WC_part_1 : decode prog_1_method_10_code 1 = .ok (.invokestatic 151, 3) := by decide +kernel
theorem d_WC_part_4 : decode prog_1_method_10_code 4 = .ok (.ifCond .eq 16, 3) := by decide +kernel
theorem d_WC_part_7 : decode prog_1_method_10_code 7 = .ok (.iload_n 2, 1) := by decide +kernel
theorem d_WC_part_8 : decode prog_1_method_10_code 8 = .ok (.ifCond .lt 12, 3) := by decide +kernel
theorem d_WC_part_11 : decode prog_1_method_10_code 11 = .ok (.iload_n 3, 1) := by decide +kernel
theorem d_WC_part_12 : decode prog_1_method_10_code 12 = .ok (.iconst 0, 1) := by decide +kernel
theorem d_WC_part_13 : decode prog_1_method_10_code 13 = .ok (.iconst 3, 1) := by decide +kernel
theorem d_WC_part_14 : decode prog_1_method_10_code 14 = .ok (.invokestatic 86, 3) := by decide +kernel
theorem d_WC_part_17 : decode prog_1_method_10_code 17 = .ok (.ifCond .ne 7, 3) := by decide +kernel
theorem d_WC_part_20 : decode prog_1_method_10_code 20 = .ok (.sipush (-10001), 3) := by decide +kernel
theorem d_WC_part_23 : decode prog_1_method_10_code 23 = .ok (.ireturn, 1) := by decide +kernel
theorem d_WC_part_24 : decode prog_1_method_10_code 24 = .ok (.aload_n 0, 1) := by decide +kernel
theorem d_WC_part_25 : decode prog_1_method_10_code 25 = .ok (.getfield 44, 3) := by decide +kernel
theorem d_WC_part_28 : decode prog_1_method_10_code 28 = .ok (.invokevirtual 154, 3) := by decide +kernel
theorem d_WC_part_31 : decode prog_1_method_10_code 31 = .ok (.aload_n 0, 1) := by decide +kernel
theorem d_WC_part_32 : decode prog_1_method_10_code 32 = .ok (.getfield 44, 3) := by decide +kernel
theorem d_WC_part_35 : decode prog_1_method_10_code 35 = .ok (.iload_n 1, 1) := by decide +kernel
theorem d_WC_part_36 : decode prog_1_method_10_code 36 = .ok (.invokevirtual 157, 3) := by decide +kernel
theorem d_WC_part_39 : decode prog_1_method_10_code 39 = .ok (.iload_n 2, 1) := by decide +kernel
theorem d_WC_part_40 : decode prog_1_method_10_code 40 = .ok (.aload_n 0, 1) := by decide +kernel
theorem d_WC_part_41 : decode prog_1_method_10_code 41 = .ok (.getfield 44, 3) := by decide +kernel
theorem d_WC_part_44 : decode prog_1_method_10_code 44 = .ok (.invokevirtual 160, 3) := by decide +kernel
theorem d_WC_part_47 : decode prog_1_method_10_code 47 = .ok (.if_icmp .lt 7, 3) := by decide +kernel
theorem d_WC_part_50 : decode prog_1_method_10_code 50 = .ok (.sipush (-10004), 3) := by decide +kernel
theorem d_WC_part_53 : decode prog_1_method_10_code 53 = .ok (.ireturn, 1) := by decide +kernel
theorem d_WC_part_54 : decode prog_1_method_10_code 54 = .ok (.aload_n 0, 1) := by decide +kernel
theorem d_WC_part_55 : decode prog_1_method_10_code 55 = .ok (.getfield 44, 3) := by decide +kernel
theorem d_WC_part_58 : decode prog_1_method_10_code 58 = .ok (.iload_n 2, 1) := by decide +kernel
theorem d_WC_part_59 : decode prog_1_method_10_code 59 = .ok (.invokevirtual 163, 3) := by decide +kernel
theorem d_WC_part_62 : decode prog_1_method_10_code 62 = .ok (.istore 4, 2) := by decide +kernel
theorem d_WC_part_64 : decode prog_1_method_10_code 64 = .ok (.iload_n 3, 1) := by decide +kernel
theorem d_WC_part_65 : decode prog_1_method_10_code 65 = .ok (.tableswitch 52 0 2 #[27, 30, 41], 27) := by decide +kernel
theorem d_WC_part_92 : decode prog_1_method_10_code 92 = .ok (.iload 4, 2) := by decide +kernel
theorem d_WC_part_94 : decode prog_1_method_10_code 94 = .ok (.ireturn, 1) := by decide +kernel
theorem d_WC_part_95 : decode prog_1_method_10_code 95 = .ok (.aload_n 0, 1) := by decide +kernel
theorem d_WC_part_96 : decode prog_1_method_10_code 96 = .ok (.getfield 44, 3) := by decide +kernel
theorem d_WC_part_99 : decode prog_1_method_10_code 99 = .ok (.iload_n 1, 1) := by decide +kernel
theorem d_WC_part_100 : decode prog_1_method_10_code 100 = .ok (.iload 4, 2) := by decide +kernel
theorem d_WC_part_102 : decode prog_1_method_10_code 102 = .ok (.invokevirtual 166, 3) := by decide +kernel
theorem d_WC_part_105 : decode prog_1_method_10_code 105 = .ok (.ireturn, 1) := by decide +kernel
theorem d_WC_part_106 : decode prog_1_method_10_code 106 = .ok (.aload_n 0, 1) := by decide +kernel
theorem d_WC_part_107 : decode prog_1_method_10_code 107 = .ok (.getfield 44, 3) := by decide +kernel
theorem d_WC_part_110 : decode prog_1_method_10_code 110 = .ok (.iload_n 1, 1) := by decide +kernel
theorem d_WC_part_111 : decode prog_1_method_10_code 111 = .ok (.iload 4, 2) := by decide +kernel
theorem d_WC_part_113 : decode prog_1_method_10_code 113 = .ok (.invokevirtual 169, 3) := by decide +kernel
theorem d_WC_part_116 : decode prog_1_method_10_code 116 = .ok (.ireturn, 1) := by decide +kernel
theorem d_WC_part_117 : decode prog_1_method_10_code 117 = .ok (.aload_n 0, 1) := by decide +kernel
theorem d_WC_part_118 : decode prog_1_method_10_code 118 = .ok (.getfield 10, 3) := by decide +kernel
theorem d_WC_part_121 : decode prog_1_method_10_code 121 = .ok (.aload_n 0, 1) := by decide +kernel
theorem d_WC_part_122 : decode prog_1_method_10_code 122 = .ok (.getfield 44, 3) := by decide +kernel
theorem d_WC_part_125 : decode prog_1_method_10_code 125 = .ok (.iload_n 1, 1) := by decide +kernel
theorem d_WC_part_126 : decode prog_1_method_10_code 126 = .ok (.iload 4, 2) := by decide +kernel
theorem d_WC_part_128 : decode prog_1_method_10_code 128 = .ok (.invokevirtual 169, 3) := by decide +kernel
theorem d_WC_part_131 : decode prog_1_method_10_code 131 = .ok (.ifCond .ne 7, 3) := by decide +kernel
theorem d_WC_part_134 : decode prog_1_method_10_code 134 = .ok (.iconst 3, 1) := by decide +kernel
theorem d_WC_part_135 : decode prog_1_method_10_code 135 = .ok (.goto 4, 3) := by decide +kernel
theorem d_WC_part_138 : decode prog_1_method_10_code 138 = .ok (.iconst 4, 1) := by decide +kernel
theorem d_WC_part_139 : decode prog_1_method_10_code 139 = .ok (.invokevirtual 115, 3) := by decide +kernel
theorem d_WC_part_142 : decode prog_1_method_10_code 142 = .ok (.ireturn, 1) := by decide +kernel
theorem d_WC_total_0 : decode prog_1_method_11_code 0 = .ok (.iload_n 1, 1) := by decide +kernel
theorem d_WC_total_1 : decode prog_1_method_11_code 1 = .ok (.invokestatic 151, 3) := by decide +kernel
theorem d_WC_total_4 : decode prog_1_method_11_code 4 = .ok (.ifCond .eq 12, 3) := by decide +kernel
theorem d_WC_total_7 : decode prog_1_method_11_code 7 = .ok (.iload_n 2, 1) := by decide +kernel
theorem d_WC_total_8 : decode prog_1_method_11_code 8 = .ok (.iconst 0, 1) := by decide +kernel
theorem d_WC_total_9 : decode prog_1_method_11_code 9 = .ok (.iconst 5, 1) := by decide +kernel
theorem d_WC_total_10 : decode prog_1_method_11_code 10 = .ok (.invokestatic 86, 3) := by decide +kernel
theorem d_WC_total_13 : decode prog_1_method_11_code 13 = .ok (.ifCond .ne 7, 3) := by decide +kernel
theorem d_WC_total_16 : decode prog_1_method_11_code 16 = .ok (.sipush (-10001), 3) := by decide +kernel
theorem d_WC_total_19 : decode prog_1_method_11_code 19 = .ok (.ireturn, 1) := by decide +kernel
theorem d_WC_total_20 : decode prog_1_method_11_code 20 = .ok (.aload_n 0, 1) := by decide +kernel
theorem d_WC_total_21 : decode prog_1_method_11_code 21 = .ok (.getfield 44, 3) := by decide +kernel
theorem d_WC_total_24 : decode prog_1_method_11_code 24 = .ok (.invokevirtual 154, 3) := by decide +kernel
theorem d_WC_total_27 : decode prog_1_method_11_code 27 = .ok (.aload_n 0, 1) := by decide +kernel
theorem d_WC_total_28 : decode prog_1_method_11_code 28 = .ok (.getfield 44, 3) := by decide +kernel
theorem d_WC_total_31 : decode prog_1_method_11_code 31 = .ok (.iload_n 1, 1) := by decide +kernel
theorem d_WC_total_32 : decode prog_1_method_11_code 32 = .ok (.invokevirtual 157, 3) := by decide +kernel
theorem d_WC_total_35 : decode prog_1_method_11_code 35 = .ok (.iload_n 2, 1) := by decide +kernel
theorem d_WC_total_36 : decode prog_1_method_11_code 36 = .ok (.tableswitch 93 0 4 #[36, 44, 52, 60, 85], 36) := by decide +kernel
theorem d_WC_total_72 : decode prog_1_method_11_code 72 = .ok (.aload_n 0, 1) := by decide +kernel
theorem d_WC_total_73 : decode prog_1_method_11_code 73 = .ok (.getfield 44, 3) := by decide +kernel
theorem d_WC_total_76 : decode prog_1_method_11_code 76 = .ok (.invokevirtual 160, 3) := by decide +kernel
theorem d_WC_total_79 : decode prog_1_method_11_code 79 = .ok (.ireturn, 1) := by decide +kernel
theorem d_WC_total_80 : decode prog_1_method_11_code 80 = .ok (.aload_n 0, 1) := by decide +kernel
theorem d_WC_total_81 : decode prog_1_method_11_code 81 = .ok (.getfield 44, 3) := by decide +kernel
theorem d_WC_total_84 : decode prog_1_method_11_code 84 = .ok (.invokevirtual 172, 3) := by decide +kernel
theorem d_WC_total_87 : decode prog_1_method_11_code 87 = .ok (.ireturn, 1) := by decide +kernel
theorem d_WC_total_88 : decode prog_1_method_11_code 88 = .ok (.aload_n 0, 1) := by decide +kernel
theorem d_WC_total_89 : decode prog_1_method_11_code 89 = .ok (.getfield 44, 3) := by decide +kernel
theorem d_WC_total_92 : decode prog_1_method_11_code 92 = .ok (.invokevirtual 175, 3) := by decide +kernel
theorem d_WC_total_95 : decode prog_1_method_11_code 95 = .ok (.ireturn, 1) := by decide +kernel
theorem d_WC_total_96 : decode prog_1_method_11_code 96 = .ok (.aload_n 0, 1) := by decide +kernel
theorem d_WC_total_97 : decode prog_1_method_11_code 97 = .ok (.getfield 10, 3) := by decide +kernel
theorem d_WC_total_100 : decode prog_1_method_11_code 100 = .ok (.invokevirtual 75, 3) := by decide +kernel
theorem d_WC_total_103 : decode prog_1_method_11_code 103 = .ok (.aload_n 0, 1) := by decide +kernel
theorem d_WC_total_104 : decode prog_1_method_11_code 104 = .ok (.getfield 10, 3) := by decide +kernel
theorem d_WC_total_107 : decode prog_1_method_11_code 107 = .ok (.iconst 3, 1) := by decide +kernel
theorem d_WC_total_108 : decode prog_1_method_11_code 108 = .ok (.invokevirtual 115, 3) := by decide +kernel
theorem d_WC_total_111 : decode prog_1_method_11_code 111 = .ok (.imul, 1) := by decide +kernel
theorem d_WC_total_112 : decode prog_1_method_11_code 112 = .ok (.aload_n 0, 1) := by decide +kernel
theorem d_WC_total_113 : decode prog_1_method_11_code 113 = .ok (.getfield 44, 3) := by decide +kernel
theorem d_WC_total_116 : decode prog_1_method_11_code 116 = .ok (.invokevirtual 175, 3) := by decide +kernel
theorem d_WC_total_119 : decode prog_1_method_11_code 119 = .ok (.isub, 1) := by decide +kernel
theorem d_WC_total_120 : decode prog_1_method_11_code 120 = .ok (.ireturn, 1) := by decide +kernel
theorem d_WC_total_121 : decode prog_1_method_11_code 121 = .ok (.aload_n 0, 1) := by decide +kernel
theorem d_WC_total_122 : decode prog_1_method_11_code 122 = .ok (.getfield 44, 3) := by decide +kernel
theorem d_WC_total_125 : decode prog_1_method_11_code 125 = .ok (.invokevirtual 178, 3) := by decide +kernel
theorem d_WC_total_128 : decode prog_1_method_11_code 128 = .ok (.ireturn, 1) := by decide +kernel
theorem d_WC_total_129 : decode prog_1_method_11_code 129 = .ok (.aload_n 0, 1) := by decide +kernel
theorem d_WC_total_130 : decode prog_1_method_11_code 130 = .ok (.getfield 44, 3) := by decide +kernel
theorem d_WC_total_133 : decode prog_1_method_11_code 133 = .ok (.invokevirtual 181, 3) := by decide +kernel
theorem d_WC_total_136 : decode prog_1_method_11_code 136 = .ok (.ireturn, 1) := by decide +kernel
theorem d_WC_partAt_0 : decode prog_1_method_12_code 0 = .ok (.iload_n 1, 1) := by decide +kernel
theorem d_WC_partAt_1 : decode prog_1_method_12_code 1 = .ok (.invokestatic 151, 3) := by decide +kernel
theorem d_WC_partAt_4 : decode prog_1_method_12_code 4 = .ok (.ifCond .eq 14, 3) := by decide +kernel
theorem d_WC_partAt_7 : decode prog_1_method_12_code 7 = .ok (.aload_n 0, 1) := by decide +kernel
theorem d_WC_partAt_8 : decode prog_1_method_12_code 8 = .ok (.getfield 10, 3) := by decide +kernel
theorem d_WC_partAt_11 : decode prog_1_method_12_code 11 = .ok (.iload_n 2, 1) := by decide +kernel
theorem d_WC_partAt_12 : decode prog_1_method_12_code 12 = .ok (.invokevirtual 93, 3) := by decide +kernel
theorem d_WC_partAt_15 : decode prog_1_method_12_code 15 = .ok (.ifCond .ne 7, 3) := by decide +kernel
theorem d_WC_partAt_18 : decode prog_1_method_12_code 18 = .ok (.sipush (-10001), 3) := by decide +kernel
theorem d_WC_partAt_21 : decode prog_1_method_12_code 21 = .ok (.ireturn, 1) := by decide +kernel
theorem d_WC_partAt_22 : decode prog_1_method_12_code 22 = .ok (.aload_n 0, 1) := by decide +kernel
theorem d_WC_partAt_23 : decode prog_1_method_12_code 23 = .ok (.getfield 44, 3) := by decide +kernel
theorem d_WC_partAt_26 : decode prog_1_method_12_code 26 = .ok (.invokevirtual 154, 3) := by decide +kernel
theorem d_WC_partAt_29 : decode prog_1_method_12_code 29 = .ok (.aload_n 0, 1) := by decide +kernel
theorem d_WC_partAt_30 : decode prog_1_method_12_code 30 = .ok (.getfield 44, 3) := by decide +kernel
theorem d_WC_partAt_33 : decode prog_1_method_12_code 33 = .ok (.iload_n 1, 1) := by decide +kernel
theorem d_WC_partAt_34 : decode prog_1_method_12_code 34 = .ok (.invokevirtual 157, 3) := by decide +kernel
theorem d_WC_partAt_37 : decode prog_1_method_12_code 37 = .ok (.aload_n 0, 1) := by decide +kernel
theorem d_WC_partAt_38 : decode prog_1_method_12_code 38 = .ok (.getfield 44, 3) := by decide +kernel
theorem d_WC_partAt_41 : decode prog_1_method_12_code 41 = .ok (.iload_n 2, 1) := by decide +kernel
theorem d_WC_partAt_42 : decode prog_1_method_12_code 42 = .ok (.invokevirtual 184, 3) := by decide +kernel
theorem d_WC_partAt_45 : decode prog_1_method_12_code 45 = .ok (.ireturn, 1) := by decide +kernel
theorem d_WC_parting_0 : decode prog_1_method_13_code 0 = .ok (.iload_n 1, 1) := by decide +kernel
theorem d_WC_parting_1 : decode prog_1_method_13_code 1 = .ok (.invokestatic 151, 3) := by decide +kernel
theorem d_WC_parting_4 : decode prog_1_method_13_code 4 = .ok (.ifCond .eq 10, 3) := by decide +kernel
theorem d_WC_parting_7 : decode prog_1_method_13_code 7 = .ok (.iload_n 2, 1) := by decide +kernel
theorem d_WC_parting_8 : decode prog_1_method_13_code 8 = .ok (.invokestatic 151, 3) := by decide +kernel
theorem d_WC_parting_11 : decode prog_1_method_13_code 11 = .ok (.ifCond .ne 7, 3) := by decide +kernel
theorem d_WC_parting_14 : decode prog_1_method_13_code 14 = .ok (.sipush (-10001), 3) := by decide +kernel
theorem d_WC_parting_17 : decode prog_1_method_13_code 17 = .ok (.ireturn, 1) := by decide +kernel
theorem d_WC_parting_18 : decode prog_1_method_13_code 18 = .ok (.aload_n 0, 1) := by decide +kernel
theorem d_WC_parting_19 : decode prog_1_method_13_code 19 = .ok (.getfield 44, 3) := by decide +kernel
theorem d_WC_parting_22 : decode prog_1_method_13_code 22 = .ok (.invokevirtual 154, 3) := by decide +kernel
theorem d_WC_parting_25 : decode prog_1_method_13_code 25 = .ok (.aload_n 0, 1) := by decide +kernel
theorem d_WC_parting_26 : decode prog_1_method_13_code 26 = .ok (.getfield 44, 3) := by decide +kernel
theorem d_WC_parting_29 : decode prog_1_method_13_code 29 = .ok (.iload_n 1, 1) := by decide +kernel
theorem d_WC_parting_30 : decode prog_1_method_13_code 30 = .ok (.iload_n 2, 1) := by decide +kernel
theorem d_WC_parting_31 : decode prog_1_method_13_code 31 = .ok (.invokevirtual 187, 3) := by decide +kernel
theorem d_WC_parting_34 : decode prog_1_method_13_code 34 = .ok (.istore_n 3, 1) := by decide +kernel
theorem d_WC_parting_35 : decode prog_1_method_13_code 35 = .ok (.iload_n 3, 1) := by decide +kernel
theorem d_WC_parting_36 : decode prog_1_method_13_code 36 = .ok (.iconst (-1), 1) := by decide +kernel
theorem d_WC_parting_37 : decode prog_1_method_13_code 37 = .ok (.if_icmp .ne 9, 3) := by decide +kernel
theorem d_WC_parting_40 : decode prog_1_method_13_code 40 = .ok (.sipush (-10004), 3) := by decide +kernel
theorem d_WC_parting_43 : decode prog_1_method_13_code 43 = .ok (.goto 4, 3) := by decide +kernel
theorem d_WC_parting_46 : decode prog_1_method_13_code 46 = .ok (.iload_n 3, 1) := by decide +kernel
theorem d_WC_parting_47 : decode prog_1_method_13_code 47 = .ok (.ireturn, 1) := by decide +kernel
theorem d_WC_repeat_0 : decode prog_1_method_14_code 0 = .ok (.iload_n 1, 1) := by decide +kernel
theorem d_WC_repeat_1 : decode prog_1_method_14_code 1 = .ok (.iconst 0, 1) := by decide +kernel
theorem d_WC_repeat_2 : decode prog_1_method_14_code 2 = .ok (.iconst 2, 1) := by decide +kernel
theorem d_WC_repeat_3 : decode prog_1_method_14_code 3 = .ok (.invokestatic 86, 3) := by decide +kernel
theorem d_WC_repeat_6 : decode prog_1_method_14_code 6 = .ok (.ifCond .ne 7, 3) := by decide +kernel
theorem d_WC_repeat_9 : decode prog_1_method_14_code 9 = .ok (.sipush (-10001), 3) := by decide +kernel
theorem d_WC_repeat_12 : decode prog_1_method_14_code 12 = .ok (.ireturn, 1) := by decide +kernel
theorem d_WC_repeat_13 : decode prog_1_method_14_code 13 = .ok (.aload_n 0, 1) := by decide +kernel
theorem d_WC_repeat_14 : decode prog_1_method_14_code 14 = .ok (.getfield 51, 3) := by decide +kernel
theorem d_WC_repeat_17 : decode prog_1_method_14_code 17 = .ok (.aload_n 0, 1) := by decide +kernel
theorem d_WC_repeat_18 : decode prog_1_method_14_code 18 = .ok (.getfield 10, 3) := by decide +kernel
theorem d_WC_repeat_21 : decode prog_1_method_14_code 21 = .ok (.invokevirtual 190, 3) := by decide +kernel
theorem d_WC_repeat_24 : decode prog_1_method_14_code 24 = .ok (.aload_n 0, 1) := by decide +kernel
theorem d_WC_repeat_25 : decode prog_1_method_14_code 25 = .ok (.getfield 51, 3) := by decide +kernel
theorem d_WC_repeat_28 : decode prog_1_method_14_code 28 = .ok (.invokevirtual 193, 3) := by decide +kernel
theorem d_WC_repeat_31 : decode prog_1_method_14_code 31 = .ok (.ifCond .ne 7, 3) := by decide +kernel
theorem d_WC_repeat_34 : decode prog_1_method_14_code 34 = .ok (.sipush (-10004), 3) := by decide +kernel
theorem d_WC_repeat_37 : decode prog_1_method_14_code 37 = .ok (.ireturn, 1) := by decide +kernel
theorem d_WC_repeat_38 : decode prog_1_method_14_code 38 = .ok (.iload_n 1, 1) := by decide +kernel
theorem d_WC_repeat_39 : decode prog_1_method_14_code 39 = .ok (.lookupswitch 41 #[(0, 25), (1, 33)], 25) := by decide +kernel
theorem d_WC_repeat_64 : decode prog_1_method_14_code 64 = .ok (.aload_n 0, 1) := by decide +kernel
theorem d_WC_repeat_65 : decode prog_1_method_14_code 65 = .ok (.getfield 51, 3) := by decide +kernel
theorem d_WC_repeat_68 : decode prog_1_method_14_code 68 = .ok (.invokevirtual 193, 3) := by decide +kernel
theorem d_WC_repeat_71 : decode prog_1_method_14_code 71 = .ok (.ireturn, 1) := by decide +kernel
theorem d_WC_repeat_72 : decode prog_1_method_14_code 72 = .ok (.aload_n 0, 1) := by decide +kernel
theorem d_WC_repeat_73 : decode prog_1_method_14_code 73 = .ok (.getfield 51, 3) := by decide +kernel
theorem d_WC_repeat_76 : decode prog_1_method_14_code 76 = .ok (.invokevirtual 196, 3) := by decide +kernel
theorem d_WC_repeat_79 : decode prog_1_method_14_code 79 = .ok (.ireturn, 1) := by decide +kernel
theorem d_WC_repeat_80 : decode prog_1_method_14_code 80 = .ok (.aload_n 0, 1) := by decide +kernel
theorem d_WC_repeat_81 : decode prog_1_method_14_code 81 = .ok (.getfield 51, 3) := by decide +kernel
theorem d_WC_repeat_84 : decode prog_1_method_14_code 84 = .ok (.invokevirtual 199, 3) := by decide +kernel
theorem d_WC_repeat_87 : decode prog_1_method_14_code 87 = .ok (.ireturn, 1) := by decide +kernel
theorem d_WC_count_0 : decode prog_1_method_15_code 0 = .ok (.iload_n 1, 1) := by decide +kernel
theorem d_WC_count_1 : decode prog_1_method_15_code 1 = .ok (.tableswitch 89 0 5 #[39, 47, 55, 60, 68, 76], 39) := by decide +kernel
theorem d_WC_count_40 : decode prog_1_method_15_code 40 = .ok (.aload_n 0, 1) := by decide +kernel
theorem d_WC_count_41 : decode prog_1_method_15_code 41 = .ok (.getfield 10, 3) := by decide +kernel
theorem d_WC_count_44 : decode prog_1_method_15_code 44 = .ok (.invokevirtual 75, 3) := by decide +kernel
theorem d_WC_count_47 : decode prog_1_method_15_code 47 = .ok (.ireturn, 1) := by decide +kernel
theorem d_WC_count_48 : decode prog_1_method_15_code 48 = .ok (.aload_n 0, 1) := by decide +kernel
theorem d_WC_count_49 : decode prog_1_method_15_code 49 = .ok (.getfield 10, 3) := by decide +kernel
theorem d_WC_count_52 : decode prog_1_method_15_code 52 = .ok (.invokevirtual 202, 3) := by decide +kernel
theorem d_WC_count_55 : decode prog_1_method_15_code 55 = .ok (.ireturn, 1) := by decide +kernel
theorem d_WC_count_56 : decode prog_1_method_15_code 56 = .ok (.aload_n 0, 1) := by decide +kernel
theorem d_WC_count_57 : decode prog_1_method_15_code 57 = .ok (.invokevirtual 205, 3) := by decide +kernel
theorem d_WC_count_60 : decode prog_1_method_15_code 60 = .ok (.ireturn, 1) := by decide +kernel
theorem d_WC_count_61 : decode prog_1_method_15_code 61 = .ok (.aload_n 0, 1) := by decide +kernel
theorem d_WC_count_62 : decode prog_1_method_15_code 62 = .ok (.getfield 26, 3) := by decide +kernel
theorem d_WC_count_65 : decode prog_1_method_15_code 65 = .ok (.invokevirtual 208, 3) := by decide +kernel
theorem d_WC_count_68 : decode prog_1_method_15_code 68 = .ok (.ireturn, 1) := by decide +kernel
theorem d_WC_count_69 : decode prog_1_method_15_code 69 = .ok (.aload_n 0, 1) := by decide +kernel
theorem d_WC_count_70 : decode prog_1_method_15_code 70 = .ok (.getfield 58, 3) := by decide +kernel
theorem d_WC_count_73 : decode prog_1_method_15_code 73 = .ok (.invokevirtual 209, 3) := by decide +kernel
theorem d_WC_count_76 : decode prog_1_method_15_code 76 = .ok (.ireturn, 1) := by decide +kernel
theorem d_WC_count_77 : decode prog_1_method_15_code 77 = .ok (.aload_n 0, 1) := by decide +kernel
theorem d_WC_count_78 : decode prog_1_method_15_code 78 = .ok (.getfield 19, 3) := by decide +kernel
theorem d_WC_count_81 : decode prog_1_method_15_code 81 = .ok (.ifCond .eq 7, 3) := by decide +kernel
theorem d_WC_count_84 : decode prog_1_method_15_code 84 = .ok (.iconst 1, 1) := by decide +kernel
theorem d_WC_count_85 : decode prog_1_method_15_code 85 = .ok (.goto 4, 3) := by decide +kernel
theorem d_WC_count_88 : decode prog_1_method_15_code 88 = .ok (.iconst 0, 1) := by decide +kernel
theorem d_WC_count_89 : decode prog_1_method_15_code 89 = .ok (.ireturn, 1) := by decide +kernel
theorem d_WC_count_90 : decode prog_1_method_15_code 90 = .ok (.aload_n 0, 1) := by decide +kernel
theorem d_WC_count_91 : decode prog_1_method_15_code 91 = .ok (.iload_n 1, 1) := by decide +kernel
theorem d_WC_count_92 : decode prog_1_method_15_code 92 = .ok (.invokevirtual 210, 3) := by decide +kernel
theorem d_WC_count_95 : decode prog_1_method_15_code 95 = .ok (.ireturn, 1) := by decide +kernel
theorem d_WC_settingCount_0 : decode prog_1_method_16_code 0 = .ok (.iload_n 1, 1) := by decide +kernel
theorem d_WC_settingCount_1 : decode prog_1_method_16_code 1 = .ok (.bipush 10, 2) := by decide +kernel
theorem d_WC_settingCount_3 : decode prog_1_method_16_code 3 = .ok (.bipush 14, 2) := by decide +kernel
theorem d_WC_settingCount_5 : decode prog_1_method_16_code 5 = .ok (.invokestatic 86, 3) := by decide +kernel
theorem d_WC_settingCount_8 : decode prog_1_method_16_code 8 = .ok (.ifCond .ne 7, 3) := by decide +kernel
theorem d_WC_settingCount_11 : decode prog_1_method_16_code 11 = .ok (.sipush (-10001), 3) := by decide +kernel
theorem d_WC_settingCount_14 : decode prog_1_method_16_code 14 = .ok (.ireturn, 1) := by decide +kernel
theorem d_WC_settingCount_15 : decode prog_1_method_16_code 15 = .ok (.aload_n 0, 1) := by decide +kernel
theorem d_WC_settingCount_16 : decode prog_1_method_16_code 16 = .ok (.getfield 10, 3) := by decide +kernel
theorem d_WC_settingCount_19 : decode prog_1_method_16_code 19 = .ok (.iload_n 1, 1) := by decide +kernel
theorem d_WC_settingCount_20 : decode prog_1_method_16_code 20 = .ok (.bipush 10, 2) := by decide +kernel
theorem d_WC_settingCount_22 : decode prog_1_method_16_code 22 = .ok (.isub, 1) := by decide +kernel
theorem d_WC_settingCount_23 : decode prog_1_method_16_code 23 = .ok (.invokevirtual 115, 3) := by decide +kernel
theorem d_WC_settingCount_26 : decode prog_1_method_16_code 26 = .ok (.ireturn, 1) := by decide +kernel
theorem d_WC_cheapestWay_0 : decode prog_1_method_17_code 0 = .ok (.aload_n 0, 1) := by decide +kernel
theorem d_WC_cheapestWay_1 : decode prog_1_method_17_code 1 = .ok (.getfield 44, 3) := by decide +kernel
theorem d_WC_cheapestWay_4 : decode prog_1_method_17_code 4 = .ok (.invokevirtual 154, 3) := by decide +kernel
theorem d_WC_cheapestWay_7 : decode prog_1_method_17_code 7 = .ok (.aload_n 0, 1) := by decide +kernel
theorem d_WC_cheapestWay_8 : decode prog_1_method_17_code 8 = .ok (.getfield 44, 3) := by decide +kernel
theorem d_WC_cheapestWay_11 : decode prog_1_method_17_code 11 = .ok (.iconst 0, 1) := by decide +kernel
theorem d_WC_cheapestWay_12 : decode prog_1_method_17_code 12 = .ok (.invokevirtual 157, 3) := by decide +kernel
theorem d_WC_cheapestWay_15 : decode prog_1_method_17_code 15 = .ok (.iconst 0, 1) := by decide +kernel
theorem d_WC_cheapestWay_16 : decode prog_1_method_17_code 16 = .ok (.istore_n 1, 1) := by decide +kernel
theorem d_WC_cheapestWay_17 : decode prog_1_method_17_code 17 = .ok (.aload_n 0, 1) := by decide +kernel
theorem d_WC_cheapestWay_18 : decode prog_1_method_17_code 18 = .ok (.getfield 44, 3) := by decide +kernel
theorem d_WC_cheapestWay_21 : decode prog_1_method_17_code 21 = .ok (.invokevirtual 175, 3) := by decide +kernel
theorem d_WC_cheapestWay_24 : decode prog_1_method_17_code 24 = .ok (.istore_n 2, 1) := by decide +kernel
theorem d_WC_cheapestWay_25 : decode prog_1_method_17_code 25 = .ok (.iconst 1, 1) := by decide +kernel
theorem d_WC_cheapestWay_26 : decode prog_1_method_17_code 26 = .ok (.istore_n 3, 1) := by decide +kernel
theorem d_WC_cheapestWay_27 : decode prog_1_method_17_code 27 = .ok (.iload_n 3, 1) := by decide +kernel
theorem d_WC_cheapestWay_28 : decode prog_1_method_17_code 28 = .ok (.iconst 3, 1) := by decide +kernel
theorem d_WC_cheapestWay_29 : decode prog_1_method_17_code 29 = .ok (.if_icmp .ge 38, 3) := by decide +kernel
theorem d_WC_cheapestWay_32 : decode prog_1_method_17_code 32 = .ok (.aload_n 0, 1) := by decide +kernel
theorem d_WC_cheapestWay_33 : decode prog_1_method_17_code 33 = .ok (.getfield 44, 3) := by decide +kernel
theorem d_WC_cheapestWay_36 : decode prog_1_method_17_code 36 = .ok (.iload_n 3, 1) := by decide +kernel
theorem d_WC_cheapestWay_37 : decode prog_1_method_17_code 37 = .ok (.invokevirtual 157, 3) := by decide +kernel
theorem d_WC_cheapestWay_40 : decode prog_1_method_17_code 40 = .ok (.aload_n 0, 1) := by decide +kernel
theorem d_WC_cheapestWay_41 : decode prog_1_method_17_code 41 = .ok (.getfield 44, 3) := by decide +kernel
theorem d_WC_cheapestWay_44 : decode prog_1_method_17_code 44 = .ok (.invokevirtual 175, 3) := by decide +kernel
theorem d_WC_cheapestWay_47 : decode prog_1_method_17_code 47 = .ok (.iload_n 2, 1) := by decide +kernel
theorem d_WC_cheapestWay_48 : decode prog_1_method_17_code 48 = .ok (.if_icmp .ge 13, 3) := by decide +kernel
theorem d_WC_cheapestWay_51 : decode prog_1_method_17_code 51 = .ok (.aload_n 0, 1) := by decide +kernel
theorem d_WC_cheapestWay_52 : decode prog_1_method_17_code 52 = .ok (.getfield 44, 3) := by decide +kernel
theorem d_WC_cheapestWay_55 : decode prog_1_method_17_code 55 = .ok (.invokevirtual 175, 3) := by decide +kernel
theorem d_WC_cheapestWay_58 : decode prog_1_method_17_code 58 = .ok (.istore_n 2, 1) := by decide +kernel
theorem d_WC_cheapestWay_59 : decode prog_1_method_17_code 59 = .ok (.iload_n 3, 1) := by decide +kernel
theorem d_WC_cheapestWay_60 : decode prog_1_method_17_code 60 = .ok (.istore_n 1, 1) := by decide +kernel
theorem d_WC_cheapestWay_61 : decode prog_1_method_17_code 61 = .ok (.iinc 3 1, 3) := by decide +kernel
theorem d_WC_cheapestWay_64 : decode prog_1_method_17_code 64 = .ok (.goto (-37), 3) := by decide +kernel
theorem d_WC_cheapestWay_67 : decode prog_1_method_17_code 67 = .ok (.iload_n 1, 1) := by decide +kernel
theorem d_WC_cheapestWay_68 : decode prog_1_method_17_code 68 = .ok (.ireturn, 1) := by decide +kernel
theorem d_WC_keep_0 : decode prog_1_method_18_code 0 = .ok (.aload_n 0, 1) := by decide +kernel
theorem d_WC_keep_1 : decode prog_1_method_18_code 1 = .ok (.getfield 16, 3) := by decide +kernel
theorem d_WC_keep_4 : decode prog_1_method_18_code 4 = .ok (.aload_n 0, 1) := by decide +kernel
theorem d_WC_keep_5 : decode prog_1_method_18_code 5 = .ok (.getfield 10, 3) := by decide +kernel
theorem d_WC_keep_8 : decode prog_1_method_18_code 8 = .ok (.invokevirtual 213, 3) := by decide +kernel
theorem d_WC_keep_11 : decode prog_1_method_18_code 11 = .ok (.aload_n 0, 1) := by decide +kernel
theorem d_WC_keep_12 : decode prog_1_method_18_code 12 = .ok (.iconst 1, 1) := by decide +kernel
theorem d_WC_keep_13 : decode prog_1_method_18_code 13 = .ok (.putfield 19, 3) := by decide +kernel
theorem d_WC_keep_16 : decode prog_1_method_18_code 16 = .ok (.aload_n 0, 1) := by decide +kernel
theorem d_WC_keep_17 : decode prog_1_method_18_code 17 = .ok (.getfield 10, 3) := by decide +kernel
theorem d_WC_keep_20 : decode prog_1_method_18_code 20 = .ok (.invokevirtual 75, 3) := by decide +kernel
theorem d_WC_keep_23 : decode prog_1_method_18_code 23 = .ok (.ireturn, 1) := by decide +kernel
theorem d_WC_restore_0 : decode prog_1_method_19_code 0 = .ok (.aload_n 0, 1) := by decide +kernel
theorem d_WC_restore_1 : decode prog_1_method_19_code 1 = .ok (.getfield 19, 3) := by decide +kernel
theorem d_WC_restore_4 : decode prog_1_method_19_code 4 = .ok (.ifCond .ne 7, 3) := by decide +kernel
theorem d_WC_restore_7 : decode prog_1_method_19_code 7 = .ok (.sipush (-10002), 3) := by decide +kernel
theorem d_WC_restore_10 : decode prog_1_method_19_code 10 = .ok (.ireturn, 1) := by decide +kernel
theorem d_WC_restore_11 : decode prog_1_method_19_code 11 = .ok (.aload_n 0, 1) := by decide +kernel
theorem d_WC_restore_12 : decode prog_1_method_19_code 12 = .ok (.getfield 26, 3) := by decide +kernel
theorem d_WC_restore_15 : decode prog_1_method_19_code 15 = .ok (.aload_n 0, 1) := by decide +kernel
theorem d_WC_restore_16 : decode prog_1_method_19_code 16 = .ok (.getfield 10, 3) := by decide +kernel
theorem d_WC_restore_19 : decode prog_1_method_19_code 19 = .ok (.invokevirtual 79, 3) := by decide +kernel
theorem d_WC_restore_22 : decode prog_1_method_19_code 22 = .ok (.aload_n 0, 1) := by decide +kernel
theorem d_WC_restore_23 : decode prog_1_method_19_code 23 = .ok (.getfield 10, 3) := by decide +kernel
theorem d_WC_restore_26 : decode prog_1_method_19_code 26 = .ok (.aload_n 0, 1) := by decide +kernel
theorem d_WC_restore_27 : decode prog_1_method_19_code 27 = .ok (.getfield 16, 3) := by decide +kernel
theorem d_WC_restore_30 : decode prog_1_method_19_code 30 = .ok (.invokevirtual 213, 3) := by decide +kernel
theorem d_WC_restore_33 : decode prog_1_method_19_code 33 = .ok (.aload_n 0, 1) := by decide +kernel
theorem d_WC_restore_34 : decode prog_1_method_19_code 34 = .ok (.getfield 10, 3) := by decide +kernel
theorem d_WC_restore_37 : decode prog_1_method_19_code 37 = .ok (.invokevirtual 75, 3) := by decide +kernel
theorem d_WC_restore_40 : decode prog_1_method_19_code 40 = .ok (.ireturn, 1) := by decide +kernel
theorem d_WC_undo_0 : decode prog_1_method_20_code 0 = .ok (.aload_n 0, 1) := by decide +kernel
theorem d_WC_undo_1 : decode prog_1_method_20_code 1 = .ok (.getfield 26, 3) := by decide +kernel
theorem d_WC_undo_4 : decode prog_1_method_20_code 4 = .ok (.invokevirtual 208, 3) := by decide +kernel
theorem d_WC_undo_7 : decode prog_1_method_20_code 7 = .ok (.ifCond .ne 7, 3) := by decide +kernel
theorem d_WC_undo_10 : decode prog_1_method_20_code 10 = .ok (.sipush (-10002), 3) := by decide +kernel
theorem d_WC_undo_13 : decode prog_1_method_20_code 13 = .ok (.ireturn, 1) := by decide +kernel
theorem d_WC_undo_14 : decode prog_1_method_20_code 14 = .ok (.aload_n 0, 1) := by decide +kernel
theorem d_WC_undo_15 : decode prog_1_method_20_code 15 = .ok (.getfield 26, 3) := by decide +kernel
theorem d_WC_undo_18 : decode prog_1_method_20_code 18 = .ok (.aload_n 0, 1) := by decide +kernel
theorem d_WC_undo_19 : decode prog_1_method_20_code 19 = .ok (.getfield 10, 3) := by decide +kernel
theorem d_WC_undo_22 : decode prog_1_method_20_code 22 = .ok (.invokevirtual 216, 3) := by decide +kernel
theorem d_WC_undo_25 : decode prog_1_method_20_code 25 = .ok (.aload_n 0, 1) := by decide +kernel
theorem d_WC_undo_26 : decode prog_1_method_20_code 26 = .ok (.getfield 26, 3) := by decide +kernel
theorem d_WC_undo_29 : decode prog_1_method_20_code 29 = .ok (.invokevirtual 208, 3) := by decide +kernel
theorem d_WC_undo_32 : decode prog_1_method_20_code 32 = .ok (.ireturn, 1) := by decide +kernel
theorem d_WC_type_0 : decode prog_1_method_21_code 0 = .ok (.iload_n 1, 1) := by decide +kernel
theorem d_WC_type_1 : decode prog_1_method_21_code 1 = .ok (.bipush 32, 2) := by decide +kernel
theorem d_WC_type_3 : decode prog_1_method_21_code 3 = .ok (.bipush 126, 2) := by decide +kernel
theorem d_WC_type_5 : decode prog_1_method_21_code 5 = .ok (.invokestatic 86, 3) := by decide +kernel
theorem d_WC_type_8 : decode prog_1_method_21_code 8 = .ok (.ifCond .ne 7, 3) := by decide +kernel
theorem d_WC_type_11 : decode prog_1_method_21_code 11 = .ok (.sipush (-10001), 3) := by decide +kernel
theorem d_WC_type_14 : decode prog_1_method_21_code 14 = .ok (.ireturn, 1) := by decide +kernel
theorem d_WC_type_15 : decode prog_1_method_21_code 15 = .ok (.aload_n 0, 1) := by decide +kernel
theorem d_WC_type_16 : decode prog_1_method_21_code 16 = .ok (.getfield 58, 3) := by decide +kernel
theorem d_WC_type_19 : decode prog_1_method_21_code 19 = .ok (.invokevirtual 209, 3) := by decide +kernel
theorem d_WC_type_22 : decode prog_1_method_21_code 22 = .ok (.bipush 120, 2) := by decide +kernel
theorem d_WC_type_24 : decode prog_1_method_21_code 24 = .ok (.if_icmp .lt 7, 3) := by decide +kernel
theorem d_WC_type_27 : decode prog_1_method_21_code 27 = .ok (.sipush (-10003), 3) := by decide +kernel
theorem d_WC_type_30 : decode prog_1_method_21_code 30 = .ok (.ireturn, 1) := by decide +kernel
theorem d_WC_type_31 : decode prog_1_method_21_code 31 = .ok (.aload_n 0, 1) := by decide +kernel
theorem d_WC_type_32 : decode prog_1_method_21_code 32 = .ok (.getfield 58, 3) := by decide +kernel
theorem d_WC_type_35 : decode prog_1_method_21_code 35 = .ok (.iload_n 1, 1) := by decide +kernel
theorem d_WC_type_36 : decode prog_1_method_21_code 36 = .ok (.invokevirtual 219, 3) := by decide +kernel
theorem d_WC_type_39 : decode prog_1_method_21_code 39 = .ok (.aload_n 0, 1) := by decide +kernel
theorem d_WC_type_40 : decode prog_1_method_21_code 40 = .ok (.getfield 58, 3) := by decide +kernel
theorem d_WC_type_43 : decode prog_1_method_21_code 43 = .ok (.invokevirtual 209, 3) := by decide +kernel
theorem d_WC_type_46 : decode prog_1_method_21_code 46 = .ok (.ireturn, 1) := by decide +kernel
theorem d_WC_clearText_0 : decode prog_1_method_22_code 0 = .ok (.aload_n 0, 1) := by decide +kernel
theorem d_WC_clearText_1 : decode prog_1_method_22_code 1 = .ok (.getfield 58, 3) := by decide +kernel
theorem d_WC_clearText_4 : decode prog_1_method_22_code 4 = .ok (.invokevirtual 209, 3) := by decide +kernel
theorem d_WC_clearText_7 : decode prog_1_method_22_code 7 = .ok (.istore_n 1, 1) := by decide +kernel
theorem d_WC_clearText_8 : decode prog_1_method_22_code 8 = .ok (.aload_n 0, 1) := by decide +kernel
theorem d_WC_clearText_9 : decode prog_1_method_22_code 9 = .ok (.getfield 58, 3) := by decide +kernel
theorem d_WC_clearText_12 : decode prog_1_method_22_code 12 = .ok (.invokevirtual 220, 3) := by decide +kernel
theorem d_WC_clearText_15 : decode prog_1_method_22_code 15 = .ok (.iload_n 1, 1) := by decide +kernel
theorem d_WC_clearText_16 : decode prog_1_method_22_code 16 = .ok (.ireturn, 1) := by decide +kernel
theorem d_WC_write_0 : decode prog_1_method_23_code 0 = .ok (.iload_n 1, 1) := by decide +kernel
theorem d_WC_write_1 : decode prog_1_method_23_code 1 = .ok (.invokestatic 151, 3) := by decide +kernel
theorem d_WC_write_4 : decode prog_1_method_23_code 4 = .ok (.ifCond .ne 7, 3) := by decide +kernel
theorem d_WC_write_7 : decode prog_1_method_23_code 7 = .ok (.sipush (-10001), 3) := by decide +kernel
theorem d_WC_write_10 : decode prog_1_method_23_code 10 = .ok (.ireturn, 1) := by decide +kernel
theorem d_WC_write_11 : decode prog_1_method_23_code 11 = .ok (.aload_n 0, 1) := by decide +kernel
theorem d_WC_write_12 : decode prog_1_method_23_code 12 = .ok (.getfield 44, 3) := by decide +kernel
theorem d_WC_write_15 : decode prog_1_method_23_code 15 = .ok (.invokevirtual 154, 3) := by decide +kernel
theorem d_WC_write_18 : decode prog_1_method_23_code 18 = .ok (.aload_n 0, 1) := by decide +kernel
theorem d_WC_write_19 : decode prog_1_method_23_code 19 = .ok (.getfield 44, 3) := by decide +kernel
theorem d_WC_write_22 : decode prog_1_method_23_code 22 = .ok (.iload_n 1, 1) := by decide +kernel
theorem d_WC_write_23 : decode prog_1_method_23_code 23 = .ok (.invokevirtual 157, 3) := by decide +kernel
theorem d_WC_write_26 : decode prog_1_method_23_code 26 = .ok (.aload_n 0, 1) := by decide +kernel
theorem d_WC_write_27 : decode prog_1_method_23_code 27 = .ok (.iload_n 1, 1) := by decide +kernel
theorem d_WC_write_28 : decode prog_1_method_23_code 28 = .ok (.invokevirtual 223, 3) := by decide +kernel
theorem d_WC_write_31 : decode prog_1_method_23_code 31 = .ok (.bipush 120, 2) := by decide +kernel
theorem d_WC_write_33 : decode prog_1_method_23_code 33 = .ok (.if_icmp .le 7, 3) := by decide +kernel
theorem d_WC_write_36 : decode prog_1_method_23_code 36 = .ok (.sipush (-10003), 3) := by decide +kernel
theorem d_WC_write_39 : decode prog_1_method_23_code 39 = .ok (.ireturn, 1) := by decide +kernel
theorem d_WC_write_40 : decode prog_1_method_23_code 40 = .ok (.aload_n 0, 1) := by decide +kernel
theorem d_WC_write_41 : decode prog_1_method_23_code 41 = .ok (.getfield 58, 3) := by decide +kernel
theorem d_WC_write_44 : decode prog_1_method_23_code 44 = .ok (.invokevirtual 220, 3) := by decide +kernel
theorem d_WC_write_47 : decode prog_1_method_23_code 47 = .ok (.iconst 0, 1) := by decide +kernel
theorem d_WC_write_48 : decode prog_1_method_23_code 48 = .ok (.istore_n 2, 1) := by decide +kernel
theorem d_WC_write_49 : decode prog_1_method_23_code 49 = .ok (.iload_n 2, 1) := by decide +kernel
theorem d_WC_write_50 : decode prog_1_method_23_code 50 = .ok (.aload_n 0, 1) := by decide +kernel
theorem d_WC_write_51 : decode prog_1_method_23_code 51 = .ok (.getfield 44, 3) := by decide +kernel
theorem d_WC_write_54 : decode prog_1_method_23_code 54 = .ok (.invokevirtual 160, 3) := by decide +kernel
theorem d_WC_write_57 : decode prog_1_method_23_code 57 = .ok (.if_icmp .ge 73, 3) := by decide +kernel
theorem d_WC_write_60 : decode prog_1_method_23_code 60 = .ok (.aload_n 0, 1) := by decide +kernel
theorem d_WC_write_61 : decode prog_1_method_23_code 61 = .ok (.getfield 44, 3) := by decide +kernel
theorem d_WC_write_64 : decode prog_1_method_23_code 64 = .ok (.iload_n 2, 1) := by decide +kernel
theorem d_WC_write_65 : decode prog_1_method_23_code 65 = .ok (.invokevirtual 163, 3) := by decide +kernel
theorem d_WC_write_68 : decode prog_1_method_23_code 68 = .ok (.istore_n 3, 1) := by decide +kernel
theorem d_WC_write_69 : decode prog_1_method_23_code 69 = .ok (.aload_n 0, 1) := by decide +kernel
theorem d_WC_write_70 : decode prog_1_method_23_code 70 = .ok (.getfield 44, 3) := by decide +kernel
theorem d_WC_write_73 : decode prog_1_method_23_code 73 = .ok (.iload_n 1, 1) := by decide +kernel
theorem d_WC_write_74 : decode prog_1_method_23_code 74 = .ok (.iload_n 3, 1) := by decide +kernel
theorem d_WC_write_75 : decode prog_1_method_23_code 75 = .ok (.invokevirtual 169, 3) := by decide +kernel
theorem d_WC_write_78 : decode prog_1_method_23_code 78 = .ok (.istore 4, 2) := by decide +kernel
theorem d_WC_write_80 : decode prog_1_method_23_code 80 = .ok (.iload 4, 2) := by decide +kernel
theorem d_WC_write_82 : decode prog_1_method_23_code 82 = .ok (.ifCond .ne 24, 3) := by decide +kernel
theorem d_WC_write_85 : decode prog_1_method_23_code 85 = .ok (.aload_n 0, 1) := by decide +kernel
theorem d_WC_write_86 : decode prog_1_method_23_code 86 = .ok (.getfield 58, 3) := by decide +kernel
theorem d_WC_write_89 : decode prog_1_method_23_code 89 = .ok (.bipush 97, 2) := by decide +kernel
theorem d_WC_write_91 : decode prog_1_method_23_code 91 = .ok (.aload_n 0, 1) := by decide +kernel
theorem d_WC_write_92 : decode prog_1_method_23_code 92 = .ok (.getfield 10, 3) := by decide +kernel
theorem d_WC_write_95 : decode prog_1_method_23_code 95 = .ok (.iload_n 3, 1) := by decide +kernel
theorem d_WC_write_96 : decode prog_1_method_23_code 96 = .ok (.invokevirtual 96, 3) := by decide +kernel
theorem d_WC_write_99 : decode prog_1_method_23_code 99 = .ok (.iadd, 1) := by decide +kernel
theorem d_WC_write_100 : decode prog_1_method_23_code 100 = .ok (.invokevirtual 219, 3) := by decide +kernel
theorem d_WC_write_103 : decode prog_1_method_23_code 103 = .ok (.goto 21, 3) := by decide +kernel
theorem d_WC_write_106 : decode prog_1_method_23_code 106 = .ok (.aload_n 0, 1) := by decide +kernel
theorem d_WC_write_107 : decode prog_1_method_23_code 107 = .ok (.getfield 58, 3) := by decide +kernel
theorem d_WC_write_110 : decode prog_1_method_23_code 110 = .ok (.iload 4, 2) := by decide +kernel
theorem d_WC_write_112 : decode prog_1_method_23_code 112 = .ok (.aload_n 0, 1) := by decide +kernel
theorem d_WC_write_113 : decode prog_1_method_23_code 113 = .ok (.getfield 44, 3) := by decide +kernel
theorem d_WC_write_116 : decode prog_1_method_23_code 116 = .ok (.iload_n 1, 1) := by decide +kernel
theorem d_WC_write_117 : decode prog_1_method_23_code 117 = .ok (.iload_n 3, 1) := by decide +kernel
theorem d_WC_write_118 : decode prog_1_method_23_code 118 = .ok (.invokevirtual 166, 3) := by decide +kernel
theorem d_WC_write_121 : decode prog_1_method_23_code 121 = .ok (.invokevirtual 226, 3) := by decide +kernel
theorem d_WC_write_124 : decode prog_1_method_23_code 124 = .ok (.iinc 2 1, 3) := by decide +kernel
theorem d_WC_write_127 : decode prog_1_method_23_code 127 = .ok (.goto (-78), 3) := by decide +kernel
theorem d_WC_write_130 : decode prog_1_method_23_code 130 = .ok (.aload_n 0, 1) := by decide +kernel
theorem d_WC_write_131 : decode prog_1_method_23_code 131 = .ok (.getfield 58, 3) := by decide +kernel
theorem d_WC_write_134 : decode prog_1_method_23_code 134 = .ok (.invokevirtual 209, 3) := by decide +kernel
theorem d_WC_write_137 : decode prog_1_method_23_code 137 = .ok (.ireturn, 1) := by decide +kernel
theorem d_WC_charactersOf_0 : decode prog_1_method_24_code 0 = .ok (.iconst 0, 1) := by decide +kernel
theorem d_WC_charactersOf_1 : decode prog_1_method_24_code 1 = .ok (.istore_n 2, 1) := by decide +kernel
theorem d_WC_charactersOf_2 : decode prog_1_method_24_code 2 = .ok (.iconst 0, 1) := by decide +kernel
theorem d_WC_charactersOf_3 : decode prog_1_method_24_code 3 = .ok (.istore_n 3, 1) := by decide +kernel
theorem d_WC_charactersOf_4 : decode prog_1_method_24_code 4 = .ok (.iload_n 3, 1) := by decide +kernel
theorem d_WC_charactersOf_5 : decode prog_1_method_24_code 5 = .ok (.aload_n 0, 1) := by decide +kernel
theorem d_WC_charactersOf_6 : decode prog_1_method_24_code 6 = .ok (.getfield 44, 3) := by decide +kernel
theorem d_WC_charactersOf_9 : decode prog_1_method_24_code 9 = .ok (.invokevirtual 160, 3) := by decide +kernel
theorem d_WC_charactersOf_12 : decode prog_1_method_24_code 12 = .ok (.if_icmp .ge 58, 3) := by decide +kernel
theorem d_WC_charactersOf_15 : decode prog_1_method_24_code 15 = .ok (.aload_n 0, 1) := by decide +kernel
theorem d_WC_charactersOf_16 : decode prog_1_method_24_code 16 = .ok (.getfield 44, 3) := by decide +kernel
theorem d_WC_charactersOf_19 : decode prog_1_method_24_code 19 = .ok (.iload_n 3, 1) := by decide +kernel
theorem d_WC_charactersOf_20 : decode prog_1_method_24_code 20 = .ok (.invokevirtual 163, 3) := by decide +kernel
theorem d_WC_charactersOf_23 : decode prog_1_method_24_code 23 = .ok (.istore 4, 2) := by decide +kernel
theorem d_WC_charactersOf_25 : decode prog_1_method_24_code 25 = .ok (.aload_n 0, 1) := by decide +kernel
theorem d_WC_charactersOf_26 : decode prog_1_method_24_code 26 = .ok (.getfield 44, 3) := by decide +kernel
theorem d_WC_charactersOf_29 : decode prog_1_method_24_code 29 = .ok (.iload_n 1, 1) := by decide +kernel
theorem d_WC_charactersOf_30 : decode prog_1_method_24_code 30 = .ok (.iload 4, 2) := by decide +kernel
theorem d_WC_charactersOf_32 : decode prog_1_method_24_code 32 = .ok (.invokevirtual 169, 3) := by decide +kernel
theorem d_WC_charactersOf_35 : decode prog_1_method_24_code 35 = .ok (.istore 5, 2) := by decide +kernel
theorem d_WC_charactersOf_37 : decode prog_1_method_24_code 37 = .ok (.iload_n 2, 1) := by decide +kernel
theorem d_WC_charactersOf_38 : decode prog_1_method_24_code 38 = .ok (.iload 5, 2) := by decide +kernel
theorem d_WC_charactersOf_40 : decode prog_1_method_24_code 40 = .ok (.ifCond .ne 7, 3) := by decide +kernel
theorem d_WC_charactersOf_43 : decode prog_1_method_24_code 43 = .ok (.iconst 1, 1) := by decide +kernel
theorem d_WC_charactersOf_44 : decode prog_1_method_24_code 44 = .ok (.goto 18, 3) := by decide +kernel
theorem d_WC_charactersOf_47 : decode prog_1_method_24_code 47 = .ok (.iload 5, 2) := by decide +kernel
theorem d_WC_charactersOf_49 : decode prog_1_method_24_code 49 = .ok (.aload_n 0, 1) := by decide +kernel
theorem d_WC_charactersOf_50 : decode prog_1_method_24_code 50 = .ok (.getfield 44, 3) := by decide +kernel
theorem d_WC_charactersOf_53 : decode prog_1_method_24_code 53 = .ok (.iload_n 1, 1) := by decide +kernel
theorem d_WC_charactersOf_54 : decode prog_1_method_24_code 54 = .ok (.iload 4, 2) := by decide +kernel
theorem d_WC_charactersOf_56 : decode prog_1_method_24_code 56 = .ok (.invokevirtual 166, 3) := by decide +kernel
theorem d_WC_charactersOf_59 : decode prog_1_method_24_code 59 = .ok (.invokestatic 229, 3) := by decide +kernel
theorem d_WC_charactersOf_62 : decode prog_1_method_24_code 62 = .ok (.iadd, 1) := by decide +kernel
theorem d_WC_charactersOf_63 : decode prog_1_method_24_code 63 = .ok (.istore_n 2, 1) := by decide +kernel
theorem d_WC_charactersOf_64 : decode prog_1_method_24_code 64 = .ok (.iinc 3 1, 3) := by decide +kernel
theorem d_WC_charactersOf_67 : decode prog_1_method_24_code 67 = .ok (.goto (-63), 3) := by decide +kernel
theorem d_WC_charactersOf_70 : decode prog_1_method_24_code 70 = .ok (.iload_n 2, 1) := by decide +kernel
theorem d_WC_charactersOf_71 : decode prog_1_method_24_code 71 = .ok (.ireturn, 1) := by decide +kernel
theorem d_WC_fault_0 : decode prog_1_method_25_code 0 = .ok (.iload_n 1, 1) := by decide +kernel
theorem d_WC_fault_1 : decode prog_1_method_25_code 1 = .ok (.iconst 0, 1) := by decide +kernel
theorem d_WC_fault_2 : decode prog_1_method_25_code 2 = .ok (.iconst 1, 1) := by decide +kernel
theorem d_WC_fault_3 : decode prog_1_method_25_code 3 = .ok (.invokestatic 86, 3) := by decide +kernel
theorem d_WC_fault_6 : decode prog_1_method_25_code 6 = .ok (.ifCond .ne 7, 3) := by decide +kernel
theorem d_WC_fault_9 : decode prog_1_method_25_code 9 = .ok (.sipush (-10001), 3) := by decide +kernel
theorem d_WC_fault_12 : decode prog_1_method_25_code 12 = .ok (.ireturn, 1) := by decide +kernel
theorem d_WC_fault_13 : decode prog_1_method_25_code 13 = .ok (.aload_n 0, 1) := by decide +kernel
theorem d_WC_fault_14 : decode prog_1_method_25_code 14 = .ok (.getfield 67, 3) := by decide +kernel
theorem d_WC_fault_17 : decode prog_1_method_25_code 17 = .ok (.invokevirtual 232, 3) := by decide +kernel
theorem d_WC_fault_20 : decode prog_1_method_25_code 20 = .ok (.aload_n 0, 1) := by decide +kernel
theorem d_WC_fault_21 : decode prog_1_method_25_code 21 = .ok (.getfield 67, 3) := by decide +kernel
theorem d_WC_fault_24 : decode prog_1_method_25_code 24 = .ok (.invokevirtual 235, 3) := by decide +kernel
theorem d_WC_fault_27 : decode prog_1_method_25_code 27 = .ok (.ifCond .ne 7, 3) := by decide +kernel
theorem d_WC_fault_30 : decode prog_1_method_25_code 30 = .ok (.sipush (-10004), 3) := by decide +kernel
theorem d_WC_fault_33 : decode prog_1_method_25_code 33 = .ok (.ireturn, 1) := by decide +kernel
theorem d_WC_fault_34 : decode prog_1_method_25_code 34 = .ok (.iload_n 1, 1) := by decide +kernel
theorem d_WC_fault_35 : decode prog_1_method_25_code 35 = .ok (.ifCond .ne 13, 3) := by decide +kernel
theorem d_WC_fault_38 : decode prog_1_method_25_code 38 = .ok (.aload_n 0, 1) := by decide +kernel
theorem d_WC_fault_39 : decode prog_1_method_25_code 39 = .ok (.getfield 67, 3) := by decide +kernel
theorem d_WC_fault_42 : decode prog_1_method_25_code 42 = .ok (.invokevirtual 239, 3) := by decide +kernel
theorem d_WC_fault_45 : decode prog_1_method_25_code 45 = .ok (.goto 10, 3) := by decide +kernel
theorem d_WC_fault_48 : decode prog_1_method_25_code 48 = .ok (.aload_n 0, 1) := by decide +kernel
theorem d_WC_fault_49 : decode prog_1_method_25_code 49 = .ok (.getfield 67, 3) := by decide +kernel
theorem d_WC_fault_52 : decode prog_1_method_25_code 52 = .ok (.invokevirtual 242, 3) := by decide +kernel
theorem d_WC_fault_55 : decode prog_1_method_25_code 55 = .ok (.ireturn, 1) := by decide +kernel
theorem d_WC_read_0 : decode prog_1_method_26_code 0 = .ok (.aload_n 0, 1) := by decide +kernel
theorem d_WC_read_1 : decode prog_1_method_26_code 1 = .ok (.getfield 67, 3) := by decide +kernel
theorem d_WC_read_4 : decode prog_1_method_26_code 4 = .ok (.invokevirtual 232, 3) := by decide +kernel
theorem d_WC_read_7 : decode prog_1_method_26_code 7 = .ok (.aload_n 0, 1) := by decide +kernel
theorem d_WC_read_8 : decode prog_1_method_26_code 8 = .ok (.getfield 67, 3) := by decide +kernel
theorem d_WC_read_11 : decode prog_1_method_26_code 11 = .ok (.invokevirtual 235, 3) := by decide +kernel
theorem d_WC_read_14 : decode prog_1_method_26_code 14 = .ok (.ifCond .eq 7, 3) := by decide +kernel
theorem d_WC_read_17 : decode prog_1_method_26_code 17 = .ok (.sipush (-10002), 3) := by decide +kernel
theorem d_WC_read_20 : decode prog_1_method_26_code 20 = .ok (.ireturn, 1) := by decide +kernel
theorem d_WC_read_21 : decode prog_1_method_26_code 21 = .ok (.aload_n 0, 1) := by decide +kernel
theorem d_WC_read_22 : decode prog_1_method_26_code 22 = .ok (.getfield 26, 3) := by decide +kernel
theorem d_WC_read_25 : decode prog_1_method_26_code 25 = .ok (.aload_n 0, 1) := by decide +kernel
theorem d_WC_read_26 : decode prog_1_method_26_code 26 = .ok (.getfield 10, 3) := by decide +kernel
theorem d_WC_read_29 : decode prog_1_method_26_code 29 = .ok (.invokevirtual 79, 3) := by decide +kernel
theorem d_WC_read_32 : decode prog_1_method_26_code 32 = .ok (.aload_n 0, 1) := by decide +kernel
theorem d_WC_read_33 : decode prog_1_method_26_code 33 = .ok (.getfield 10, 3) := by decide +kernel
theorem d_WC_read_36 : decode prog_1_method_26_code 36 = .ok (.aload_n 0, 1) := by decide +kernel
theorem d_WC_read_37 : decode prog_1_method_26_code 37 = .ok (.getfield 67, 3) := by decide +kernel
theorem d_WC_read_40 : decode prog_1_method_26_code 40 = .ok (.invokevirtual 245, 3) := by decide +kernel
theorem d_WC_read_43 : decode prog_1_method_26_code 43 = .ok (.invokevirtual 249, 3) := by decide +kernel
theorem d_WC_read_46 : decode prog_1_method_26_code 46 = .ok (.aload_n 0, 1) := by decide +kernel
theorem d_WC_read_47 : decode prog_1_method_26_code 47 = .ok (.getfield 10, 3) := by decide +kernel
theorem d_WC_read_50 : decode prog_1_method_26_code 50 = .ok (.invokevirtual 75, 3) := by decide +kernel
theorem d_WC_read_53 : decode prog_1_method_26_code 53 = .ok (.ireturn, 1) := by decide +kernel
theorem d_WC_isIn_0 : decode prog_1_method_27_code 0 = .ok (.iload_n 0, 1) := by decide +kernel
theorem d_WC_isIn_1 : decode prog_1_method_27_code 1 = .ok (.iload_n 1, 1) := by decide +kernel
theorem d_WC_isIn_2 : decode prog_1_method_27_code 2 = .ok (.if_icmp .lt 12, 3) := by decide +kernel
theorem d_WC_isIn_5 : decode prog_1_method_27_code 5 = .ok (.iload_n 0, 1) := by decide +kernel
theorem d_WC_isIn_6 : decode prog_1_method_27_code 6 = .ok (.iload_n 2, 1) := by decide +kernel
theorem d_WC_isIn_7 : decode prog_1_method_27_code 7 = .ok (.if_icmp .gt 7, 3) := by decide +kernel
theorem d_WC_isIn_10 : decode prog_1_method_27_code 10 = .ok (.iconst 1, 1) := by decide +kernel
theorem d_WC_isIn_11 : decode prog_1_method_27_code 11 = .ok (.goto 4, 3) := by decide +kernel
theorem d_WC_isIn_14 : decode prog_1_method_27_code 14 = .ok (.iconst 0, 1) := by decide +kernel
theorem d_WC_isIn_15 : decode prog_1_method_27_code 15 = .ok (.ireturn, 1) := by decide +kernel
theorem d_WC_isLetter_0 : decode prog_1_method_28_code 0 = .ok (.iload_n 0, 1) := by decide +kernel
theorem d_WC_isLetter_1 : decode prog_1_method_28_code 1 = .ok (.iconst 0, 1) := by decide +kernel
theorem d_WC_isLetter_2 : decode prog_1_method_28_code 2 = .ok (.bipush 7, 2) := by decide +kernel
theorem d_WC_isLetter_4 : decode prog_1_method_28_code 4 = .ok (.invokestatic 86, 3) := by decide +kernel
theorem d_WC_isLetter_7 : decode prog_1_method_28_code 7 = .ok (.ireturn, 1) := by decide +kernel
theorem d_WC_isWay_0 : decode prog_1_method_29_code 0 = .ok (.iload_n 0, 1) := by decide +kernel
theorem d_WC_isWay_1 : decode prog_1_method_29_code 1 = .ok (.iconst 0, 1) := by decide +kernel
theorem d_WC_isWay_2 : decode prog_1_method_29_code 2 = .ok (.iconst 2, 1) := by decide +kernel
theorem d_WC_isWay_3 : decode prog_1_method_29_code 3 = .ok (.invokestatic 86, 3) := by decide +kernel
theorem d_WC_isWay_6 : decode prog_1_method_29_code 6 = .ok (.ireturn, 1) := by decide +kernel
theorem d_WC_at_0 : decode prog_1_method_30_code 0 = .ok (.iload_n 1, 1) := by decide +kernel
theorem d_WC_at_1 : decode prog_1_method_30_code 1 = .ok (.ifCond .lt 15, 3) := by decide +kernel
theorem d_WC_at_4 : decode prog_1_method_30_code 4 = .ok (.iload_n 1, 1) := by decide +kernel
theorem d_WC_at_5 : decode prog_1_method_30_code 5 = .ok (.aload_n 0, 1) := by decide +kernel
theorem d_WC_at_6 : decode prog_1_method_30_code 6 = .ok (.arraylength, 1) := by decide +kernel
theorem d_WC_at_7 : decode prog_1_method_30_code 7 = .ok (.if_icmp .ge 9, 3) := by decide +kernel
theorem d_WC_at_10 : decode prog_1_method_30_code 10 = .ok (.aload_n 0, 1) := by decide +kernel
theorem d_WC_at_11 : decode prog_1_method_30_code 11 = .ok (.iload_n 1, 1) := by decide +kernel
theorem d_WC_at_12 : decode prog_1_method_30_code 12 = .ok (.iaload, 1) := by decide +kernel
theorem d_WC_at_13 : decode prog_1_method_30_code 13 = .ok (.goto 4, 3) := by decide +kernel
theorem d_WC_at_16 : decode prog_1_method_30_code 16 = .ok (.iconst (-1), 1) := by decide +kernel
theorem d_WC_at_17 : decode prog_1_method_30_code 17 = .ok (.ireturn, 1) := by decide +kernel
theorem d_WC_store_0 : decode prog_1_method_31_code 0 = .ok (.iload_n 1, 1) := by decide +kernel
theorem d_WC_store_1 : decode prog_1_method_31_code 1 = .ok (.ifCond .lt 13, 3) := by decide +kernel
theorem d_WC_store_4 : decode prog_1_method_31_code 4 = .ok (.iload_n 1, 1) := by decide +kernel
theorem d_WC_store_5 : decode prog_1_method_31_code 5 = .ok (.aload_n 0, 1) := by decide +kernel
theorem d_WC_store_6 : decode prog_1_method_31_code 6 = .ok (.arraylength, 1) := by decide +kernel
theorem d_WC_store_7 : decode prog_1_method_31_code 7 = .ok (.if_icmp .ge 7, 3) := by decide +kernel
theorem d_WC_store_10 : decode prog_1_method_31_code 10 = .ok (.aload_n 0, 1) := by decide +kernel
theorem d_WC_store_11 : decode prog_1_method_31_code 11 = .ok (.iload_n 1, 1) := by decide +kernel
theorem d_WC_store_12 : decode prog_1_method_31_code 12 = .ok (.iload_n 2, 1) := by decide +kernel
theorem d_WC_store_13 : decode prog_1_method_31_code 13 = .ok (.iastore, 1) := by decide +kernel
theorem d_WC_store_14 : decode prog_1_method_31_code 14 = .ok (.return_, 1) := by decide +kernel
theorem d_Mo_init_0 : decode prog_10_method_1_code 0 = .ok (.aload_n 0, 1) := by decide +kernel
theorem d_Mo_init_1 : decode prog_10_method_1_code 1 = .ok (.invokespecial 1, 3) := by decide +kernel
theorem d_Mo_init_4 : decode prog_10_method_1_code 4 = .ok (.aload_n 0, 1) := by decide +kernel
theorem d_Mo_init_5 : decode prog_10_method_1_code 5 = .ok (.bipush 66, 2) := by decide +kernel
theorem d_Mo_init_7 : decode prog_10_method_1_code 7 = .ok (.newarray .int, 2) := by decide +kernel
theorem d_Mo_init_9 : decode prog_10_method_1_code 9 = .ok (.putfield 7, 3) := by decide +kernel
theorem d_Mo_init_12 : decode prog_10_method_1_code 12 = .ok (.aload_n 0, 1) := by decide +kernel
theorem d_Mo_init_13 : decode prog_10_method_1_code 13 = .ok (.sipush 264, 3) := by decide +kernel
theorem d_Mo_init_16 : decode prog_10_method_1_code 16 = .ok (.newarray .int, 2) := by decide +kernel
theorem d_Mo_init_18 : decode prog_10_method_1_code 18 = .ok (.putfield 13, 3) := by decide +kernel
theorem d_Mo_init_21 : decode prog_10_method_1_code 21 = .ok (.aload_n 0, 1) := by decide +kernel
theorem d_Mo_init_22 : decode prog_10_method_1_code 22 = .ok (.bipush 66, 2) := by decide +kernel
theorem d_Mo_init_24 : decode prog_10_method_1_code 24 = .ok (.newarray .int, 2) := by decide +kernel
theorem d_Mo_init_26 : decode prog_10_method_1_code 26 = .ok (.putfield 16, 3) := by decide +kernel
theorem d_Mo_init_29 : decode prog_10_method_1_code 29 = .ok (.aload_n 0, 1) := by decide +kernel
theorem d_Mo_init_30 : decode prog_10_method_1_code 30 = .ok (.bipush 120, 2) := by decide +kernel
theorem d_Mo_init_32 : decode prog_10_method_1_code 32 = .ok (.newarray .int, 2) := by decide +kernel
theorem d_Mo_init_34 : decode prog_10_method_1_code 34 = .ok (.putfield 19, 3) := by decide +kernel
theorem d_Mo_init_37 : decode prog_10_method_1_code 37 = .ok (.aload_n 0, 1) := by decide +kernel
theorem d_Mo_init_38 : decode prog_10_method_1_code 38 = .ok (.bipush 60, 2) := by decide +kernel
theorem d_Mo_init_40 : decode prog_10_method_1_code 40 = .ok (.newarray .int, 2) := by decide +kernel
theorem d_Mo_init_42 : decode prog_10_method_1_code 42 = .ok (.putfield 22, 3) := by decide +kernel
theorem d_Mo_init_45 : decode prog_10_method_1_code 45 = .ok (.aload_n 0, 1) := by decide +kernel
theorem d_Mo_init_46 : decode prog_10_method_1_code 46 = .ok (.bipush 60, 2) := by decide +kernel
theorem d_Mo_init_48 : decode prog_10_method_1_code 48 = .ok (.newarray .int, 2) := by decide +kernel
theorem d_Mo_init_50 : decode prog_10_method_1_code 50 = .ok (.putfield 25, 3) := by decide +kernel
theorem d_Mo_init_53 : decode prog_10_method_1_code 53 = .ok (.aload_n 0, 1) := by decide +kernel
theorem d_Mo_init_54 : decode prog_10_method_1_code 54 = .ok (.bipush 60, 2) := by decide +kernel
theorem d_Mo_init_56 : decode prog_10_method_1_code 56 = .ok (.newarray .int, 2) := by decide +kernel
theorem d_Mo_init_58 : decode prog_10_method_1_code 58 = .ok (.putfield 28, 3) := by decide +kernel
theorem d_Mo_init_61 : decode prog_10_method_1_code 61 = .ok (.aload_n 0, 1) := by decide +kernel
theorem d_Mo_init_62 : decode prog_10_method_1_code 62 = .ok (.bipush 61, 2) := by decide +kernel
theorem d_Mo_init_64 : decode prog_10_method_1_code 64 = .ok (.newarray .int, 2) := by decide +kernel
theorem d_Mo_init_66 : decode prog_10_method_1_code 66 = .ok (.putfield 31, 3) := by decide +kernel
theorem d_Mo_init_69 : decode prog_10_method_1_code 69 = .ok (.aload_n 0, 1) := by decide +kernel
theorem d_Mo_init_70 : decode prog_10_method_1_code 70 = .ok (.bipush 60, 2) := by decide +kernel
theorem d_Mo_init_72 : decode prog_10_method_1_code 72 = .ok (.newarray .int, 2) := by decide +kernel
theorem d_Mo_init_74 : decode prog_10_method_1_code 74 = .ok (.putfield 34, 3) := by decide +kernel
theorem d_Mo_init_77 : decode prog_10_method_1_code 77 = .ok (.aload_n 0, 1) := by decide +kernel
theorem d_Mo_init_78 : decode prog_10_method_1_code 78 = .ok (.bipush 60, 2) := by decide +kernel
theorem d_Mo_init_80 : decode prog_10_method_1_code 80 = .ok (.newarray .int, 2) := by decide +kernel
theorem d_Mo_init_82 : decode prog_10_method_1_code 82 = .ok (.putfield 37, 3) := by decide +kernel
theorem d_Mo_init_85 : decode prog_10_method_1_code 85 = .ok (.aload_n 0, 1) := by decide +kernel
theorem d_Mo_init_86 : decode prog_10_method_1_code 86 = .ok (.bipush 60, 2) := by decide +kernel
theorem d_Mo_init_88 : decode prog_10_method_1_code 88 = .ok (.newarray .int, 2) := by decide +kernel
theorem d_Mo_init_90 : decode prog_10_method_1_code 90 = .ok (.putfield 40, 3) := by decide +kernel
theorem d_Mo_init_93 : decode prog_10_method_1_code 93 = .ok (.aload_n 0, 1) := by decide +kernel
theorem d_Mo_init_94 : decode prog_10_method_1_code 94 = .ok (.bipush 60, 2) := by decide +kernel
theorem d_Mo_init_96 : decode prog_10_method_1_code 96 = .ok (.newarray .int, 2) := by decide +kernel
theorem d_Mo_init_98 : decode prog_10_method_1_code 98 = .ok (.putfield 43, 3) := by decide +kernel
theorem d_Mo_init_101 : decode prog_10_method_1_code 101 = .ok (.aload_n 0, 1) := by decide +kernel
theorem d_Mo_init_102 : decode prog_10_method_1_code 102 = .ok (.bipush 60, 2) := by decide +kernel
theorem d_Mo_init_104 : decode prog_10_method_1_code 104 = .ok (.newarray .int, 2) := by decide +kernel
theorem d_Mo_init_106 : decode prog_10_method_1_code 106 = .ok (.putfield 46, 3) := by decide +kernel
theorem d_Mo_init_109 : decode prog_10_method_1_code 109 = .ok (.aload_n 0, 1) := by decide +kernel
theorem d_Mo_init_110 : decode prog_10_method_1_code 110 = .ok (.getfield 7, 3) := by decide +kernel
theorem d_Mo_init_113 : decode prog_10_method_1_code 113 = .ok (.iconst 1, 1) := by decide +kernel
theorem d_Mo_init_114 : decode prog_10_method_1_code 114 = .ok (.bipush 20, 2) := by decide +kernel
theorem d_Mo_init_116 : decode prog_10_method_1_code 116 = .ok (.iastore, 1) := by decide +kernel
theorem d_Mo_init_117 : decode prog_10_method_1_code 117 = .ok (.aload_n 0, 1) := by decide +kernel
theorem d_Mo_init_118 : decode prog_10_method_1_code 118 = .ok (.getfield 7, 3) := by decide +kernel
theorem d_Mo_init_121 : decode prog_10_method_1_code 121 = .ok (.iconst 2, 1) := by decide +kernel
theorem d_Mo_init_122 : decode prog_10_method_1_code 122 = .ok (.iconst 3, 1) := by decide +kernel
theorem d_Mo_init_123 : decode prog_10_method_1_code 123 = .ok (.iastore, 1) := by decide +kernel
theorem d_Mo_init_124 : decode prog_10_method_1_code 124 = .ok (.aload_n 0, 1) := by decide +kernel
theorem d_Mo_init_125 : decode prog_10_method_1_code 125 = .ok (.getfield 7, 3) := by decide +kernel
theorem d_Mo_init_128 : decode prog_10_method_1_code 128 = .ok (.iconst 3, 1) := by decide +kernel
theorem d_Mo_init_129 : decode prog_10_method_1_code 129 = .ok (.bipush 8, 2) := by decide +kernel
theorem d_Mo_init_131 : decode prog_10_method_1_code 131 = .ok (.iastore, 1) := by decide +kernel
theorem d_Mo_init_132 : decode prog_10_method_1_code 132 = .ok (.aload_n 0, 1) := by decide +kernel
theorem d_Mo_init_133 : decode prog_10_method_1_code 133 = .ok (.getfield 7, 3) := by decide +kernel
theorem d_Mo_init_136 : decode prog_10_method_1_code 136 = .ok (.iconst 4, 1) := by decide +kernel
theorem d_Mo_init_137 : decode prog_10_method_1_code 137 = .ok (.bipush 8, 2) := by decide +kernel
theorem d_Mo_init_139 : decode prog_10_method_1_code 139 = .ok (.iastore, 1) := by decide +kernel
theorem d_Mo_init_140 : decode prog_10_method_1_code 140 = .ok (.aload_n 0, 1) := by decide +kernel
theorem d_Mo_init_141 : decode prog_10_method_1_code 141 = .ok (.getfield 7, 3) := by decide +kernel
theorem d_Mo_init_144 : decode prog_10_method_1_code 144 = .ok (.iconst 5, 1) := by decide +kernel
theorem d_Mo_init_145 : decode prog_10_method_1_code 145 = .ok (.bipush 18, 2) := by decide +kernel
theorem d_Mo_init_147 : decode prog_10_method_1_code 147 = .ok (.iastore, 1) := by decide +kernel
theorem d_Mo_init_148 : decode prog_10_method_1_code 148 = .ok (.return_, 1) := by decide +kernel
theorem d_Mo_in_0 : decode prog_10_method_3_code 0 = .ok (.iload_n 0, 1) := by decide +kernel
theorem d_Mo_in_1 : decode prog_10_method_3_code 1 = .ok (.iload_n 1, 1) := by decide +kernel
theorem d_Mo_in_2 : decode prog_10_method_3_code 2 = .ok (.if_icmp .lt 12, 3) := by decide +kernel
theorem d_Mo_in_5 : decode prog_10_method_3_code 5 = .ok (.iload_n 0, 1) := by decide +kernel
theorem d_Mo_in_6 : decode prog_10_method_3_code 6 = .ok (.iload_n 2, 1) := by decide +kernel
theorem d_Mo_in_7 : decode prog_10_method_3_code 7 = .ok (.if_icmp .gt 7, 3) := by decide +kernel
theorem d_Mo_in_10 : decode prog_10_method_3_code 10 = .ok (.iconst 1, 1) := by decide +kernel
theorem d_Mo_in_11 : decode prog_10_method_3_code 11 = .ok (.goto 4, 3) := by decide +kernel
theorem d_Mo_in_14 : decode prog_10_method_3_code 14 = .ok (.iconst 0, 1) := by decide +kernel
theorem d_Mo_in_15 : decode prog_10_method_3_code 15 = .ok (.ireturn, 1) := by decide +kernel
theorem d_Mo_copies_0 : decode prog_10_method_4_code 0 = .ok (.iconst 0, 1) := by decide +kernel
theorem d_Mo_copies_1 : decode prog_10_method_4_code 1 = .ok (.istore_n 2, 1) := by decide +kernel
theorem d_Mo_copies_2 : decode prog_10_method_4_code 2 = .ok (.iload_n 2, 1) := by decide +kernel
theorem d_Mo_copies_3 : decode prog_10_method_4_code 3 = .ok (.bipush 66, 2) := by decide +kernel
theorem d_Mo_copies_5 : decode prog_10_method_4_code 5 = .ok (.if_icmp .ge 15, 3) := by decide +kernel
theorem d_Mo_copies_8 : decode prog_10_method_4_code 8 = .ok (.aload_n 1, 1) := by decide +kernel
theorem d_Mo_copies_9 : decode prog_10_method_4_code 9 = .ok (.iload_n 2, 1) := by decide +kernel
theorem d_Mo_copies_10 : decode prog_10_method_4_code 10 = .ok (.aload_n 0, 1) := by decide +kernel
theorem d_Mo_copies_11 : decode prog_10_method_4_code 11 = .ok (.iload_n 2, 1) := by decide +kernel
theorem d_Mo_copies_12 : decode prog_10_method_4_code 12 = .ok (.iaload, 1) := by decide +kernel
theorem d_Mo_copies_13 : decode prog_10_method_4_code 13 = .ok (.iastore, 1) := by decide +kernel
theorem d_Mo_copies_14 : decode prog_10_method_4_code 14 = .ok (.iinc 2 1, 3) := by decide +kernel
theorem d_Mo_copies_17 : decode prog_10_method_4_code 17 = .ok (.goto (-15), 3) := by decide +kernel
theorem d_Mo_copies_20 : decode prog_10_method_4_code 20 = .ok (.return_, 1) := by decide +kernel
theorem d_Mo_changes_0 : decode prog_10_method_5_code 0 = .ok (.aload_n 0, 1) := by decide +kernel
theorem d_Mo_changes_1 : decode prog_10_method_5_code 1 = .ok (.getfield 49, 3) := by decide +kernel
theorem d_Mo_changes_4 : decode prog_10_method_5_code 4 = .ok (.iconst 4, 1) := by decide +kernel
theorem d_Mo_changes_5 : decode prog_10_method_5_code 5 = .ok (.if_icmp .ne 43, 3) := by decide +kernel
theorem d_Mo_changes_8 : decode prog_10_method_5_code 8 = .ok (.iconst 0, 1) := by decide +kernel
theorem d_Mo_changes_9 : decode prog_10_method_5_code 9 = .ok (.istore_n 1, 1) := by decide +kernel
theorem d_Mo_changes_10 : decode prog_10_method_5_code 10 = .ok (.iload_n 1, 1) := by decide +kernel
theorem d_Mo_changes_11 : decode prog_10_method_5_code 11 = .ok (.sipush 198, 3) := by decide +kernel
theorem d_Mo_changes_14 : decode prog_10_method_5_code 14 = .ok (.if_icmp .ge 24, 3) := by decide +kernel
theorem d_Mo_changes_17 : decode prog_10_method_5_code 17 = .ok (.aload_n 0, 1) := by decide +kernel
theorem d_Mo_changes_18 : decode prog_10_method_5_code 18 = .ok (.getfield 13, 3) := by decide +kernel
theorem d_Mo_changes_21 : decode prog_10_method_5_code 21 = .ok (.iload_n 1, 1) := by decide +kernel
theorem d_Mo_changes_22 : decode prog_10_method_5_code 22 = .ok (.aload_n 0, 1) := by decide +kernel
theorem d_Mo_changes_23 : decode prog_10_method_5_code 23 = .ok (.getfield 13, 3) := by decide +kernel
theorem d_Mo_changes_26 : decode prog_10_method_5_code 26 = .ok (.iload_n 1, 1) := by decide +kernel
theorem d_Mo_changes_27 : decode prog_10_method_5_code 27 = .ok (.bipush 66, 2) := by decide +kernel
theorem d_Mo_changes_29 : decode prog_10_method_5_code 29 = .ok (.iadd, 1) := by decide +kernel
theorem d_Mo_changes_30 : decode prog_10_method_5_code 30 = .ok (.iaload, 1) := by decide +kernel
theorem d_Mo_changes_31 : decode prog_10_method_5_code 31 = .ok (.iastore, 1) := by decide +kernel
theorem d_Mo_changes_32 : decode prog_10_method_5_code 32 = .ok (.iinc 1 1, 3) := by decide +kernel
theorem d_Mo_changes_35 : decode prog_10_method_5_code 35 = .ok (.goto (-25), 3) := by decide +kernel
theorem d_Mo_changes_38 : decode prog_10_method_5_code 38 = .ok (.aload_n 0, 1) := by decide +kernel
theorem d_Mo_changes_39 : decode prog_10_method_5_code 39 = .ok (.dup, 1) := by decide +kernel
theorem d_Mo_changes_40 : decode prog_10_method_5_code 40 = .ok (.getfield 49, 3) := by decide +kernel
theorem d_Mo_changes_43 : decode prog_10_method_5_code 43 = .ok (.iconst 1, 1) := by decide +kernel
theorem d_Mo_changes_44 : decode prog_10_method_5_code 44 = .ok (.isub, 1) := by decide +kernel
theorem d_Mo_changes_45 : decode prog_10_method_5_code 45 = .ok (.putfield 49, 3) := by decide +kernel
theorem d_Mo_changes_48 : decode prog_10_method_5_code 48 = .ok (.iconst 0, 1) := by decide +kernel
theorem d_Mo_changes_49 : decode prog_10_method_5_code 49 = .ok (.istore_n 1, 1) := by decide +kernel
theorem d_Mo_changes_50 : decode prog_10_method_5_code 50 = .ok (.iload_n 1, 1) := by decide +kernel
theorem d_Mo_changes_51 : decode prog_10_method_5_code 51 = .ok (.bipush 66, 2) := by decide +kernel
theorem d_Mo_changes_53 : decode prog_10_method_5_code 53 = .ok (.if_icmp .ge 29, 3) := by decide +kernel
theorem d_Mo_changes_56 : decode prog_10_method_5_code 56 = .ok (.aload_n 0, 1) := by decide +kernel
theorem d_Mo_changes_57 : decode prog_10_method_5_code 57 = .ok (.getfield 13, 3) := by decide +kernel
theorem d_Mo_changes_60 : decode prog_10_method_5_code 60 = .ok (.bipush 66, 2) := by decide +kernel
theorem d_Mo_changes_62 : decode prog_10_method_5_code 62 = .ok (.aload_n 0, 1) := by decide +kernel
theorem d_Mo_changes_63 : decode prog_10_method_5_code 63 = .ok (.getfield 49, 3) := by decide +kernel
theorem d_Mo_changes_66 : decode prog_10_method_5_code 66 = .ok (.imul, 1) := by decide +kernel
theorem d_Mo_changes_67 : decode prog_10_method_5_code 67 = .ok (.iload_n 1, 1) := by decide +kernel
theorem d_Mo_changes_68 : decode prog_10_method_5_code 68 = .ok (.iadd, 1) := by decide +kernel
theorem d_Mo_changes_69 : decode prog_10_method_5_code 69 = .ok (.aload_n 0, 1) := by decide +kernel
theorem d_Mo_changes_70 : decode prog_10_method_5_code 70 = .ok (.getfield 7, 3) := by decide +kernel
theorem d_Mo_changes_73 : decode prog_10_method_5_code 73 = .ok (.iload_n 1, 1) := by decide +kernel
theorem d_Mo_changes_74 : decode prog_10_method_5_code 74 = .ok (.iaload, 1) := by decide +kernel
theorem d_Mo_changes_75 : decode prog_10_method_5_code 75 = .ok (.iastore, 1) := by decide +kernel
theorem d_Mo_changes_76 : decode prog_10_method_5_code 76 = .ok (.iinc 1 1, 3) := by decide +kernel
theorem d_Mo_changes_79 : decode prog_10_method_5_code 79 = .ok (.goto (-29), 3) := by decide +kernel
theorem d_Mo_changes_82 : decode prog_10_method_5_code 82 = .ok (.aload_n 0, 1) := by decide +kernel
theorem d_Mo_changes_83 : decode prog_10_method_5_code 83 = .ok (.dup, 1) := by decide +kernel
theorem d_Mo_changes_84 : decode prog_10_method_5_code 84 = .ok (.getfield 49, 3) := by decide +kernel
theorem d_Mo_changes_87 : decode prog_10_method_5_code 87 = .ok (.iconst 1, 1) := by decide +kernel
theorem d_Mo_changes_88 : decode prog_10_method_5_code 88 = .ok (.iadd, 1) := by decide +kernel
theorem d_Mo_changes_89 : decode prog_10_method_5_code 89 = .ok (.putfield 49, 3) := by decide +kernel
theorem d_Mo_changes_92 : decode prog_10_method_5_code 92 = .ok (.return_, 1) := by decide +kernel
theorem d_Mo_isPlace_0 : decode prog_10_method_6_code 0 = .ok (.iload_n 1, 1) := by decide +kernel
theorem d_Mo_isPlace_1 : decode prog_10_method_6_code 1 = .ok (.ifCond .lt 17, 3) := by decide +kernel
theorem d_Mo_isPlace_4 : decode prog_10_method_6_code 4 = .ok (.iload_n 1, 1) := by decide +kernel
theorem d_Mo_isPlace_5 : decode prog_10_method_6_code 5 = .ok (.aload_n 0, 1) := by decide +kernel
theorem d_Mo_isPlace_6 : decode prog_10_method_6_code 6 = .ok (.getfield 7, 3) := by decide +kernel
theorem d_Mo_isPlace_9 : decode prog_10_method_6_code 9 = .ok (.iconst 0, 1) := by decide +kernel
theorem d_Mo_isPlace_10 : decode prog_10_method_6_code 10 = .ok (.iaload, 1) := by decide +kernel
theorem d_Mo_isPlace_11 : decode prog_10_method_6_code 11 = .ok (.if_icmp .ge 7, 3) := by decide +kernel
theorem d_Mo_isPlace_14 : decode prog_10_method_6_code 14 = .ok (.iconst 1, 1) := by decide +kernel
theorem d_Mo_isPlace_15 : decode prog_10_method_6_code 15 = .ok (.goto 4, 3) := by decide +kernel
theorem d_Mo_isPlace_18 : decode prog_10_method_6_code 18 = .ok (.iconst 0, 1) := by decide +kernel
theorem d_Mo_isPlace_19 : decode prog_10_method_6_code 19 = .ok (.ireturn, 1) := by decide +kernel
theorem d_Mo_put_0 : decode prog_10_method_7_code 0 = .ok (.iload_n 1, 1) := by decide +kernel
theorem d_Mo_put_1 : decode prog_10_method_7_code 1 = .ok (.iconst 0, 1) := by decide +kernel
theorem d_Mo_put_2 : decode prog_10_method_7_code 2 = .ok (.bipush 7, 2) := by decide +kernel
theorem d_Mo_put_4 : decode prog_10_method_7_code 4 = .ok (.invokestatic 53, 3) := by decide +kernel
theorem d_Mo_put_7 : decode prog_10_method_7_code 7 = .ok (.ifCond .ne 7, 3) := by decide +kernel
theorem d_Mo_put_10 : decode prog_10_method_7_code 10 = .ok (.sipush (-10001), 3) := by decide +kernel
theorem d_Mo_put_13 : decode prog_10_method_7_code 13 = .ok (.ireturn, 1) := by decide +kernel
theorem d_Mo_put_14 : decode prog_10_method_7_code 14 = .ok (.aload_n 0, 1) := by decide +kernel
theorem d_Mo_put_15 : decode prog_10_method_7_code 15 = .ok (.getfield 7, 3) := by decide +kernel
theorem d_Mo_put_18 : decode prog_10_method_7_code 18 = .ok (.iconst 0, 1) := by decide +kernel
theorem d_Mo_put_19 : decode prog_10_method_7_code 19 = .ok (.iaload, 1) := by decide +kernel
theorem d_Mo_put_20 : decode prog_10_method_7_code 20 = .ok (.bipush 60, 2) := by decide +kernel
theorem d_Mo_put_22 : decode prog_10_method_7_code 22 = .ok (.if_icmp .ne 7, 3) := by decide +kernel
theorem d_Mo_put_25 : decode prog_10_method_7_code 25 = .ok (.sipush (-10003), 3) := by decide +kernel
theorem d_Mo_put_28 : decode prog_10_method_7_code 28 = .ok (.ireturn, 1) := by decide +kernel
theorem d_Mo_put_29 : decode prog_10_method_7_code 29 = .ok (.aload_n 0, 1) := by decide +kernel
theorem d_Mo_put_30 : decode prog_10_method_7_code 30 = .ok (.invokevirtual 57, 3) := by decide +kernel
theorem d_Mo_put_33 : decode prog_10_method_7_code 33 = .ok (.aload_n 0, 1) := by decide +kernel
theorem d_Mo_put_34 : decode prog_10_method_7_code 34 = .ok (.getfield 7, 3) := by decide +kernel
theorem d_Mo_put_37 : decode prog_10_method_7_code 37 = .ok (.bipush 6, 2) := by decide +kernel
theorem d_Mo_put_39 : decode prog_10_method_7_code 39 = .ok (.aload_n 0, 1) := by decide +kernel
theorem d_Mo_put_40 : decode prog_10_method_7_code 40 = .ok (.getfield 7, 3) := by decide +kernel
theorem d_Mo_put_43 : decode prog_10_method_7_code 43 = .ok (.iconst 0, 1) := by decide +kernel
theorem d_Mo_put_44 : decode prog_10_method_7_code 44 = .ok (.iaload, 1) := by decide +kernel
theorem d_Mo_put_45 : decode prog_10_method_7_code 45 = .ok (.iadd, 1) := by decide +kernel
theorem d_Mo_put_46 : decode prog_10_method_7_code 46 = .ok (.iload_n 1, 1) := by decide +kernel
theorem d_Mo_put_47 : decode prog_10_method_7_code 47 = .ok (.iastore, 1) := by decide +kernel
theorem d_Mo_put_48 : decode prog_10_method_7_code 48 = .ok (.aload_n 0, 1) := by decide +kernel
theorem d_Mo_put_49 : decode prog_10_method_7_code 49 = .ok (.getfield 7, 3) := by decide +kernel
theorem d_Mo_put_52 : decode prog_10_method_7_code 52 = .ok (.iconst 0, 1) := by decide +kernel
theorem d_Mo_put_53 : decode prog_10_method_7_code 53 = .ok (.dup2, 1) := by decide +kernel
theorem d_Mo_put_54 : decode prog_10_method_7_code 54 = .ok (.iaload, 1) := by decide +kernel
theorem d_Mo_put_55 : decode prog_10_method_7_code 55 = .ok (.iconst 1, 1) := by decide +kernel
theorem d_Mo_put_56 : decode prog_10_method_7_code 56 = .ok (.iadd, 1) := by decide +kernel
theorem d_Mo_put_57 : decode prog_10_method_7_code 57 = .ok (.iastore, 1) := by decide +kernel
theorem d_Mo_put_58 : decode prog_10_method_7_code 58 = .ok (.aload_n 0, 1) := by decide +kernel
theorem d_Mo_put_59 : decode prog_10_method_7_code 59 = .ok (.getfield 7, 3) := by decide +kernel
theorem d_Mo_put_62 : decode prog_10_method_7_code 62 = .ok (.iconst 0, 1) := by decide +kernel
theorem d_Mo_put_63 : decode prog_10_method_7_code 63 = .ok (.iaload, 1) := by decide +kernel
theorem d_Mo_put_64 : decode prog_10_method_7_code 64 = .ok (.ireturn, 1) := by decide +kernel
theorem d_Mo_drop_0 : decode prog_10_method_8_code 0 = .ok (.iload_n 1, 1) := by decide +kernel
theorem d_Mo_drop_1 : decode prog_10_method_8_code 1 = .ok (.iconst 1, 1) := by decide +kernel
theorem d_Mo_drop_2 : decode prog_10_method_8_code 2 = .ok (.bipush 60, 2) := by decide +kernel
theorem d_Mo_drop_4 : decode prog_10_method_8_code 4 = .ok (.invokestatic 53, 3) := by decide +kernel
theorem d_Mo_drop_7 : decode prog_10_method_8_code 7 = .ok (.ifCond .ne 7, 3) := by decide +kernel
theorem d_Mo_drop_10 : decode prog_10_method_8_code 10 = .ok (.sipush (-10001), 3) := by decide +kernel
theorem d_Mo_drop_13 : decode prog_10_method_8_code 13 = .ok (.ireturn, 1) := by decide +kernel
theorem d_Mo_drop_14 : decode prog_10_method_8_code 14 = .ok (.iload_n 1, 1) := by decide +kernel
theorem d_Mo_drop_15 : decode prog_10_method_8_code 15 = .ok (.aload_n 0, 1) := by decide +kernel
theorem d_Mo_drop_16 : decode prog_10_method_8_code 16 = .ok (.getfield 7, 3) := by decide +kernel
theorem d_Mo_drop_19 : decode prog_10_method_8_code 19 = .ok (.iconst 0, 1) := by decide +kernel
theorem d_Mo_drop_20 : decode prog_10_method_8_code 20 = .ok (.iaload, 1) := by decide +kernel
theorem d_Mo_drop_21 : decode prog_10_method_8_code 21 = .ok (.if_icmp .le 7, 3) := by decide +kernel
theorem d_Mo_drop_24 : decode prog_10_method_8_code 24 = .ok (.sipush (-10002), 3) := by decide +kernel
theorem d_Mo_drop_27 : decode prog_10_method_8_code 27 = .ok (.ireturn, 1) := by decide +kernel
theorem d_Mo_drop_28 : decode prog_10_method_8_code 28 = .ok (.aload_n 0, 1) := by decide +kernel
theorem d_Mo_drop_29 : decode prog_10_method_8_code 29 = .ok (.invokevirtual 57, 3) := by decide +kernel
theorem d_Mo_drop_32 : decode prog_10_method_8_code 32 = .ok (.aload_n 0, 1) := by decide +kernel
theorem d_Mo_drop_33 : decode prog_10_method_8_code 33 = .ok (.getfield 7, 3) := by decide +kernel
theorem d_Mo_drop_36 : decode prog_10_method_8_code 36 = .ok (.iconst 0, 1) := by decide +kernel
theorem d_Mo_drop_37 : decode prog_10_method_8_code 37 = .ok (.dup2, 1) := by decide +kernel
theorem d_Mo_drop_38 : decode prog_10_method_8_code 38 = .ok (.iaload, 1) := by decide +kernel
theorem d_Mo_drop_39 : decode prog_10_method_8_code 39 = .ok (.iload_n 1, 1) := by decide +kernel
theorem d_Mo_drop_40 : decode prog_10_method_8_code 40 = .ok (.isub, 1) := by decide +kernel
theorem d_Mo_drop_41 : decode prog_10_method_8_code 41 = .ok (.iastore, 1) := by decide +kernel
theorem d_Mo_drop_42 : decode prog_10_method_8_code 42 = .ok (.aload_n 0, 1) := by decide +kernel
theorem d_Mo_drop_43 : decode prog_10_method_8_code 43 = .ok (.getfield 7, 3) := by decide +kernel
theorem d_Mo_drop_46 : decode prog_10_method_8_code 46 = .ok (.iconst 0, 1) := by decide +kernel
theorem d_Mo_drop_47 : decode prog_10_method_8_code 47 = .ok (.iaload, 1) := by decide +kernel
theorem d_Mo_drop_48 : decode prog_10_method_8_code 48 = .ok (.ireturn, 1) := by decide +kernel
theorem d_Mo_mend_0 : decode prog_10_method_9_code 0 = .ok (.aload_n 0, 1) := by decide +kernel
theorem d_Mo_mend_1 : decode prog_10_method_9_code 1 = .ok (.iload_n 1, 1) := by decide +kernel
theorem d_Mo_mend_2 : decode prog_10_method_9_code 2 = .ok (.invokevirtual 60, 3) := by decide +kernel
theorem d_Mo_mend_5 : decode prog_10_method_9_code 5 = .ok (.ifCond .eq 13, 3) := by decide +kernel
theorem d_Mo_mend_8 : decode prog_10_method_9_code 8 = .ok (.iload_n 2, 1) := by decide +kernel
theorem d_Mo_mend_9 : decode prog_10_method_9_code 9 = .ok (.iconst 0, 1) := by decide +kernel
theorem d_Mo_mend_10 : decode prog_10_method_9_code 10 = .ok (.bipush 7, 2) := by decide +kernel
theorem d_Mo_mend_12 : decode prog_10_method_9_code 12 = .ok (.invokestatic 53, 3) := by decide +kernel
theorem d_Mo_mend_15 : decode prog_10_method_9_code 15 = .ok (.ifCond .ne 7, 3) := by decide +kernel
theorem d_Mo_mend_18 : decode prog_10_method_9_code 18 = .ok (.sipush (-10001), 3) := by decide +kernel
theorem d_Mo_mend_21 : decode prog_10_method_9_code 21 = .ok (.ireturn, 1) := by decide +kernel
theorem d_Mo_mend_22 : decode prog_10_method_9_code 22 = .ok (.aload_n 0, 1) := by decide +kernel
theorem d_Mo_mend_23 : decode prog_10_method_9_code 23 = .ok (.invokevirtual 57, 3) := by decide +kernel
theorem d_Mo_mend_26 : decode prog_10_method_9_code 26 = .ok (.aload_n 0, 1) := by decide +kernel
theorem d_Mo_mend_27 : decode prog_10_method_9_code 27 = .ok (.getfield 7, 3) := by decide +kernel
theorem d_Mo_mend_30 : decode prog_10_method_9_code 30 = .ok (.bipush 6, 2) := by decide +kernel
theorem d_Mo_mend_32 : decode prog_10_method_9_code 32 = .ok (.iload_n 1, 1) := by decide +kernel
theorem d_Mo_mend_33 : decode prog_10_method_9_code 33 = .ok (.iadd, 1) := by decide +kernel
theorem d_Mo_mend_34 : decode prog_10_method_9_code 34 = .ok (.iaload, 1) := by decide +kernel
theorem d_Mo_mend_35 : decode prog_10_method_9_code 35 = .ok (.istore_n 3, 1) := by decide +kernel
theorem d_Mo_mend_36 : decode prog_10_method_9_code 36 = .ok (.aload_n 0, 1) := by decide +kernel
theorem d_Mo_mend_37 : decode prog_10_method_9_code 37 = .ok (.getfield 7, 3) := by decide +kernel
theorem d_Mo_mend_40 : decode prog_10_method_9_code 40 = .ok (.bipush 6, 2) := by decide +kernel
theorem d_Mo_mend_42 : decode prog_10_method_9_code 42 = .ok (.iload_n 1, 1) := by decide +kernel
theorem d_Mo_mend_43 : decode prog_10_method_9_code 43 = .ok (.iadd, 1) := by decide +kernel
theorem d_Mo_mend_44 : decode prog_10_method_9_code 44 = .ok (.iload_n 2, 1) := by decide +kernel
theorem d_Mo_mend_45 : decode prog_10_method_9_code 45 = .ok (.iastore, 1) := by decide +kernel
theorem d_Mo_mend_46 : decode prog_10_method_9_code 46 = .ok (.iload_n 3, 1) := by decide +kernel
theorem d_Mo_mend_47 : decode prog_10_method_9_code 47 = .ok (.ireturn, 1) := by decide +kernel
theorem d_Mo_least_0 : decode prog_10_method_10_code 0 = .ok (.iload_n 0, 1) := by decide +kernel
theorem d_Mo_least_1 : decode prog_10_method_10_code 1 = .ok (.iconst 1, 1) := by decide +kernel
theorem d_Mo_least_2 : decode prog_10_method_10_code 2 = .ok (.if_icmp .ne 7, 3) := by decide +kernel
theorem d_Mo_least_5 : decode prog_10_method_10_code 5 = .ok (.iconst 2, 1) := by decide +kernel
theorem d_Mo_least_6 : decode prog_10_method_10_code 6 = .ok (.goto 4, 3) := by decide +kernel
theorem d_Mo_least_9 : decode prog_10_method_10_code 9 = .ok (.iconst 1, 1) := by decide +kernel
theorem d_Mo_least_10 : decode prog_10_method_10_code 10 = .ok (.ireturn, 1) := by decide +kernel
theorem d_Mo_most_0 : decode prog_10_method_11_code 0 = .ok (.iload_n 0, 1) := by decide +kernel
theorem d_Mo_most_1 : decode prog_10_method_11_code 1 = .ok (.iconst 1, 1) := by decide +kernel
theorem d_Mo_most_2 : decode prog_10_method_11_code 2 = .ok (.if_icmp .ne 8, 3) := by decide +kernel
theorem d_Mo_most_5 : decode prog_10_method_11_code 5 = .ok (.bipush 6, 2) := by decide +kernel
theorem d_Mo_most_7 : decode prog_10_method_11_code 7 = .ok (.goto 15, 3) := by decide +kernel
theorem d_Mo_most_10 : decode prog_10_method_11_code 10 = .ok (.iload_n 0, 1) := by decide +kernel
theorem d_Mo_most_11 : decode prog_10_method_11_code 11 = .ok (.iconst 3, 1) := by decide +kernel
theorem d_Mo_most_12 : decode prog_10_method_11_code 12 = .ok (.if_icmp .ne 8, 3) := by decide +kernel
theorem d_Mo_most_15 : decode prog_10_method_11_code 15 = .ok (.bipush 20, 2) := by decide +kernel
theorem d_Mo_most_17 : decode prog_10_method_11_code 17 = .ok (.goto 5, 3) := by decide +kernel
theorem d_Mo_most_20 : decode prog_10_method_11_code 20 = .ok (.bipush 60, 2) := by decide +kernel
theorem d_Mo_most_22 : decode prog_10_method_11_code 22 = .ok (.ireturn, 1) := by decide +kernel
theorem d_Mo_set_0 : decode prog_10_method_12_code 0 = .ok (.iload_n 1, 1) := by decide +kernel
theorem d_Mo_set_1 : decode prog_10_method_12_code 1 = .ok (.iconst 0, 1) := by decide +kernel
theorem d_Mo_set_2 : decode prog_10_method_12_code 2 = .ok (.iconst 4, 1) := by decide +kernel
theorem d_Mo_set_3 : decode prog_10_method_12_code 3 = .ok (.invokestatic 53, 3) := by decide +kernel
theorem d_Mo_set_6 : decode prog_10_method_12_code 6 = .ok (.ifCond .eq 18, 3) := by decide +kernel
theorem d_Mo_set_9 : decode prog_10_method_12_code 9 = .ok (.iload_n 2, 1) := by decide +kernel
theorem d_Mo_set_10 : decode prog_10_method_12_code 10 = .ok (.iload_n 1, 1) := by decide +kernel
theorem d_Mo_set_11 : decode prog_10_method_12_code 11 = .ok (.invokestatic 64, 3) := by decide +kernel
theorem d_Mo_set_14 : decode prog_10_method_12_code 14 = .ok (.iload_n 1, 1) := by decide +kernel
theorem d_Mo_set_15 : decode prog_10_method_12_code 15 = .ok (.invokestatic 68, 3) := by decide +kernel
theorem d_Mo_set_18 : decode prog_10_method_12_code 18 = .ok (.invokestatic 53, 3) := by decide +kernel
theorem d_Mo_set_21 : decode prog_10_method_12_code 21 = .ok (.ifCond .ne 7, 3) := by decide +kernel
theorem d_Mo_set_24 : decode prog_10_method_12_code 24 = .ok (.sipush (-10001), 3) := by decide +kernel
theorem d_Mo_set_27 : decode prog_10_method_12_code 27 = .ok (.ireturn, 1) := by decide +kernel
theorem d_Mo_set_28 : decode prog_10_method_12_code 28 = .ok (.aload_n 0, 1) := by decide +kernel
theorem d_Mo_set_29 : decode prog_10_method_12_code 29 = .ok (.invokevirtual 57, 3) := by decide +kernel
theorem d_Mo_set_32 : decode prog_10_method_12_code 32 = .ok (.aload_n 0, 1) := by decide +kernel
theorem d_Mo_set_33 : decode prog_10_method_12_code 33 = .ok (.getfield 7, 3) := by decide +kernel
theorem d_Mo_set_36 : decode prog_10_method_12_code 36 = .ok (.iconst 1, 1) := by decide +kernel
theorem d_Mo_set_37 : decode prog_10_method_12_code 37 = .ok (.iload_n 1, 1) := by decide +kernel
theorem d_Mo_set_38 : decode prog_10_method_12_code 38 = .ok (.iadd, 1) := by decide +kernel
theorem d_Mo_set_39 : decode prog_10_method_12_code 39 = .ok (.iaload, 1) := by decide +kernel
theorem d_Mo_set_40 : decode prog_10_method_12_code 40 = .ok (.istore_n 3, 1) := by decide +kernel
theorem d_Mo_set_41 : decode prog_10_method_12_code 41 = .ok (.aload_n 0, 1) := by decide +kernel
theorem d_Mo_set_42 : decode prog_10_method_12_code 42 = .ok (.getfield 7, 3) := by decide +kernel
theorem d_Mo_set_45 : decode prog_10_method_12_code 45 = .ok (.iconst 1, 1) := by decide +kernel
theorem d_Mo_set_46 : decode prog_10_method_12_code 46 = .ok (.iload_n 1, 1) := by decide +kernel
theorem d_Mo_set_47 : decode prog_10_method_12_code 47 = .ok (.iadd, 1) := by decide +kernel
theorem d_Mo_set_48 : decode prog_10_method_12_code 48 = .ok (.iload_n 2, 1) := by decide +kernel
theorem d_Mo_set_49 : decode prog_10_method_12_code 49 = .ok (.iastore, 1) := by decide +kernel
theorem d_Mo_set_50 : decode prog_10_method_12_code 50 = .ok (.iload_n 3, 1) := by decide +kernel
theorem d_Mo_set_51 : decode prog_10_method_12_code 51 = .ok (.ireturn, 1) := by decide +kernel
theorem d_Mo_letter_0 : decode prog_10_method_13_code 0 = .ok (.aload_n 0, 1) := by decide +kernel
theorem d_Mo_letter_1 : decode prog_10_method_13_code 1 = .ok (.iload_n 1, 1) := by decide +kernel
theorem d_Mo_letter_2 : decode prog_10_method_13_code 2 = .ok (.invokevirtual 60, 3) := by decide +kernel
theorem d_Mo_letter_5 : decode prog_10_method_13_code 5 = .ok (.ifCond .eq 15, 3) := by decide +kernel
theorem d_Mo_letter_8 : decode prog_10_method_13_code 8 = .ok (.aload_n 0, 1) := by decide +kernel
theorem d_Mo_letter_9 : decode prog_10_method_13_code 9 = .ok (.getfield 7, 3) := by decide +kernel
theorem d_Mo_letter_12 : decode prog_10_method_13_code 12 = .ok (.bipush 6, 2) := by decide +kernel
theorem d_Mo_letter_14 : decode prog_10_method_13_code 14 = .ok (.iload_n 1, 1) := by decide +kernel
theorem d_Mo_letter_15 : decode prog_10_method_13_code 15 = .ok (.iadd, 1) := by decide +kernel
theorem d_Mo_letter_16 : decode prog_10_method_13_code 16 = .ok (.iaload, 1) := by decide +kernel
theorem d_Mo_letter_17 : decode prog_10_method_13_code 17 = .ok (.goto 6, 3) := by decide +kernel
theorem d_Mo_letter_20 : decode prog_10_method_13_code 20 = .ok (.sipush (-10001), 3) := by decide +kernel
theorem d_Mo_letter_23 : decode prog_10_method_13_code 23 = .ok (.ireturn, 1) := by decide +kernel
theorem d_Mo_reach_0 : decode prog_10_method_14_code 0 = .ok (.iconst 0, 1) := by decide +kernel
theorem d_Mo_reach_1 : decode prog_10_method_14_code 1 = .ok (.istore_n 3, 1) := by decide +kernel
theorem d_Mo_reach_2 : decode prog_10_method_14_code 2 = .ok (.iload_n 3, 1) := by decide +kernel
theorem d_Mo_reach_3 : decode prog_10_method_14_code 3 = .ok (.bipush 20, 2) := by decide +kernel
theorem d_Mo_reach_5 : decode prog_10_method_14_code 5 = .ok (.if_icmp .ge 48, 3) := by decide +kernel
theorem d_Mo_reach_8 : decode prog_10_method_14_code 8 = .ok (.iload_n 1, 1) := by decide +kernel
theorem d_Mo_reach_9 : decode prog_10_method_14_code 9 = .ok (.iload_n 3, 1) := by decide +kernel
theorem d_Mo_reach_10 : decode prog_10_method_14_code 10 = .ok (.iadd, 1) := by decide +kernel
theorem d_Mo_reach_11 : decode prog_10_method_14_code 11 = .ok (.aload_n 0, 1) := by decide +kernel
theorem d_Mo_reach_12 : decode prog_10_method_14_code 12 = .ok (.getfield 7, 3) := by decide +kernel
theorem d_Mo_reach_15 : decode prog_10_method_14_code 15 = .ok (.iconst 0, 1) := by decide +kernel
theorem d_Mo_reach_16 : decode prog_10_method_14_code 16 = .ok (.iaload, 1) := by decide +kernel
theorem d_Mo_reach_17 : decode prog_10_method_14_code 17 = .ok (.if_icmp .ge 36, 3) := by decide +kernel
theorem d_Mo_reach_20 : decode prog_10_method_14_code 20 = .ok (.aload_n 0, 1) := by decide +kernel
theorem d_Mo_reach_21 : decode prog_10_method_14_code 21 = .ok (.getfield 7, 3) := by decide +kernel
theorem d_Mo_reach_24 : decode prog_10_method_14_code 24 = .ok (.bipush 6, 2) := by decide +kernel
theorem d_Mo_reach_26 : decode prog_10_method_14_code 26 = .ok (.iload_n 1, 1) := by decide +kernel
theorem d_Mo_reach_27 : decode prog_10_method_14_code 27 = .ok (.iadd, 1) := by decide +kernel
theorem d_Mo_reach_28 : decode prog_10_method_14_code 28 = .ok (.iload_n 3, 1) := by decide +kernel
theorem d_Mo_reach_29 : decode prog_10_method_14_code 29 = .ok (.iadd, 1) := by decide +kernel
theorem d_Mo_reach_30 : decode prog_10_method_14_code 30 = .ok (.iaload, 1) := by decide +kernel
theorem d_Mo_reach_31 : decode prog_10_method_14_code 31 = .ok (.aload_n 0, 1) := by decide +kernel
theorem d_Mo_reach_32 : decode prog_10_method_14_code 32 = .ok (.getfield 7, 3) := by decide +kernel
theorem d_Mo_reach_35 : decode prog_10_method_14_code 35 = .ok (.bipush 6, 2) := by decide +kernel
theorem d_Mo_reach_37 : decode prog_10_method_14_code 37 = .ok (.iload_n 1, 1) := by decide +kernel
theorem d_Mo_reach_38 : decode prog_10_method_14_code 38 = .ok (.iadd, 1) := by decide +kernel
theorem d_Mo_reach_39 : decode prog_10_method_14_code 39 = .ok (.iload_n 3, 1) := by decide +kernel
theorem d_Mo_reach_40 : decode prog_10_method_14_code 40 = .ok (.iadd, 1) := by decide +kernel
theorem d_Mo_reach_41 : decode prog_10_method_14_code 41 = .ok (.iload_n 2, 1) := by decide +kernel
theorem d_Mo_reach_42 : decode prog_10_method_14_code 42 = .ok (.isub, 1) := by decide +kernel
theorem d_Mo_reach_43 : decode prog_10_method_14_code 43 = .ok (.iaload, 1) := by decide +kernel
theorem d_Mo_reach_44 : decode prog_10_method_14_code 44 = .ok (.if_icmp .ne 9, 3) := by decide +kernel
theorem d_Mo_reach_47 : decode prog_10_method_14_code 47 = .ok (.iinc 3 1, 3) := by decide +kernel
theorem d_Mo_reach_50 : decode prog_10_method_14_code 50 = .ok (.goto (-48), 3) := by decide +kernel
theorem d_Mo_reach_53 : decode prog_10_method_14_code 53 = .ok (.iload_n 3, 1) := by decide +kernel
theorem d_Mo_reach_54 : decode prog_10_method_14_code 54 = .ok (.ireturn, 1) := by decide +kernel
theorem d_Mo_isCandidate_0 : decode prog_10_method_15_code 0 = .ok (.iload_n 2, 1) := by decide +kernel
theorem d_Mo_isCandidate_1 : decode prog_10_method_15_code 1 = .ok (.aload_n 0, 1) := by decide +kernel
theorem d_Mo_isCandidate_2 : decode prog_10_method_15_code 2 = .ok (.getfield 7, 3) := by decide +kernel
theorem d_Mo_isCandidate_5 : decode prog_10_method_15_code 5 = .ok (.iconst 1, 1) := by decide +kernel
theorem d_Mo_isCandidate_6 : decode prog_10_method_15_code 6 = .ok (.iaload, 1) := by decide +kernel
theorem d_Mo_isCandidate_7 : decode prog_10_method_15_code 7 = .ok (.if_icmp .gt 22, 3) := by decide +kernel
theorem d_Mo_isCandidate_10 : decode prog_10_method_15_code 10 = .ok (.iload_n 2, 1) := by decide +kernel
theorem d_Mo_isCandidate_11 : decode prog_10_method_15_code 11 = .ok (.iload_n 1, 1) := by decide +kernel
theorem d_Mo_isCandidate_12 : decode prog_10_method_15_code 12 = .ok (.if_icmp .gt 17, 3) := by decide +kernel
theorem d_Mo_isCandidate_15 : decode prog_10_method_15_code 15 = .ok (.aload_n 0, 1) := by decide +kernel
theorem d_Mo_isCandidate_16 : decode prog_10_method_15_code 16 = .ok (.iload_n 1, 1) := by decide +kernel
theorem d_Mo_isCandidate_17 : decode prog_10_method_15_code 17 = .ok (.iload_n 2, 1) := by decide +kernel
theorem d_Mo_isCandidate_18 : decode prog_10_method_15_code 18 = .ok (.invokevirtual 71, 3) := by decide +kernel
theorem d_Mo_isCandidate_21 : decode prog_10_method_15_code 21 = .ok (.iconst 1, 1) := by decide +kernel
theorem d_Mo_isCandidate_22 : decode prog_10_method_15_code 22 = .ok (.if_icmp .le 7, 3) := by decide +kernel
theorem d_Mo_isCandidate_25 : decode prog_10_method_15_code 25 = .ok (.iconst 1, 1) := by decide +kernel
theorem d_Mo_isCandidate_26 : decode prog_10_method_15_code 26 = .ok (.goto 4, 3) := by decide +kernel
theorem d_Mo_isCandidate_29 : decode prog_10_method_15_code 29 = .ok (.iconst 0, 1) := by decide +kernel
theorem d_Mo_isCandidate_30 : decode prog_10_method_15_code 30 = .ok (.ireturn, 1) := by decide +kernel
theorem d_Mo_candidates_0 : decode prog_10_method_16_code 0 = .ok (.iconst 0, 1) := by decide +kernel
theorem d_Mo_candidates_1 : decode prog_10_method_16_code 1 = .ok (.istore_n 2, 1) := by decide +kernel
theorem d_Mo_candidates_2 : decode prog_10_method_16_code 2 = .ok (.iconst 1, 1) := by decide +kernel
theorem d_Mo_candidates_3 : decode prog_10_method_16_code 3 = .ok (.istore_n 3, 1) := by decide +kernel
theorem d_Mo_candidates_4 : decode prog_10_method_16_code 4 = .ok (.iload_n 3, 1) := by decide +kernel
theorem d_Mo_candidates_5 : decode prog_10_method_16_code 5 = .ok (.iload_n 1, 1) := by decide +kernel
theorem d_Mo_candidates_6 : decode prog_10_method_16_code 6 = .ok (.if_icmp .gt 26, 3) := by decide +kernel
theorem d_Mo_candidates_9 : decode prog_10_method_16_code 9 = .ok (.iload_n 2, 1) := by decide +kernel
theorem d_Mo_candidates_10 : decode prog_10_method_16_code 10 = .ok (.aload_n 0, 1) := by decide +kernel
theorem d_Mo_candidates_11 : decode prog_10_method_16_code 11 = .ok (.iload_n 1, 1) := by decide +kernel
theorem d_Mo_candidates_12 : decode prog_10_method_16_code 12 = .ok (.iload_n 3, 1) := by decide +kernel
theorem d_Mo_candidates_13 : decode prog_10_method_16_code 13 = .ok (.invokevirtual 75, 3) := by decide +kernel
theorem d_Mo_candidates_16 : decode prog_10_method_16_code 16 = .ok (.ifCond .eq 7, 3) := by decide +kernel
theorem d_Mo_candidates_19 : decode prog_10_method_16_code 19 = .ok (.iconst 1, 1) := by decide +kernel
theorem d_Mo_candidates_20 : decode prog_10_method_16_code 20 = .ok (.goto 4, 3) := by decide +kernel
theorem d_Mo_candidates_23 : decode prog_10_method_16_code 23 = .ok (.iconst 0, 1) := by decide +kernel
theorem d_Mo_candidates_24 : decode prog_10_method_16_code 24 = .ok (.iadd, 1) := by decide +kernel
theorem d_Mo_candidates_25 : decode prog_10_method_16_code 25 = .ok (.istore_n 2, 1) := by decide +kernel
theorem d_Mo_candidates_26 : decode prog_10_method_16_code 26 = .ok (.iinc 3 1, 3) := by decide +kernel
theorem d_Mo_candidates_29 : decode prog_10_method_16_code 29 = .ok (.goto (-25), 3) := by decide +kernel
theorem d_Mo_candidates_32 : decode prog_10_method_16_code 32 = .ok (.iload_n 2, 1) := by decide +kernel
theorem d_Mo_candidates_33 : decode prog_10_method_16_code 33 = .ok (.ireturn, 1) := by decide +kernel
theorem d_Mo_distance_0 : decode prog_10_method_17_code 0 = .ok (.iconst 0, 1) := by decide +kernel
theorem d_Mo_distance_1 : decode prog_10_method_17_code 1 = .ok (.istore_n 3, 1) := by decide +kernel
theorem d_Mo_distance_2 : decode prog_10_method_17_code 2 = .ok (.iconst 1, 1) := by decide +kernel
theorem d_Mo_distance_3 : decode prog_10_method_17_code 3 = .ok (.istore 4, 2) := by decide +kernel
theorem d_Mo_distance_5 : decode prog_10_method_17_code 5 = .ok (.iload 4, 2) := by decide +kernel
theorem d_Mo_distance_7 : decode prog_10_method_17_code 7 = .ok (.iload_n 1, 1) := by decide +kernel
theorem d_Mo_distance_8 : decode prog_10_method_17_code 8 = .ok (.if_icmp .gt 40, 3) := by decide +kernel
theorem d_Mo_distance_11 : decode prog_10_method_17_code 11 = .ok (.iload_n 2, 1) := by decide +kernel
theorem d_Mo_distance_12 : decode prog_10_method_17_code 12 = .ok (.aload_n 0, 1) := by decide +kernel
theorem d_Mo_distance_13 : decode prog_10_method_17_code 13 = .ok (.getfield 7, 3) := by decide +kernel
theorem d_Mo_distance_16 : decode prog_10_method_17_code 16 = .ok (.iconst 3, 1) := by decide +kernel
theorem d_Mo_distance_17 : decode prog_10_method_17_code 17 = .ok (.iaload, 1) := by decide +kernel
theorem d_Mo_distance_18 : decode prog_10_method_17_code 18 = .ok (.if_icmp .ge 30, 3) := by decide +kernel
theorem d_Mo_distance_21 : decode prog_10_method_17_code 21 = .ok (.aload_n 0, 1) := by decide +kernel
theorem d_Mo_distance_22 : decode prog_10_method_17_code 22 = .ok (.iload_n 1, 1) := by decide +kernel
theorem d_Mo_distance_23 : decode prog_10_method_17_code 23 = .ok (.iload 4, 2) := by decide +kernel
theorem d_Mo_distance_25 : decode prog_10_method_17_code 25 = .ok (.invokevirtual 75, 3) := by decide +kernel
theorem d_Mo_distance_28 : decode prog_10_method_17_code 28 = .ok (.ifCond .eq 14, 3) := by decide +kernel
theorem d_Mo_distance_31 : decode prog_10_method_17_code 31 = .ok (.iload_n 3, 1) := by decide +kernel
theorem d_Mo_distance_32 : decode prog_10_method_17_code 32 = .ok (.iload_n 2, 1) := by decide +kernel
theorem d_Mo_distance_33 : decode prog_10_method_17_code 33 = .ok (.if_icmp .ne 6, 3) := by decide +kernel
theorem d_Mo_distance_36 : decode prog_10_method_17_code 36 = .ok (.iload 4, 2) := by decide +kernel
theorem d_Mo_distance_38 : decode prog_10_method_17_code 38 = .ok (.ireturn, 1) := by decide +kernel
theorem d_Mo_distance_39 : decode prog_10_method_17_code 39 = .ok (.iinc 3 1, 3) := by decide +kernel
theorem d_Mo_distance_42 : decode prog_10_method_17_code 42 = .ok (.iinc 4 1, 3) := by decide +kernel
theorem d_Mo_distance_45 : decode prog_10_method_17_code 45 = .ok (.goto (-40), 3) := by decide +kernel
theorem d_Mo_distance_48 : decode prog_10_method_17_code 48 = .ok (.sipush (-10004), 3) := by decide +kernel
theorem d_Mo_distance_51 : decode prog_10_method_17_code 51 = .ok (.ireturn, 1) := by decide +kernel
theorem d_Mo_candidate_0 : decode prog_10_method_18_code 0 = .ok (.aload_n 0, 1) := by decide +kernel
theorem d_Mo_candidate_1 : decode prog_10_method_18_code 1 = .ok (.iload_n 1, 1) := by decide +kernel
theorem d_Mo_candidate_2 : decode prog_10_method_18_code 2 = .ok (.invokevirtual 60, 3) := by decide +kernel
theorem d_Mo_candidate_5 : decode prog_10_method_18_code 5 = .ok (.ifCond .eq 16, 3) := by decide +kernel
theorem d_Mo_candidate_8 : decode prog_10_method_18_code 8 = .ok (.iload_n 2, 1) := by decide +kernel
theorem d_Mo_candidate_9 : decode prog_10_method_18_code 9 = .ok (.ifCond .lt 12, 3) := by decide +kernel
theorem d_Mo_candidate_12 : decode prog_10_method_18_code 12 = .ok (.iload_n 3, 1) := by decide +kernel
theorem d_Mo_candidate_13 : decode prog_10_method_18_code 13 = .ok (.iconst 0, 1) := by decide +kernel
theorem d_Mo_candidate_14 : decode prog_10_method_18_code 14 = .ok (.iconst 1, 1) := by decide +kernel
theorem d_Mo_candidate_15 : decode prog_10_method_18_code 15 = .ok (.invokestatic 53, 3) := by decide +kernel
theorem d_Mo_candidate_18 : decode prog_10_method_18_code 18 = .ok (.ifCond .ne 7, 3) := by decide +kernel
theorem d_Mo_candidate_21 : decode prog_10_method_18_code 21 = .ok (.sipush (-10001), 3) := by decide +kernel
theorem d_Mo_candidate_24 : decode prog_10_method_18_code 24 = .ok (.ireturn, 1) := by decide +kernel
theorem d_Mo_candidate_25 : decode prog_10_method_18_code 25 = .ok (.aload_n 0, 1) := by decide +kernel
theorem d_Mo_candidate_26 : decode prog_10_method_18_code 26 = .ok (.iload_n 1, 1) := by decide +kernel
theorem d_Mo_candidate_27 : decode prog_10_method_18_code 27 = .ok (.iload_n 2, 1) := by decide +kernel
theorem d_Mo_candidate_28 : decode prog_10_method_18_code 28 = .ok (.invokevirtual 79, 3) := by decide +kernel
theorem d_Mo_candidate_31 : decode prog_10_method_18_code 31 = .ok (.istore 4, 2) := by decide +kernel
theorem d_Mo_candidate_33 : decode prog_10_method_18_code 33 = .ok (.iload 4, 2) := by decide +kernel
theorem d_Mo_candidate_35 : decode prog_10_method_18_code 35 = .ok (.ifCond .lt 7, 3) := by decide +kernel
theorem d_Mo_candidate_38 : decode prog_10_method_18_code 38 = .ok (.iload_n 3, 1) := by decide +kernel
theorem d_Mo_candidate_39 : decode prog_10_method_18_code 39 = .ok (.ifCond .ne 8, 3) := by decide +kernel
theorem d_Mo_candidate_42 : decode prog_10_method_18_code 42 = .ok (.iload 4, 2) := by decide +kernel
theorem d_Mo_candidate_44 : decode prog_10_method_18_code 44 = .ok (.goto 10, 3) := by decide +kernel
theorem d_Mo_candidate_47 : decode prog_10_method_18_code 47 = .ok (.aload_n 0, 1) := by decide +kernel
theorem d_Mo_candidate_48 : decode prog_10_method_18_code 48 = .ok (.iload_n 1, 1) := by decide +kernel
theorem d_Mo_candidate_49 : decode prog_10_method_18_code 49 = .ok (.iload 4, 2) := by decide +kernel
theorem d_Mo_candidate_51 : decode prog_10_method_18_code 51 = .ok (.invokevirtual 71, 3) := by decide +kernel
theorem d_Mo_candidate_54 : decode prog_10_method_18_code 54 = .ok (.ireturn, 1) := by decide +kernel
theorem d_Mo_best_0 : decode prog_10_method_19_code 0 = .ok (.sipush (-10004), 3) := by decide +kernel
theorem d_Mo_best_3 : decode prog_10_method_19_code 3 = .ok (.istore_n 2, 1) := by decide +kernel
theorem d_Mo_best_4 : decode prog_10_method_19_code 4 = .ok (.iconst 0, 1) := by decide +kernel
theorem d_Mo_best_5 : decode prog_10_method_19_code 5 = .ok (.istore_n 3, 1) := by decide +kernel
theorem d_Mo_best_6 : decode prog_10_method_19_code 6 = .ok (.iconst 0, 1) := by decide +kernel
theorem d_Mo_best_7 : decode prog_10_method_19_code 7 = .ok (.istore 4, 2) := by decide +kernel
theorem d_Mo_best_9 : decode prog_10_method_19_code 9 = .ok (.iconst 1, 1) := by decide +kernel
theorem d_Mo_best_10 : decode prog_10_method_19_code 10 = .ok (.istore 5, 2) := by decide +kernel
theorem d_Mo_best_12 : decode prog_10_method_19_code 12 = .ok (.iload 5, 2) := by decide +kernel
theorem d_Mo_best_14 : decode prog_10_method_19_code 14 = .ok (.iload_n 1, 1) := by decide +kernel
theorem d_Mo_best_15 : decode prog_10_method_19_code 15 = .ok (.if_icmp .gt 74, 3) := by decide +kernel
theorem d_Mo_best_18 : decode prog_10_method_19_code 18 = .ok (.iload 4, 2) := by decide +kernel
theorem d_Mo_best_20 : decode prog_10_method_19_code 20 = .ok (.aload_n 0, 1) := by decide +kernel
theorem d_Mo_best_21 : decode prog_10_method_19_code 21 = .ok (.getfield 7, 3) := by decide +kernel
theorem d_Mo_best_24 : decode prog_10_method_19_code 24 = .ok (.iconst 3, 1) := by decide +kernel
theorem d_Mo_best_25 : decode prog_10_method_19_code 25 = .ok (.iaload, 1) := by decide +kernel
theorem d_Mo_best_26 : decode prog_10_method_19_code 26 = .ok (.if_icmp .ge 63, 3) := by decide +kernel
theorem d_Mo_best_29 : decode prog_10_method_19_code 29 = .ok (.aload_n 0, 1) := by decide +kernel
theorem d_Mo_best_30 : decode prog_10_method_19_code 30 = .ok (.iload_n 1, 1) := by decide +kernel
theorem d_Mo_best_31 : decode prog_10_method_19_code 31 = .ok (.iload 5, 2) := by decide +kernel
theorem d_Mo_best_33 : decode prog_10_method_19_code 33 = .ok (.invokevirtual 75, 3) := by decide +kernel
theorem d_Mo_best_36 : decode prog_10_method_19_code 36 = .ok (.ifCond .eq 47, 3) := by decide +kernel
theorem d_Mo_best_39 : decode prog_10_method_19_code 39 = .ok (.iinc 4 1, 3) := by decide +kernel
theorem d_Mo_best_42 : decode prog_10_method_19_code 42 = .ok (.aload_n 0, 1) := by decide +kernel
theorem d_Mo_best_43 : decode prog_10_method_19_code 43 = .ok (.iload_n 1, 1) := by decide +kernel
theorem d_Mo_best_44 : decode prog_10_method_19_code 44 = .ok (.iload 5, 2) := by decide +kernel
theorem d_Mo_best_46 : decode prog_10_method_19_code 46 = .ok (.invokevirtual 71, 3) := by decide +kernel
theorem d_Mo_best_49 : decode prog_10_method_19_code 49 = .ok (.iload_n 3, 1) := by decide +kernel
theorem d_Mo_best_50 : decode prog_10_method_19_code 50 = .ok (.if_icmp .le 8, 3) := by decide +kernel
theorem d_Mo_best_53 : decode prog_10_method_19_code 53 = .ok (.iload 5, 2) := by decide +kernel
theorem d_Mo_best_55 : decode prog_10_method_19_code 55 = .ok (.goto 4, 3) := by decide +kernel
theorem d_Mo_best_58 : decode prog_10_method_19_code 58 = .ok (.iload_n 2, 1) := by decide +kernel
theorem d_Mo_best_59 : decode prog_10_method_19_code 59 = .ok (.istore_n 2, 1) := by decide +kernel
theorem d_Mo_best_60 : decode prog_10_method_19_code 60 = .ok (.aload_n 0, 1) := by decide +kernel
theorem d_Mo_best_61 : decode prog_10_method_19_code 61 = .ok (.iload_n 1, 1) := by decide +kernel
theorem d_Mo_best_62 : decode prog_10_method_19_code 62 = .ok (.iload 5, 2) := by decide +kernel
theorem d_Mo_best_64 : decode prog_10_method_19_code 64 = .ok (.invokevirtual 71, 3) := by decide +kernel
theorem d_Mo_best_67 : decode prog_10_method_19_code 67 = .ok (.iload_n 3, 1) := by decide +kernel
theorem d_Mo_best_68 : decode prog_10_method_19_code 68 = .ok (.if_icmp .le 13, 3) := by decide +kernel
theorem d_Mo_best_71 : decode prog_10_method_19_code 71 = .ok (.aload_n 0, 1) := by decide +kernel
theorem d_Mo_best_72 : decode prog_10_method_19_code 72 = .ok (.iload_n 1, 1) := by decide +kernel
theorem d_Mo_best_73 : decode prog_10_method_19_code 73 = .ok (.iload 5, 2) := by decide +kernel
theorem d_Mo_best_75 : decode prog_10_method_19_code 75 = .ok (.invokevirtual 71, 3) := by decide +kernel
theorem d_Mo_best_78 : decode prog_10_method_19_code 78 = .ok (.goto 4, 3) := by decide +kernel
theorem d_Mo_best_81 : decode prog_10_method_19_code 81 = .ok (.iload_n 3, 1) := by decide +kernel
theorem d_Mo_best_82 : decode prog_10_method_19_code 82 = .ok (.istore_n 3, 1) := by decide +kernel
theorem d_Mo_best_83 : decode prog_10_method_19_code 83 = .ok (.iinc 5 1, 3) := by decide +kernel
theorem d_Mo_best_86 : decode prog_10_method_19_code 86 = .ok (.goto (-74), 3) := by decide +kernel
theorem d_Mo_best_89 : decode prog_10_method_19_code 89 = .ok (.iload_n 3, 1) := by decide +kernel
theorem d_Mo_best_90 : decode prog_10_method_19_code 90 = .ok (.aload_n 0, 1) := by decide +kernel
theorem d_Mo_best_91 : decode prog_10_method_19_code 91 = .ok (.getfield 7, 3) := by decide +kernel
theorem d_Mo_best_94 : decode prog_10_method_19_code 94 = .ok (.iconst 2, 1) := by decide +kernel
theorem d_Mo_best_95 : decode prog_10_method_19_code 95 = .ok (.iaload, 1) := by decide +kernel
theorem d_Mo_best_96 : decode prog_10_method_19_code 96 = .ok (.if_icmp .ge 9, 3) := by decide +kernel
theorem d_Mo_best_99 : decode prog_10_method_19_code 99 = .ok (.sipush (-10004), 3) := by decide +kernel
theorem d_Mo_best_102 : decode prog_10_method_19_code 102 = .ok (.goto 4, 3) := by decide +kernel
theorem d_Mo_best_105 : decode prog_10_method_19_code 105 = .ok (.iload_n 2, 1) := by decide +kernel
theorem d_Mo_best_106 : decode prog_10_method_19_code 106 = .ok (.ireturn, 1) := by decide +kernel
theorem d_Mo_saves_0 : decode prog_10_method_20_code 0 = .ok (.aload_n 0, 1) := by decide +kernel
theorem d_Mo_saves_1 : decode prog_10_method_20_code 1 = .ok (.iload_n 1, 1) := by decide +kernel
theorem d_Mo_saves_2 : decode prog_10_method_20_code 2 = .ok (.aload_n 0, 1) := by decide +kernel
theorem d_Mo_saves_3 : decode prog_10_method_20_code 3 = .ok (.iload_n 1, 1) := by decide +kernel
theorem d_Mo_saves_4 : decode prog_10_method_20_code 4 = .ok (.invokevirtual 82, 3) := by decide +kernel
theorem d_Mo_saves_7 : decode prog_10_method_20_code 7 = .ok (.invokevirtual 71, 3) := by decide +kernel
theorem d_Mo_saves_10 : decode prog_10_method_20_code 10 = .ok (.aload_n 0, 1) := by decide +kernel
theorem d_Mo_saves_11 : decode prog_10_method_20_code 11 = .ok (.getfield 7, 3) := by decide +kernel
theorem d_Mo_saves_14 : decode prog_10_method_20_code 14 = .ok (.iconst 4, 1) := by decide +kernel
theorem d_Mo_saves_15 : decode prog_10_method_20_code 15 = .ok (.iaload, 1) := by decide +kernel
theorem d_Mo_saves_16 : decode prog_10_method_20_code 16 = .ok (.imul, 1) := by decide +kernel
theorem d_Mo_saves_17 : decode prog_10_method_20_code 17 = .ok (.aload_n 0, 1) := by decide +kernel
theorem d_Mo_saves_18 : decode prog_10_method_20_code 18 = .ok (.getfield 7, 3) := by decide +kernel
theorem d_Mo_saves_21 : decode prog_10_method_20_code 21 = .ok (.iconst 5, 1) := by decide +kernel
theorem d_Mo_saves_22 : decode prog_10_method_20_code 22 = .ok (.iaload, 1) := by decide +kernel
theorem d_Mo_saves_23 : decode prog_10_method_20_code 23 = .ok (.isub, 1) := by decide +kernel
theorem d_Mo_saves_24 : decode prog_10_method_20_code 24 = .ok (.ireturn, 1) := by decide +kernel
theorem d_Mo_found_0 : decode prog_10_method_21_code 0 = .ok (.aload_n 0, 1) := by decide +kernel
theorem d_Mo_found_1 : decode prog_10_method_21_code 1 = .ok (.iload_n 1, 1) := by decide +kernel
theorem d_Mo_found_2 : decode prog_10_method_21_code 2 = .ok (.invokevirtual 60, 3) := by decide +kernel
theorem d_Mo_found_5 : decode prog_10_method_21_code 5 = .ok (.ifCond .eq 12, 3) := by decide +kernel
theorem d_Mo_found_8 : decode prog_10_method_21_code 8 = .ok (.iload_n 2, 1) := by decide +kernel
theorem d_Mo_found_9 : decode prog_10_method_21_code 9 = .ok (.iconst 0, 1) := by decide +kernel
theorem d_Mo_found_10 : decode prog_10_method_21_code 10 = .ok (.iconst 3, 1) := by decide +kernel
theorem d_Mo_found_11 : decode prog_10_method_21_code 11 = .ok (.invokestatic 53, 3) := by decide +kernel
theorem d_Mo_found_14 : decode prog_10_method_21_code 14 = .ok (.ifCond .ne 7, 3) := by decide +kernel
theorem d_Mo_found_17 : decode prog_10_method_21_code 17 = .ok (.sipush (-10001), 3) := by decide +kernel
theorem d_Mo_found_20 : decode prog_10_method_21_code 20 = .ok (.ireturn, 1) := by decide +kernel
theorem d_Mo_found_21 : decode prog_10_method_21_code 21 = .ok (.iload_n 2, 1) := by decide +kernel
theorem d_Mo_found_22 : decode prog_10_method_21_code 22 = .ok (.iconst 3, 1) := by decide +kernel
theorem d_Mo_found_23 : decode prog_10_method_21_code 23 = .ok (.if_icmp .ne 9, 3) := by decide +kernel
theorem d_Mo_found_26 : decode prog_10_method_21_code 26 = .ok (.aload_n 0, 1) := by decide +kernel
theorem d_Mo_found_27 : decode prog_10_method_21_code 27 = .ok (.iload_n 1, 1) := by decide +kernel
theorem d_Mo_found_28 : decode prog_10_method_21_code 28 = .ok (.invokevirtual 85, 3) := by decide +kernel
theorem d_Mo_found_31 : decode prog_10_method_21_code 31 = .ok (.ireturn, 1) := by decide +kernel
theorem d_Mo_found_32 : decode prog_10_method_21_code 32 = .ok (.aload_n 0, 1) := by decide +kernel
theorem d_Mo_found_33 : decode prog_10_method_21_code 33 = .ok (.iload_n 1, 1) := by decide +kernel
theorem d_Mo_found_34 : decode prog_10_method_21_code 34 = .ok (.invokevirtual 82, 3) := by decide +kernel
theorem d_Mo_found_37 : decode prog_10_method_21_code 37 = .ok (.istore_n 3, 1) := by decide +kernel
theorem d_Mo_found_38 : decode prog_10_method_21_code 38 = .ok (.iload_n 3, 1) := by decide +kernel
theorem d_Mo_found_39 : decode prog_10_method_21_code 39 = .ok (.ifCond .lt 7, 3) := by decide +kernel
theorem d_Mo_found_42 : decode prog_10_method_21_code 42 = .ok (.iload_n 2, 1) := by decide +kernel
theorem d_Mo_found_43 : decode prog_10_method_21_code 43 = .ok (.ifCond .ne 7, 3) := by decide +kernel
theorem d_Mo_found_46 : decode prog_10_method_21_code 46 = .ok (.iload_n 3, 1) := by decide +kernel
theorem d_Mo_found_47 : decode prog_10_method_21_code 47 = .ok (.goto 22, 3) := by decide +kernel
theorem d_Mo_found_50 : decode prog_10_method_21_code 50 = .ok (.iload_n 2, 1) := by decide +kernel
theorem d_Mo_found_51 : decode prog_10_method_21_code 51 = .ok (.iconst 1, 1) := by decide +kernel
theorem d_Mo_found_52 : decode prog_10_method_21_code 52 = .ok (.if_icmp .ne 12, 3) := by decide +kernel
theorem d_Mo_found_55 : decode prog_10_method_21_code 55 = .ok (.aload_n 0, 1) := by decide +kernel
theorem d_Mo_found_56 : decode prog_10_method_21_code 56 = .ok (.iload_n 1, 1) := by decide +kernel
theorem d_Mo_found_57 : decode prog_10_method_21_code 57 = .ok (.iload_n 3, 1) := by decide +kernel
theorem d_Mo_found_58 : decode prog_10_method_21_code 58 = .ok (.invokevirtual 71, 3) := by decide +kernel
theorem d_Mo_found_61 : decode prog_10_method_21_code 61 = .ok (.goto 8, 3) := by decide +kernel
theorem d_Mo_found_64 : decode prog_10_method_21_code 64 = .ok (.aload_n 0, 1) := by decide +kernel
theorem d_Mo_found_65 : decode prog_10_method_21_code 65 = .ok (.iload_n 1, 1) := by decide +kernel
theorem d_Mo_found_66 : decode prog_10_method_21_code 66 = .ok (.invokevirtual 88, 3) := by decide +kernel
theorem d_Mo_found_69 : decode prog_10_method_21_code 69 = .ok (.ireturn, 1) := by decide +kernel
theorem d_Mo_isCopy_0 : decode prog_10_method_22_code 0 = .ok (.aload_n 0, 1) := by decide +kernel
theorem d_Mo_isCopy_1 : decode prog_10_method_22_code 1 = .ok (.iload_n 1, 1) := by decide +kernel
theorem d_Mo_isCopy_2 : decode prog_10_method_22_code 2 = .ok (.invokevirtual 60, 3) := by decide +kernel
theorem d_Mo_isCopy_5 : decode prog_10_method_22_code 5 = .ok (.ifCond .ne 7, 3) := by decide +kernel
theorem d_Mo_isCopy_8 : decode prog_10_method_22_code 8 = .ok (.sipush (-10001), 3) := by decide +kernel
theorem d_Mo_isCopy_11 : decode prog_10_method_22_code 11 = .ok (.ireturn, 1) := by decide +kernel
theorem d_Mo_isCopy_12 : decode prog_10_method_22_code 12 = .ok (.iload_n 2, 1) := by decide +kernel
theorem d_Mo_isCopy_13 : decode prog_10_method_22_code 13 = .ok (.iconst 1, 1) := by decide +kernel
theorem d_Mo_isCopy_14 : decode prog_10_method_22_code 14 = .ok (.aload_n 0, 1) := by decide +kernel
theorem d_Mo_isCopy_15 : decode prog_10_method_22_code 15 = .ok (.getfield 7, 3) := by decide +kernel
theorem d_Mo_isCopy_18 : decode prog_10_method_22_code 18 = .ok (.iconst 1, 1) := by decide +kernel
theorem d_Mo_isCopy_19 : decode prog_10_method_22_code 19 = .ok (.iaload, 1) := by decide +kernel
theorem d_Mo_isCopy_20 : decode prog_10_method_22_code 20 = .ok (.invokestatic 53, 3) := by decide +kernel
theorem d_Mo_isCopy_23 : decode prog_10_method_22_code 23 = .ok (.ifCond .eq 27, 3) := by decide +kernel
theorem d_Mo_isCopy_26 : decode prog_10_method_22_code 26 = .ok (.iload_n 2, 1) := by decide +kernel
theorem d_Mo_isCopy_27 : decode prog_10_method_22_code 27 = .ok (.iload_n 1, 1) := by decide +kernel
theorem d_Mo_isCopy_28 : decode prog_10_method_22_code 28 = .ok (.if_icmp .gt 22, 3) := by decide +kernel
theorem d_Mo_isCopy_31 : decode prog_10_method_22_code 31 = .ok (.iload_n 3, 1) := by decide +kernel
theorem d_Mo_isCopy_32 : decode prog_10_method_22_code 32 = .ok (.aload_n 0, 1) := by decide +kernel
theorem d_Mo_isCopy_33 : decode prog_10_method_22_code 33 = .ok (.getfield 7, 3) := by decide +kernel
theorem d_Mo_isCopy_36 : decode prog_10_method_22_code 36 = .ok (.iconst 2, 1) := by decide +kernel
theorem d_Mo_isCopy_37 : decode prog_10_method_22_code 37 = .ok (.iaload, 1) := by decide +kernel
theorem d_Mo_isCopy_38 : decode prog_10_method_22_code 38 = .ok (.bipush 20, 2) := by decide +kernel
theorem d_Mo_isCopy_40 : decode prog_10_method_22_code 40 = .ok (.invokestatic 53, 3) := by decide +kernel
theorem d_Mo_isCopy_43 : decode prog_10_method_22_code 43 = .ok (.ifCond .eq 7, 3) := by decide +kernel
theorem d_Mo_isCopy_46 : decode prog_10_method_22_code 46 = .ok (.iconst 1, 1) := by decide +kernel
theorem d_Mo_isCopy_47 : decode prog_10_method_22_code 47 = .ok (.goto 4, 3) := by decide +kernel
theorem d_Mo_isCopy_50 : decode prog_10_method_22_code 50 = .ok (.iconst 0, 1) := by decide +kernel
theorem d_Mo_isCopy_51 : decode prog_10_method_22_code 51 = .ok (.istore 4, 2) := by decide +kernel
theorem d_Mo_isCopy_53 : decode prog_10_method_22_code 53 = .ok (.iload 4, 2) := by decide +kernel
theorem d_Mo_isCopy_55 : decode prog_10_method_22_code 55 = .ok (.ifCond .eq 17, 3) := by decide +kernel
theorem d_Mo_isCopy_58 : decode prog_10_method_22_code 58 = .ok (.aload_n 0, 1) := by decide +kernel
theorem d_Mo_isCopy_59 : decode prog_10_method_22_code 59 = .ok (.iload_n 1, 1) := by decide +kernel
theorem d_Mo_isCopy_60 : decode prog_10_method_22_code 60 = .ok (.iload_n 2, 1) := by decide +kernel
theorem d_Mo_isCopy_61 : decode prog_10_method_22_code 61 = .ok (.invokevirtual 71, 3) := by decide +kernel
theorem d_Mo_isCopy_64 : decode prog_10_method_22_code 64 = .ok (.iload_n 3, 1) := by decide +kernel
theorem d_Mo_isCopy_65 : decode prog_10_method_22_code 65 = .ok (.if_icmp .lt 7, 3) := by decide +kernel
theorem d_Mo_isCopy_68 : decode prog_10_method_22_code 68 = .ok (.iconst 1, 1) := by decide +kernel
theorem d_Mo_isCopy_69 : decode prog_10_method_22_code 69 = .ok (.goto 4, 3) := by decide +kernel
theorem d_Mo_isCopy_72 : decode prog_10_method_22_code 72 = .ok (.iconst 0, 1) := by decide +kernel
theorem d_Mo_isCopy_73 : decode prog_10_method_22_code 73 = .ok (.ireturn, 1) := by decide +kernel
theorem d_Mo_savesMore_0 : decode prog_10_method_23_code 0 = .ok (.aload_n 0, 1) := by decide +kernel
theorem d_Mo_savesMore_1 : decode prog_10_method_23_code 1 = .ok (.iload_n 1, 1) := by decide +kernel
theorem d_Mo_savesMore_2 : decode prog_10_method_23_code 2 = .ok (.invokevirtual 60, 3) := by decide +kernel
theorem d_Mo_savesMore_5 : decode prog_10_method_23_code 5 = .ok (.ifCond .eq 24, 3) := by decide +kernel
theorem d_Mo_savesMore_8 : decode prog_10_method_23_code 8 = .ok (.aload_n 0, 1) := by decide +kernel
theorem d_Mo_savesMore_9 : decode prog_10_method_23_code 9 = .ok (.iload_n 1, 1) := by decide +kernel
theorem d_Mo_savesMore_10 : decode prog_10_method_23_code 10 = .ok (.invokevirtual 82, 3) := by decide +kernel
theorem d_Mo_savesMore_13 : decode prog_10_method_23_code 13 = .ok (.ifCond .le 16, 3) := by decide +kernel
theorem d_Mo_savesMore_16 : decode prog_10_method_23_code 16 = .ok (.aload_n 0, 1) := by decide +kernel
theorem d_Mo_savesMore_17 : decode prog_10_method_23_code 17 = .ok (.iload_n 1, 1) := by decide +kernel
theorem d_Mo_savesMore_18 : decode prog_10_method_23_code 18 = .ok (.invokevirtual 88, 3) := by decide +kernel
theorem d_Mo_savesMore_21 : decode prog_10_method_23_code 21 = .ok (.iload_n 2, 1) := by decide +kernel
theorem d_Mo_savesMore_22 : decode prog_10_method_23_code 22 = .ok (.if_icmp .le 7, 3) := by decide +kernel
theorem d_Mo_savesMore_25 : decode prog_10_method_23_code 25 = .ok (.iconst 1, 1) := by decide +kernel
theorem d_Mo_savesMore_26 : decode prog_10_method_23_code 26 = .ok (.goto 4, 3) := by decide +kernel
theorem d_Mo_savesMore_29 : decode prog_10_method_23_code 29 = .ok (.iconst 0, 1) := by decide +kernel
theorem d_Mo_savesMore_30 : decode prog_10_method_23_code 30 = .ok (.ireturn, 1) := by decide +kernel
theorem d_Mo_takes_0 : decode prog_10_method_24_code 0 = .ok (.aload_n 0, 1) := by decide +kernel
theorem d_Mo_takes_1 : decode prog_10_method_24_code 1 = .ok (.iload_n 2, 1) := by decide +kernel
theorem d_Mo_takes_2 : decode prog_10_method_24_code 2 = .ok (.invokevirtual 82, 3) := by decide +kernel
theorem d_Mo_takes_5 : decode prog_10_method_24_code 5 = .ok (.ifCond .lt 7, 3) := by decide +kernel
theorem d_Mo_takes_8 : decode prog_10_method_24_code 8 = .ok (.iload_n 1, 1) := by decide +kernel
theorem d_Mo_takes_9 : decode prog_10_method_24_code 9 = .ok (.ifCond .ne 17, 3) := by decide +kernel
theorem d_Mo_takes_12 : decode prog_10_method_24_code 12 = .ok (.aload_n 0, 1) := by decide +kernel
theorem d_Mo_takes_13 : decode prog_10_method_24_code 13 = .ok (.iload_n 2, 1) := by decide +kernel
theorem d_Mo_takes_14 : decode prog_10_method_24_code 14 = .ok (.invokevirtual 82, 3) := by decide +kernel
theorem d_Mo_takes_17 : decode prog_10_method_24_code 17 = .ok (.ifCond .le 7, 3) := by decide +kernel
theorem d_Mo_takes_20 : decode prog_10_method_24_code 20 = .ok (.iconst 1, 1) := by decide +kernel
theorem d_Mo_takes_21 : decode prog_10_method_24_code 21 = .ok (.goto 4, 3) := by decide +kernel
theorem d_Mo_takes_24 : decode prog_10_method_24_code 24 = .ok (.iconst 0, 1) := by decide +kernel
theorem d_Mo_takes_25 : decode prog_10_method_24_code 25 = .ok (.ireturn, 1) := by decide +kernel
theorem d_Mo_takes_26 : decode prog_10_method_24_code 26 = .ok (.aload_n 0, 1) := by decide +kernel
theorem d_Mo_takes_27 : decode prog_10_method_24_code 27 = .ok (.iload_n 2, 1) := by decide +kernel
theorem d_Mo_takes_28 : decode prog_10_method_24_code 28 = .ok (.invokevirtual 88, 3) := by decide +kernel
theorem d_Mo_takes_31 : decode prog_10_method_24_code 31 = .ok (.istore_n 3, 1) := by decide +kernel
theorem d_Mo_takes_32 : decode prog_10_method_24_code 32 = .ok (.iload_n 3, 1) := by decide +kernel
theorem d_Mo_takes_33 : decode prog_10_method_24_code 33 = .ok (.ifCond .le 29, 3) := by decide +kernel
theorem d_Mo_takes_36 : decode prog_10_method_24_code 36 = .ok (.aload_n 0, 1) := by decide +kernel
theorem d_Mo_takes_37 : decode prog_10_method_24_code 37 = .ok (.iload_n 2, 1) := by decide +kernel
theorem d_Mo_takes_38 : decode prog_10_method_24_code 38 = .ok (.iconst 1, 1) := by decide +kernel
theorem d_Mo_takes_39 : decode prog_10_method_24_code 39 = .ok (.iadd, 1) := by decide +kernel
theorem d_Mo_takes_40 : decode prog_10_method_24_code 40 = .ok (.iload_n 3, 1) := by decide +kernel
theorem d_Mo_takes_41 : decode prog_10_method_24_code 41 = .ok (.invokevirtual 91, 3) := by decide +kernel
theorem d_Mo_takes_44 : decode prog_10_method_24_code 44 = .ok (.ifCond .ne 18, 3) := by decide +kernel
theorem d_Mo_takes_47 : decode prog_10_method_24_code 47 = .ok (.aload_n 0, 1) := by decide +kernel
theorem d_Mo_takes_48 : decode prog_10_method_24_code 48 = .ok (.iload_n 2, 1) := by decide +kernel
theorem d_Mo_takes_49 : decode prog_10_method_24_code 49 = .ok (.iconst 2, 1) := by decide +kernel
theorem d_Mo_takes_50 : decode prog_10_method_24_code 50 = .ok (.iadd, 1) := by decide +kernel
theorem d_Mo_takes_51 : decode prog_10_method_24_code 51 = .ok (.iload_n 3, 1) := by decide +kernel
theorem d_Mo_takes_52 : decode prog_10_method_24_code 52 = .ok (.invokevirtual 91, 3) := by decide +kernel
theorem d_Mo_takes_55 : decode prog_10_method_24_code 55 = .ok (.ifCond .ne 7, 3) := by decide +kernel
theorem d_Mo_takes_58 : decode prog_10_method_24_code 58 = .ok (.iconst 1, 1) := by decide +kernel
theorem d_Mo_takes_59 : decode prog_10_method_24_code 59 = .ok (.goto 4, 3) := by decide +kernel
theorem d_Mo_takes_62 : decode prog_10_method_24_code 62 = .ok (.iconst 0, 1) := by decide +kernel
theorem d_Mo_takes_63 : decode prog_10_method_24_code 63 = .ok (.ireturn, 1) := by decide +kernel
theorem d_Mo_weighs_0 : decode prog_10_method_25_code 0 = .ok (.iconst 0, 1) := by decide +kernel
theorem d_Mo_weighs_1 : decode prog_10_method_25_code 1 = .ok (.istore_n 2, 1) := by decide +kernel
theorem d_Mo_weighs_2 : decode prog_10_method_25_code 2 = .ok (.aload_n 0, 1) := by decide +kernel
theorem d_Mo_weighs_3 : decode prog_10_method_25_code 3 = .ok (.getfield 31, 3) := by decide +kernel
theorem d_Mo_weighs_6 : decode prog_10_method_25_code 6 = .ok (.iload_n 1, 1) := by decide +kernel
theorem d_Mo_weighs_7 : decode prog_10_method_25_code 7 = .ok (.aload_n 0, 1) := by decide +kernel
theorem d_Mo_weighs_8 : decode prog_10_method_25_code 8 = .ok (.getfield 7, 3) := by decide +kernel
theorem d_Mo_weighs_11 : decode prog_10_method_25_code 11 = .ok (.iconst 4, 1) := by decide +kernel
theorem d_Mo_weighs_12 : decode prog_10_method_25_code 12 = .ok (.iaload, 1) := by decide +kernel
theorem d_Mo_weighs_13 : decode prog_10_method_25_code 13 = .ok (.aload_n 0, 1) := by decide +kernel
theorem d_Mo_weighs_14 : decode prog_10_method_25_code 14 = .ok (.getfield 31, 3) := by decide +kernel
theorem d_Mo_weighs_17 : decode prog_10_method_25_code 17 = .ok (.iload_n 1, 1) := by decide +kernel
theorem d_Mo_weighs_18 : decode prog_10_method_25_code 18 = .ok (.iconst 1, 1) := by decide +kernel
theorem d_Mo_weighs_19 : decode prog_10_method_25_code 19 = .ok (.iadd, 1) := by decide +kernel
theorem d_Mo_weighs_20 : decode prog_10_method_25_code 20 = .ok (.iaload, 1) := by decide +kernel
theorem d_Mo_weighs_21 : decode prog_10_method_25_code 21 = .ok (.iadd, 1) := by decide +kernel
theorem d_Mo_weighs_22 : decode prog_10_method_25_code 22 = .ok (.iastore, 1) := by decide +kernel
theorem d_Mo_weighs_23 : decode prog_10_method_25_code 23 = .ok (.aload_n 0, 1) := by decide +kernel
theorem d_Mo_weighs_24 : decode prog_10_method_25_code 24 = .ok (.getfield 34, 3) := by decide +kernel
theorem d_Mo_weighs_27 : decode prog_10_method_25_code 27 = .ok (.iload_n 1, 1) := by decide +kernel
theorem d_Mo_weighs_28 : decode prog_10_method_25_code 28 = .ok (.iconst 1, 1) := by decide +kernel
theorem d_Mo_weighs_29 : decode prog_10_method_25_code 29 = .ok (.iastore, 1) := by decide +kernel
theorem d_Mo_weighs_30 : decode prog_10_method_25_code 30 = .ok (.aload_n 0, 1) := by decide +kernel
theorem d_Mo_weighs_31 : decode prog_10_method_25_code 31 = .ok (.getfield 37, 3) := by decide +kernel
theorem d_Mo_weighs_34 : decode prog_10_method_25_code 34 = .ok (.iload_n 1, 1) := by decide +kernel
theorem d_Mo_weighs_35 : decode prog_10_method_25_code 35 = .ok (.iconst 0, 1) := by decide +kernel
theorem d_Mo_weighs_36 : decode prog_10_method_25_code 36 = .ok (.iastore, 1) := by decide +kernel
theorem d_Mo_weighs_37 : decode prog_10_method_25_code 37 = .ok (.iconst 1, 1) := by decide +kernel
theorem d_Mo_weighs_38 : decode prog_10_method_25_code 38 = .ok (.istore_n 3, 1) := by decide +kernel
theorem d_Mo_weighs_39 : decode prog_10_method_25_code 39 = .ok (.iload_n 3, 1) := by decide +kernel
theorem d_Mo_weighs_40 : decode prog_10_method_25_code 40 = .ok (.iload_n 1, 1) := by decide +kernel
theorem d_Mo_weighs_41 : decode prog_10_method_25_code 41 = .ok (.if_icmp .gt 157, 3) := by decide +kernel
theorem d_Mo_weighs_44 : decode prog_10_method_25_code 44 = .ok (.iload_n 2, 1) := by decide +kernel
theorem d_Mo_weighs_45 : decode prog_10_method_25_code 45 = .ok (.aload_n 0, 1) := by decide +kernel
theorem d_Mo_weighs_46 : decode prog_10_method_25_code 46 = .ok (.getfield 7, 3) := by decide +kernel
theorem d_Mo_weighs_49 : decode prog_10_method_25_code 49 = .ok (.iconst 3, 1) := by decide +kernel
theorem d_Mo_weighs_50 : decode prog_10_method_25_code 50 = .ok (.iaload, 1) := by decide +kernel
theorem d_Mo_weighs_51 : decode prog_10_method_25_code 51 = .ok (.if_icmp .ge 147, 3) := by decide +kernel
theorem d_Mo_weighs_54 : decode prog_10_method_25_code 54 = .ok (.aload_n 0, 1) := by decide +kernel
theorem d_Mo_weighs_55 : decode prog_10_method_25_code 55 = .ok (.iload_n 1, 1) := by decide +kernel
theorem d_Mo_weighs_56 : decode prog_10_method_25_code 56 = .ok (.iload_n 3, 1) := by decide +kernel
theorem d_Mo_weighs_57 : decode prog_10_method_25_code 57 = .ok (.invokevirtual 75, 3) := by decide +kernel
theorem d_Mo_weighs_60 : decode prog_10_method_25_code 60 = .ok (.ifCond .eq 132, 3) := by decide +kernel
theorem d_Mo_weighs_63 : decode prog_10_method_25_code 63 = .ok (.iinc 2 1, 3) := by decide +kernel
theorem d_Mo_weighs_66 : decode prog_10_method_25_code 66 = .ok (.aload_n 0, 1) := by decide +kernel
theorem d_Mo_weighs_67 : decode prog_10_method_25_code 67 = .ok (.iload_n 1, 1) := by decide +kernel
theorem d_Mo_weighs_68 : decode prog_10_method_25_code 68 = .ok (.iload_n 3, 1) := by decide +kernel
theorem d_Mo_weighs_69 : decode prog_10_method_25_code 69 = .ok (.invokevirtual 71, 3) := by decide +kernel
theorem d_Mo_weighs_72 : decode prog_10_method_25_code 72 = .ok (.istore 4, 2) := by decide +kernel
theorem d_Mo_weighs_74 : decode prog_10_method_25_code 74 = .ok (.iload 4, 2) := by decide +kernel
theorem d_Mo_weighs_76 : decode prog_10_method_25_code 76 = .ok (.aload_n 0, 1) := by decide +kernel
theorem d_Mo_weighs_77 : decode prog_10_method_25_code 77 = .ok (.getfield 7, 3) := by decide +kernel
theorem d_Mo_weighs_80 : decode prog_10_method_25_code 80 = .ok (.iconst 2, 1) := by decide +kernel
theorem d_Mo_weighs_81 : decode prog_10_method_25_code 81 = .ok (.iaload, 1) := by decide +kernel
theorem d_Mo_weighs_82 : decode prog_10_method_25_code 82 = .ok (.if_icmp .lt 110, 3) := by decide +kernel
theorem d_Mo_weighs_85 : decode prog_10_method_25_code 85 = .ok (.aload_n 0, 1) := by decide +kernel
theorem d_Mo_weighs_86 : decode prog_10_method_25_code 86 = .ok (.getfield 7, 3) := by decide +kernel
theorem d_Mo_weighs_89 : decode prog_10_method_25_code 89 = .ok (.iconst 5, 1) := by decide +kernel
theorem d_Mo_weighs_90 : decode prog_10_method_25_code 90 = .ok (.iaload, 1) := by decide +kernel
theorem d_Mo_weighs_91 : decode prog_10_method_25_code 91 = .ok (.aload_n 0, 1) := by decide +kernel
theorem d_Mo_weighs_92 : decode prog_10_method_25_code 92 = .ok (.getfield 31, 3) := by decide +kernel
theorem d_Mo_weighs_95 : decode prog_10_method_25_code 95 = .ok (.iload_n 1, 1) := by decide +kernel
theorem d_Mo_weighs_96 : decode prog_10_method_25_code 96 = .ok (.iload 4, 2) := by decide +kernel
theorem d_Mo_weighs_98 : decode prog_10_method_25_code 98 = .ok (.iadd, 1) := by decide +kernel
theorem d_Mo_weighs_99 : decode prog_10_method_25_code 99 = .ok (.iaload, 1) := by decide +kernel
theorem d_Mo_weighs_100 : decode prog_10_method_25_code 100 = .ok (.iadd, 1) := by decide +kernel
theorem d_Mo_weighs_101 : decode prog_10_method_25_code 101 = .ok (.istore 5, 2) := by decide +kernel
theorem d_Mo_weighs_103 : decode prog_10_method_25_code 103 = .ok (.aload_n 0, 1) := by decide +kernel
theorem d_Mo_weighs_104 : decode prog_10_method_25_code 104 = .ok (.getfield 34, 3) := by decide +kernel
theorem d_Mo_weighs_107 : decode prog_10_method_25_code 107 = .ok (.iload_n 1, 1) := by decide +kernel
theorem d_Mo_weighs_108 : decode prog_10_method_25_code 108 = .ok (.iload 5, 2) := by decide +kernel
theorem d_Mo_weighs_110 : decode prog_10_method_25_code 110 = .ok (.aload_n 0, 1) := by decide +kernel
theorem d_Mo_weighs_111 : decode prog_10_method_25_code 111 = .ok (.getfield 31, 3) := by decide +kernel
theorem d_Mo_weighs_114 : decode prog_10_method_25_code 114 = .ok (.iload_n 1, 1) := by decide +kernel
theorem d_Mo_weighs_115 : decode prog_10_method_25_code 115 = .ok (.iaload, 1) := by decide +kernel
theorem d_Mo_weighs_116 : decode prog_10_method_25_code 116 = .ok (.if_icmp .ge 8, 3) := by decide +kernel
theorem d_Mo_weighs_119 : decode prog_10_method_25_code 119 = .ok (.iload 4, 2) := by decide +kernel
theorem d_Mo_weighs_121 : decode prog_10_method_25_code 121 = .ok (.goto 9, 3) := by decide +kernel
theorem d_Mo_weighs_124 : decode prog_10_method_25_code 124 = .ok (.aload_n 0, 1) := by decide +kernel
theorem d_Mo_weighs_125 : decode prog_10_method_25_code 125 = .ok (.getfield 34, 3) := by decide +kernel
theorem d_Mo_weighs_128 : decode prog_10_method_25_code 128 = .ok (.iload_n 1, 1) := by decide +kernel
theorem d_Mo_weighs_129 : decode prog_10_method_25_code 129 = .ok (.iaload, 1) := by decide +kernel
theorem d_Mo_weighs_130 : decode prog_10_method_25_code 130 = .ok (.iastore, 1) := by decide +kernel
theorem d_Mo_weighs_131 : decode prog_10_method_25_code 131 = .ok (.aload_n 0, 1) := by decide +kernel
theorem d_Mo_weighs_132 : decode prog_10_method_25_code 132 = .ok (.getfield 37, 3) := by decide +kernel
theorem d_Mo_weighs_135 : decode prog_10_method_25_code 135 = .ok (.iload_n 1, 1) := by decide +kernel
theorem d_Mo_weighs_136 : decode prog_10_method_25_code 136 = .ok (.iload 5, 2) := by decide +kernel
theorem d_Mo_weighs_138 : decode prog_10_method_25_code 138 = .ok (.aload_n 0, 1) := by decide +kernel
theorem d_Mo_weighs_139 : decode prog_10_method_25_code 139 = .ok (.getfield 31, 3) := by decide +kernel
theorem d_Mo_weighs_142 : decode prog_10_method_25_code 142 = .ok (.iload_n 1, 1) := by decide +kernel
theorem d_Mo_weighs_143 : decode prog_10_method_25_code 143 = .ok (.iaload, 1) := by decide +kernel
theorem d_Mo_weighs_144 : decode prog_10_method_25_code 144 = .ok (.if_icmp .ge 7, 3) := by decide +kernel
theorem d_Mo_weighs_147 : decode prog_10_method_25_code 147 = .ok (.iload_n 3, 1) := by decide +kernel
theorem d_Mo_weighs_148 : decode prog_10_method_25_code 148 = .ok (.goto 9, 3) := by decide +kernel
theorem d_Mo_weighs_151 : decode prog_10_method_25_code 151 = .ok (.aload_n 0, 1) := by decide +kernel
theorem d_Mo_weighs_152 : decode prog_10_method_25_code 152 = .ok (.getfield 37, 3) := by decide +kernel
theorem d_Mo_weighs_155 : decode prog_10_method_25_code 155 = .ok (.iload_n 1, 1) := by decide +kernel
theorem d_Mo_weighs_156 : decode prog_10_method_25_code 156 = .ok (.iaload, 1) := by decide +kernel
theorem d_Mo_weighs_157 : decode prog_10_method_25_code 157 = .ok (.iastore, 1) := by decide +kernel
theorem d_Mo_weighs_158 : decode prog_10_method_25_code 158 = .ok (.aload_n 0, 1) := by decide +kernel
theorem d_Mo_weighs_159 : decode prog_10_method_25_code 159 = .ok (.getfield 31, 3) := by decide +kernel
theorem d_Mo_weighs_162 : decode prog_10_method_25_code 162 = .ok (.iload_n 1, 1) := by decide +kernel
theorem d_Mo_weighs_163 : decode prog_10_method_25_code 163 = .ok (.iload 5, 2) := by decide +kernel
theorem d_Mo_weighs_165 : decode prog_10_method_25_code 165 = .ok (.aload_n 0, 1) := by decide +kernel
theorem d_Mo_weighs_166 : decode prog_10_method_25_code 166 = .ok (.getfield 31, 3) := by decide +kernel
theorem d_Mo_weighs_169 : decode prog_10_method_25_code 169 = .ok (.iload_n 1, 1) := by decide +kernel
theorem d_Mo_weighs_170 : decode prog_10_method_25_code 170 = .ok (.iaload, 1) := by decide +kernel
theorem d_Mo_weighs_171 : decode prog_10_method_25_code 171 = .ok (.if_icmp .ge 8, 3) := by decide +kernel
theorem d_Mo_weighs_174 : decode prog_10_method_25_code 174 = .ok (.iload 5, 2) := by decide +kernel
theorem d_Mo_weighs_176 : decode prog_10_method_25_code 176 = .ok (.goto 9, 3) := by decide +kernel
theorem d_Mo_weighs_179 : decode prog_10_method_25_code 179 = .ok (.aload_n 0, 1) := by decide +kernel
theorem d_Mo_weighs_180 : decode prog_10_method_25_code 180 = .ok (.getfield 31, 3) := by decide +kernel
theorem d_Mo_weighs_183 : decode prog_10_method_25_code 183 = .ok (.iload_n 1, 1) := by decide +kernel
theorem d_Mo_weighs_184 : decode prog_10_method_25_code 184 = .ok (.iaload, 1) := by decide +kernel
theorem d_Mo_weighs_185 : decode prog_10_method_25_code 185 = .ok (.iastore, 1) := by decide +kernel
theorem d_Mo_weighs_186 : decode prog_10_method_25_code 186 = .ok (.iinc 4 (-1), 3) := by decide +kernel
theorem d_Mo_weighs_189 : decode prog_10_method_25_code 189 = .ok (.goto (-115), 3) := by decide +kernel
theorem d_Mo_weighs_192 : decode prog_10_method_25_code 192 = .ok (.iinc 3 1, 3) := by decide +kernel
theorem d_Mo_weighs_195 : decode prog_10_method_25_code 195 = .ok (.goto (-156), 3) := by decide +kernel
theorem d_Mo_weighs_198 : decode prog_10_method_25_code 198 = .ok (.return_, 1) := by decide +kernel
theorem d_Mo_lays_0 : decode prog_10_method_26_code 0 = .ok (.aload_n 0, 1) := by decide +kernel
theorem d_Mo_lays_1 : decode prog_10_method_26_code 1 = .ok (.getfield 31, 3) := by decide +kernel
theorem d_Mo_lays_4 : decode prog_10_method_26_code 4 = .ok (.aload_n 0, 1) := by decide +kernel
theorem d_Mo_lays_5 : decode prog_10_method_26_code 5 = .ok (.getfield 7, 3) := by decide +kernel
theorem d_Mo_lays_8 : decode prog_10_method_26_code 8 = .ok (.iconst 0, 1) := by decide +kernel
theorem d_Mo_lays_9 : decode prog_10_method_26_code 9 = .ok (.iaload, 1) := by decide +kernel
theorem d_Mo_lays_10 : decode prog_10_method_26_code 10 = .ok (.iconst 0, 1) := by decide +kernel
theorem d_Mo_lays_11 : decode prog_10_method_26_code 11 = .ok (.iastore, 1) := by decide +kernel
theorem d_Mo_lays_12 : decode prog_10_method_26_code 12 = .ok (.aload_n 0, 1) := by decide +kernel
theorem d_Mo_lays_13 : decode prog_10_method_26_code 13 = .ok (.getfield 7, 3) := by decide +kernel
theorem d_Mo_lays_16 : decode prog_10_method_26_code 16 = .ok (.iconst 0, 1) := by decide +kernel
theorem d_Mo_lays_17 : decode prog_10_method_26_code 17 = .ok (.iaload, 1) := by decide +kernel
theorem d_Mo_lays_18 : decode prog_10_method_26_code 18 = .ok (.iconst 1, 1) := by decide +kernel
theorem d_Mo_lays_19 : decode prog_10_method_26_code 19 = .ok (.isub, 1) := by decide +kernel
theorem d_Mo_lays_20 : decode prog_10_method_26_code 20 = .ok (.istore_n 2, 1) := by decide +kernel
theorem d_Mo_lays_21 : decode prog_10_method_26_code 21 = .ok (.iload_n 2, 1) := by decide +kernel
theorem d_Mo_lays_22 : decode prog_10_method_26_code 22 = .ok (.ifCond .lt 19, 3) := by decide +kernel
theorem d_Mo_lays_25 : decode prog_10_method_26_code 25 = .ok (.iload_n 1, 1) := by decide +kernel
theorem d_Mo_lays_26 : decode prog_10_method_26_code 26 = .ok (.iconst 2, 1) := by decide +kernel
theorem d_Mo_lays_27 : decode prog_10_method_26_code 27 = .ok (.if_icmp .ne 14, 3) := by decide +kernel
theorem d_Mo_lays_30 : decode prog_10_method_26_code 30 = .ok (.aload_n 0, 1) := by decide +kernel
theorem d_Mo_lays_31 : decode prog_10_method_26_code 31 = .ok (.iload_n 2, 1) := by decide +kernel
theorem d_Mo_lays_32 : decode prog_10_method_26_code 32 = .ok (.invokevirtual 94, 3) := by decide +kernel
theorem d_Mo_lays_35 : decode prog_10_method_26_code 35 = .ok (.iinc 2 (-1), 3) := by decide +kernel
theorem d_Mo_lays_38 : decode prog_10_method_26_code 38 = .ok (.goto (-17), 3) := by decide +kernel
theorem d_Mo_lays_41 : decode prog_10_method_26_code 41 = .ok (.aload_n 0, 1) := by decide +kernel
theorem d_Mo_lays_42 : decode prog_10_method_26_code 42 = .ok (.iconst 0, 1) := by decide +kernel
theorem d_Mo_lays_43 : decode prog_10_method_26_code 43 = .ok (.putfield 98, 3) := by decide +kernel
theorem d_Mo_lays_46 : decode prog_10_method_26_code 46 = .ok (.iconst 0, 1) := by decide +kernel
theorem d_Mo_lays_47 : decode prog_10_method_26_code 47 = .ok (.istore_n 2, 1) := by decide +kernel
theorem d_Mo_lays_48 : decode prog_10_method_26_code 48 = .ok (.iload_n 2, 1) := by decide +kernel
theorem d_Mo_lays_49 : decode prog_10_method_26_code 49 = .ok (.aload_n 0, 1) := by decide +kernel
theorem d_Mo_lays_50 : decode prog_10_method_26_code 50 = .ok (.getfield 7, 3) := by decide +kernel
theorem d_Mo_lays_53 : decode prog_10_method_26_code 53 = .ok (.iconst 0, 1) := by decide +kernel
theorem d_Mo_lays_54 : decode prog_10_method_26_code 54 = .ok (.iaload, 1) := by decide +kernel
theorem d_Mo_lays_55 : decode prog_10_method_26_code 55 = .ok (.if_icmp .ge 135, 3) := by decide +kernel
theorem d_Mo_lays_58 : decode prog_10_method_26_code 58 = .ok (.iload_n 1, 1) := by decide +kernel
theorem d_Mo_lays_59 : decode prog_10_method_26_code 59 = .ok (.iconst 2, 1) := by decide +kernel
theorem d_Mo_lays_60 : decode prog_10_method_26_code 60 = .ok (.if_icmp .ge 16, 3) := by decide +kernel
theorem d_Mo_lays_63 : decode prog_10_method_26_code 63 = .ok (.aload_n 0, 1) := by decide +kernel
theorem d_Mo_lays_64 : decode prog_10_method_26_code 64 = .ok (.iload_n 1, 1) := by decide +kernel
theorem d_Mo_lays_65 : decode prog_10_method_26_code 65 = .ok (.iload_n 2, 1) := by decide +kernel
theorem d_Mo_lays_66 : decode prog_10_method_26_code 66 = .ok (.invokevirtual 101, 3) := by decide +kernel
theorem d_Mo_lays_69 : decode prog_10_method_26_code 69 = .ok (.ifCond .eq 7, 3) := by decide +kernel
theorem d_Mo_lays_72 : decode prog_10_method_26_code 72 = .ok (.iconst 1, 1) := by decide +kernel
theorem d_Mo_lays_73 : decode prog_10_method_26_code 73 = .ok (.goto 4, 3) := by decide +kernel
theorem d_Mo_lays_76 : decode prog_10_method_26_code 76 = .ok (.iconst 0, 1) := by decide +kernel
theorem d_Mo_lays_77 : decode prog_10_method_26_code 77 = .ok (.istore_n 3, 1) := by decide +kernel
theorem d_Mo_lays_78 : decode prog_10_method_26_code 78 = .ok (.aload_n 0, 1) := by decide +kernel
theorem d_Mo_lays_79 : decode prog_10_method_26_code 79 = .ok (.getfield 22, 3) := by decide +kernel
theorem d_Mo_lays_82 : decode prog_10_method_26_code 82 = .ok (.aload_n 0, 1) := by decide +kernel
theorem d_Mo_lays_83 : decode prog_10_method_26_code 83 = .ok (.getfield 98, 3) := by decide +kernel
theorem d_Mo_lays_86 : decode prog_10_method_26_code 86 = .ok (.iload_n 2, 1) := by decide +kernel
theorem d_Mo_lays_87 : decode prog_10_method_26_code 87 = .ok (.iastore, 1) := by decide +kernel
theorem d_Mo_lays_88 : decode prog_10_method_26_code 88 = .ok (.aload_n 0, 1) := by decide +kernel
theorem d_Mo_lays_89 : decode prog_10_method_26_code 89 = .ok (.getfield 28, 3) := by decide +kernel
theorem d_Mo_lays_92 : decode prog_10_method_26_code 92 = .ok (.aload_n 0, 1) := by decide +kernel
theorem d_Mo_lays_93 : decode prog_10_method_26_code 93 = .ok (.getfield 98, 3) := by decide +kernel
theorem d_Mo_lays_96 : decode prog_10_method_26_code 96 = .ok (.iload_n 1, 1) := by decide +kernel
theorem d_Mo_lays_97 : decode prog_10_method_26_code 97 = .ok (.iconst 2, 1) := by decide +kernel
theorem d_Mo_lays_98 : decode prog_10_method_26_code 98 = .ok (.if_icmp .ne 12, 3) := by decide +kernel
theorem d_Mo_lays_101 : decode prog_10_method_26_code 101 = .ok (.aload_n 0, 1) := by decide +kernel
theorem d_Mo_lays_102 : decode prog_10_method_26_code 102 = .ok (.getfield 37, 3) := by decide +kernel
theorem d_Mo_lays_105 : decode prog_10_method_26_code 105 = .ok (.iload_n 2, 1) := by decide +kernel
theorem d_Mo_lays_106 : decode prog_10_method_26_code 106 = .ok (.iaload, 1) := by decide +kernel
theorem d_Mo_lays_107 : decode prog_10_method_26_code 107 = .ok (.goto 16, 3) := by decide +kernel
theorem d_Mo_lays_110 : decode prog_10_method_26_code 110 = .ok (.iload_n 3, 1) := by decide +kernel
theorem d_Mo_lays_111 : decode prog_10_method_26_code 111 = .ok (.ifCond .eq 11, 3) := by decide +kernel
theorem d_Mo_lays_114 : decode prog_10_method_26_code 114 = .ok (.aload_n 0, 1) := by decide +kernel
theorem d_Mo_lays_115 : decode prog_10_method_26_code 115 = .ok (.iload_n 2, 1) := by decide +kernel
theorem d_Mo_lays_116 : decode prog_10_method_26_code 116 = .ok (.invokevirtual 82, 3) := by decide +kernel
theorem d_Mo_lays_119 : decode prog_10_method_26_code 119 = .ok (.goto 4, 3) := by decide +kernel
theorem d_Mo_lays_122 : decode prog_10_method_26_code 122 = .ok (.iconst 0, 1) := by decide +kernel
theorem d_Mo_lays_123 : decode prog_10_method_26_code 123 = .ok (.iastore, 1) := by decide +kernel
theorem d_Mo_lays_124 : decode prog_10_method_26_code 124 = .ok (.aload_n 0, 1) := by decide +kernel
theorem d_Mo_lays_125 : decode prog_10_method_26_code 125 = .ok (.getfield 25, 3) := by decide +kernel
theorem d_Mo_lays_128 : decode prog_10_method_26_code 128 = .ok (.aload_n 0, 1) := by decide +kernel
theorem d_Mo_lays_129 : decode prog_10_method_26_code 129 = .ok (.getfield 98, 3) := by decide +kernel
theorem d_Mo_lays_132 : decode prog_10_method_26_code 132 = .ok (.iload_n 1, 1) := by decide +kernel
theorem d_Mo_lays_133 : decode prog_10_method_26_code 133 = .ok (.iconst 2, 1) := by decide +kernel
theorem d_Mo_lays_134 : decode prog_10_method_26_code 134 = .ok (.if_icmp .ne 12, 3) := by decide +kernel
theorem d_Mo_lays_137 : decode prog_10_method_26_code 137 = .ok (.aload_n 0, 1) := by decide +kernel
theorem d_Mo_lays_138 : decode prog_10_method_26_code 138 = .ok (.getfield 34, 3) := by decide +kernel
theorem d_Mo_lays_141 : decode prog_10_method_26_code 141 = .ok (.iload_n 2, 1) := by decide +kernel
theorem d_Mo_lays_142 : decode prog_10_method_26_code 142 = .ok (.iaload, 1) := by decide +kernel
theorem d_Mo_lays_143 : decode prog_10_method_26_code 143 = .ok (.goto 21, 3) := by decide +kernel
theorem d_Mo_lays_146 : decode prog_10_method_26_code 146 = .ok (.iload_n 3, 1) := by decide +kernel
theorem d_Mo_lays_147 : decode prog_10_method_26_code 147 = .ok (.ifCond .eq 16, 3) := by decide +kernel
theorem d_Mo_lays_150 : decode prog_10_method_26_code 150 = .ok (.aload_n 0, 1) := by decide +kernel
theorem d_Mo_lays_151 : decode prog_10_method_26_code 151 = .ok (.iload_n 2, 1) := by decide +kernel
theorem d_Mo_lays_152 : decode prog_10_method_26_code 152 = .ok (.aload_n 0, 1) := by decide +kernel
theorem d_Mo_lays_153 : decode prog_10_method_26_code 153 = .ok (.iload_n 2, 1) := by decide +kernel
theorem d_Mo_lays_154 : decode prog_10_method_26_code 154 = .ok (.invokevirtual 82, 3) := by decide +kernel
theorem d_Mo_lays_157 : decode prog_10_method_26_code 157 = .ok (.invokevirtual 71, 3) := by decide +kernel
theorem d_Mo_lays_160 : decode prog_10_method_26_code 160 = .ok (.goto 4, 3) := by decide +kernel
theorem d_Mo_lays_163 : decode prog_10_method_26_code 163 = .ok (.iconst 1, 1) := by decide +kernel
theorem d_Mo_lays_164 : decode prog_10_method_26_code 164 = .ok (.iastore, 1) := by decide +kernel
theorem d_Mo_lays_165 : decode prog_10_method_26_code 165 = .ok (.iload_n 2, 1) := by decide +kernel
theorem d_Mo_lays_166 : decode prog_10_method_26_code 166 = .ok (.aload_n 0, 1) := by decide +kernel
theorem d_Mo_lays_167 : decode prog_10_method_26_code 167 = .ok (.getfield 25, 3) := by decide +kernel
theorem d_Mo_lays_170 : decode prog_10_method_26_code 170 = .ok (.aload_n 0, 1) := by decide +kernel
theorem d_Mo_lays_171 : decode prog_10_method_26_code 171 = .ok (.getfield 98, 3) := by decide +kernel
theorem d_Mo_lays_174 : decode prog_10_method_26_code 174 = .ok (.iaload, 1) := by decide +kernel
theorem d_Mo_lays_175 : decode prog_10_method_26_code 175 = .ok (.iadd, 1) := by decide +kernel
theorem d_Mo_lays_176 : decode prog_10_method_26_code 176 = .ok (.istore_n 2, 1) := by decide +kernel
theorem d_Mo_lays_177 : decode prog_10_method_26_code 177 = .ok (.aload_n 0, 1) := by decide +kernel
theorem d_Mo_lays_178 : decode prog_10_method_26_code 178 = .ok (.dup, 1) := by decide +kernel
theorem d_Mo_lays_179 : decode prog_10_method_26_code 179 = .ok (.getfield 98, 3) := by decide +kernel
theorem d_Mo_lays_182 : decode prog_10_method_26_code 182 = .ok (.iconst 1, 1) := by decide +kernel
theorem d_Mo_lays_183 : decode prog_10_method_26_code 183 = .ok (.iadd, 1) := by decide +kernel
theorem d_Mo_lays_184 : decode prog_10_method_26_code 184 = .ok (.putfield 98, 3) := by decide +kernel
theorem d_Mo_lays_187 : decode prog_10_method_26_code 187 = .ok (.goto (-139), 3) := by decide +kernel
theorem d_Mo_lays_190 : decode prog_10_method_26_code 190 = .ok (.return_, 1) := by decide +kernel
theorem d_Mo_cost_0 : decode prog_10_method_27_code 0 = .ok (.aload_n 0, 1) := by decide +kernel
theorem d_Mo_cost_1 : decode prog_10_method_27_code 1 = .ok (.getfield 28, 3) := by decide +kernel
theorem d_Mo_cost_4 : decode prog_10_method_27_code 4 = .ok (.iload_n 1, 1) := by decide +kernel
theorem d_Mo_cost_5 : decode prog_10_method_27_code 5 = .ok (.iaload, 1) := by decide +kernel
theorem d_Mo_cost_6 : decode prog_10_method_27_code 6 = .ok (.ifCond .le 12, 3) := by decide +kernel
theorem d_Mo_cost_9 : decode prog_10_method_27_code 9 = .ok (.aload_n 0, 1) := by decide +kernel
theorem d_Mo_cost_10 : decode prog_10_method_27_code 10 = .ok (.getfield 7, 3) := by decide +kernel
theorem d_Mo_cost_13 : decode prog_10_method_27_code 13 = .ok (.iconst 5, 1) := by decide +kernel
theorem d_Mo_cost_14 : decode prog_10_method_27_code 14 = .ok (.iaload, 1) := by decide +kernel
theorem d_Mo_cost_15 : decode prog_10_method_27_code 15 = .ok (.goto 9, 3) := by decide +kernel
theorem d_Mo_cost_18 : decode prog_10_method_27_code 18 = .ok (.aload_n 0, 1) := by decide +kernel
theorem d_Mo_cost_19 : decode prog_10_method_27_code 19 = .ok (.getfield 7, 3) := by decide +kernel
theorem d_Mo_cost_22 : decode prog_10_method_27_code 22 = .ok (.iconst 4, 1) := by decide +kernel
theorem d_Mo_cost_23 : decode prog_10_method_27_code 23 = .ok (.iaload, 1) := by decide +kernel
theorem d_Mo_cost_24 : decode prog_10_method_27_code 24 = .ok (.ireturn, 1) := by decide +kernel
theorem d_Mo_part_0 : decode prog_10_method_28_code 0 = .ok (.iload_n 1, 1) := by decide +kernel
theorem d_Mo_part_1 : decode prog_10_method_28_code 1 = .ok (.iconst 0, 1) := by decide +kernel
theorem d_Mo_part_2 : decode prog_10_method_28_code 2 = .ok (.iconst 2, 1) := by decide +kernel
theorem d_Mo_part_3 : decode prog_10_method_28_code 3 = .ok (.invokestatic 53, 3) := by decide +kernel
theorem d_Mo_part_6 : decode prog_10_method_28_code 6 = .ok (.ifCond .eq 16, 3) := by decide +kernel
theorem d_Mo_part_9 : decode prog_10_method_28_code 9 = .ok (.iload_n 2, 1) := by decide +kernel
theorem d_Mo_part_10 : decode prog_10_method_28_code 10 = .ok (.ifCond .lt 12, 3) := by decide +kernel
theorem d_Mo_part_13 : decode prog_10_method_28_code 13 = .ok (.iload_n 3, 1) := by decide +kernel
theorem d_Mo_part_14 : decode prog_10_method_28_code 14 = .ok (.iconst 0, 1) := by decide +kernel
theorem d_Mo_part_15 : decode prog_10_method_28_code 15 = .ok (.iconst 3, 1) := by decide +kernel
theorem d_Mo_part_16 : decode prog_10_method_28_code 16 = .ok (.invokestatic 53, 3) := by decide +kernel
theorem d_Mo_part_19 : decode prog_10_method_28_code 19 = .ok (.ifCond .ne 7, 3) := by decide +kernel
theorem d_Mo_part_22 : decode prog_10_method_28_code 22 = .ok (.sipush (-10001), 3) := by decide +kernel
theorem d_Mo_part_25 : decode prog_10_method_28_code 25 = .ok (.ireturn, 1) := by decide +kernel
theorem d_Mo_part_26 : decode prog_10_method_28_code 26 = .ok (.aload_n 0, 1) := by decide +kernel
theorem d_Mo_part_27 : decode prog_10_method_28_code 27 = .ok (.iload_n 1, 1) := by decide +kernel
theorem d_Mo_part_28 : decode prog_10_method_28_code 28 = .ok (.invokevirtual 104, 3) := by decide +kernel
theorem d_Mo_part_31 : decode prog_10_method_28_code 31 = .ok (.iload_n 2, 1) := by decide +kernel
theorem d_Mo_part_32 : decode prog_10_method_28_code 32 = .ok (.aload_n 0, 1) := by decide +kernel
theorem d_Mo_part_33 : decode prog_10_method_28_code 33 = .ok (.getfield 98, 3) := by decide +kernel
theorem d_Mo_part_36 : decode prog_10_method_28_code 36 = .ok (.if_icmp .lt 7, 3) := by decide +kernel
theorem d_Mo_part_39 : decode prog_10_method_28_code 39 = .ok (.sipush (-10004), 3) := by decide +kernel
theorem d_Mo_part_42 : decode prog_10_method_28_code 42 = .ok (.ireturn, 1) := by decide +kernel
theorem d_Mo_part_43 : decode prog_10_method_28_code 43 = .ok (.iload_n 3, 1) := by decide +kernel
theorem d_Mo_part_44 : decode prog_10_method_28_code 44 = .ok (.ifCond .ne 12, 3) := by decide +kernel
theorem d_Mo_part_47 : decode prog_10_method_28_code 47 = .ok (.aload_n 0, 1) := by decide +kernel
theorem d_Mo_part_48 : decode prog_10_method_28_code 48 = .ok (.getfield 22, 3) := by decide +kernel
theorem d_Mo_part_51 : decode prog_10_method_28_code 51 = .ok (.iload_n 2, 1) := by decide +kernel
theorem d_Mo_part_52 : decode prog_10_method_28_code 52 = .ok (.iaload, 1) := by decide +kernel
theorem d_Mo_part_53 : decode prog_10_method_28_code 53 = .ok (.goto 36, 3) := by decide +kernel
theorem d_Mo_part_56 : decode prog_10_method_28_code 56 = .ok (.iload_n 3, 1) := by decide +kernel
theorem d_Mo_part_57 : decode prog_10_method_28_code 57 = .ok (.iconst 1, 1) := by decide +kernel
theorem d_Mo_part_58 : decode prog_10_method_28_code 58 = .ok (.if_icmp .ne 12, 3) := by decide +kernel
theorem d_Mo_part_61 : decode prog_10_method_28_code 61 = .ok (.aload_n 0, 1) := by decide +kernel
theorem d_Mo_part_62 : decode prog_10_method_28_code 62 = .ok (.getfield 25, 3) := by decide +kernel
theorem d_Mo_part_65 : decode prog_10_method_28_code 65 = .ok (.iload_n 2, 1) := by decide +kernel
theorem d_Mo_part_66 : decode prog_10_method_28_code 66 = .ok (.iaload, 1) := by decide +kernel
theorem d_Mo_part_67 : decode prog_10_method_28_code 67 = .ok (.goto 22, 3) := by decide +kernel
theorem d_Mo_part_70 : decode prog_10_method_28_code 70 = .ok (.iload_n 3, 1) := by decide +kernel
theorem d_Mo_part_71 : decode prog_10_method_28_code 71 = .ok (.iconst 2, 1) := by decide +kernel
theorem d_Mo_part_72 : decode prog_10_method_28_code 72 = .ok (.if_icmp .ne 12, 3) := by decide +kernel
theorem d_Mo_part_75 : decode prog_10_method_28_code 75 = .ok (.aload_n 0, 1) := by decide +kernel
theorem d_Mo_part_76 : decode prog_10_method_28_code 76 = .ok (.getfield 28, 3) := by decide +kernel
theorem d_Mo_part_79 : decode prog_10_method_28_code 79 = .ok (.iload_n 2, 1) := by decide +kernel
theorem d_Mo_part_80 : decode prog_10_method_28_code 80 = .ok (.iaload, 1) := by decide +kernel
theorem d_Mo_part_81 : decode prog_10_method_28_code 81 = .ok (.goto 8, 3) := by decide +kernel
theorem d_Mo_part_84 : decode prog_10_method_28_code 84 = .ok (.aload_n 0, 1) := by decide +kernel
theorem d_Mo_part_85 : decode prog_10_method_28_code 85 = .ok (.iload_n 2, 1) := by decide +kernel
theorem d_Mo_part_86 : decode prog_10_method_28_code 86 = .ok (.invokevirtual 107, 3) := by decide +kernel
theorem d_Mo_part_89 : decode prog_10_method_28_code 89 = .ok (.ireturn, 1) := by decide +kernel
theorem d_Mo_costAll_0 : decode prog_10_method_29_code 0 = .ok (.aload_n 0, 1) := by decide +kernel
theorem d_Mo_costAll_1 : decode prog_10_method_29_code 1 = .ok (.iload_n 1, 1) := by decide +kernel
theorem d_Mo_costAll_2 : decode prog_10_method_29_code 2 = .ok (.invokevirtual 104, 3) := by decide +kernel
theorem d_Mo_costAll_5 : decode prog_10_method_29_code 5 = .ok (.iconst 0, 1) := by decide +kernel
theorem d_Mo_costAll_6 : decode prog_10_method_29_code 6 = .ok (.istore_n 2, 1) := by decide +kernel
theorem d_Mo_costAll_7 : decode prog_10_method_29_code 7 = .ok (.iconst 0, 1) := by decide +kernel
theorem d_Mo_costAll_8 : decode prog_10_method_29_code 8 = .ok (.istore_n 3, 1) := by decide +kernel
theorem d_Mo_costAll_9 : decode prog_10_method_29_code 9 = .ok (.iload_n 3, 1) := by decide +kernel
theorem d_Mo_costAll_10 : decode prog_10_method_29_code 10 = .ok (.aload_n 0, 1) := by decide +kernel
theorem d_Mo_costAll_11 : decode prog_10_method_29_code 11 = .ok (.getfield 98, 3) := by decide +kernel
theorem d_Mo_costAll_14 : decode prog_10_method_29_code 14 = .ok (.if_icmp .ge 17, 3) := by decide +kernel
theorem d_Mo_costAll_17 : decode prog_10_method_29_code 17 = .ok (.iload_n 2, 1) := by decide +kernel
theorem d_Mo_costAll_18 : decode prog_10_method_29_code 18 = .ok (.aload_n 0, 1) := by decide +kernel
theorem d_Mo_costAll_19 : decode prog_10_method_29_code 19 = .ok (.iload_n 3, 1) := by decide +kernel
theorem d_Mo_costAll_20 : decode prog_10_method_29_code 20 = .ok (.invokevirtual 107, 3) := by decide +kernel
theorem d_Mo_costAll_23 : decode prog_10_method_29_code 23 = .ok (.iadd, 1) := by decide +kernel
theorem d_Mo_costAll_24 : decode prog_10_method_29_code 24 = .ok (.istore_n 2, 1) := by decide +kernel
theorem d_Mo_costAll_25 : decode prog_10_method_29_code 25 = .ok (.iinc 3 1, 3) := by decide +kernel
theorem d_Mo_costAll_28 : decode prog_10_method_29_code 28 = .ok (.goto (-19), 3) := by decide +kernel
theorem d_Mo_costAll_31 : decode prog_10_method_29_code 31 = .ok (.iload_n 2, 1) := by decide +kernel
theorem d_Mo_costAll_32 : decode prog_10_method_29_code 32 = .ok (.ireturn, 1) := by decide +kernel
theorem d_Mo_total_0 : decode prog_10_method_30_code 0 = .ok (.iload_n 1, 1) := by decide +kernel
theorem d_Mo_total_1 : decode prog_10_method_30_code 1 = .ok (.iconst 0, 1) := by decide +kernel
theorem d_Mo_total_2 : decode prog_10_method_30_code 2 = .ok (.iconst 2, 1) := by decide +kernel
theorem d_Mo_total_3 : decode prog_10_method_30_code 3 = .ok (.invokestatic 53, 3) := by decide +kernel
theorem d_Mo_total_6 : decode prog_10_method_30_code 6 = .ok (.ifCond .eq 12, 3) := by decide +kernel
theorem d_Mo_total_9 : decode prog_10_method_30_code 9 = .ok (.iload_n 2, 1) := by decide +kernel
theorem d_Mo_total_10 : decode prog_10_method_30_code 10 = .ok (.iconst 0, 1) := by decide +kernel
theorem d_Mo_total_11 : decode prog_10_method_30_code 11 = .ok (.iconst 5, 1) := by decide +kernel
theorem d_Mo_total_12 : decode prog_10_method_30_code 12 = .ok (.invokestatic 53, 3) := by decide +kernel
theorem d_Mo_total_15 : decode prog_10_method_30_code 15 = .ok (.ifCond .ne 7, 3) := by decide +kernel
theorem d_Mo_total_18 : decode prog_10_method_30_code 18 = .ok (.sipush (-10001), 3) := by decide +kernel
theorem d_Mo_total_21 : decode prog_10_method_30_code 21 = .ok (.ireturn, 1) := by decide +kernel
theorem d_Mo_total_22 : decode prog_10_method_30_code 22 = .ok (.aload_n 0, 1) := by decide +kernel
theorem d_Mo_total_23 : decode prog_10_method_30_code 23 = .ok (.iload_n 1, 1) := by decide +kernel
theorem d_Mo_total_24 : decode prog_10_method_30_code 24 = .ok (.invokevirtual 110, 3) := by decide +kernel
theorem d_Mo_total_27 : decode prog_10_method_30_code 27 = .ok (.istore_n 3, 1) := by decide +kernel
theorem d_Mo_total_28 : decode prog_10_method_30_code 28 = .ok (.iconst 0, 1) := by decide +kernel
theorem d_Mo_total_29 : decode prog_10_method_30_code 29 = .ok (.istore 4, 2) := by decide +kernel
theorem d_Mo_total_31 : decode prog_10_method_30_code 31 = .ok (.iconst 0, 1) := by decide +kernel
theorem d_Mo_total_32 : decode prog_10_method_30_code 32 = .ok (.istore 5, 2) := by decide +kernel
theorem d_Mo_total_34 : decode prog_10_method_30_code 34 = .ok (.iconst 0, 1) := by decide +kernel
theorem d_Mo_total_35 : decode prog_10_method_30_code 35 = .ok (.istore 6, 2) := by decide +kernel
theorem d_Mo_total_37 : decode prog_10_method_30_code 37 = .ok (.iconst 0, 1) := by decide +kernel
theorem d_Mo_total_38 : decode prog_10_method_30_code 38 = .ok (.istore 7, 2) := by decide +kernel
theorem d_Mo_total_40 : decode prog_10_method_30_code 40 = .ok (.iload 7, 2) := by decide +kernel
theorem d_Mo_total_42 : decode prog_10_method_30_code 42 = .ok (.aload_n 0, 1) := by decide +kernel
theorem d_Mo_total_43 : decode prog_10_method_30_code 43 = .ok (.getfield 98, 3) := by decide +kernel
theorem d_Mo_total_46 : decode prog_10_method_30_code 46 = .ok (.if_icmp .ge 93, 3) := by decide +kernel
theorem d_Mo_total_49 : decode prog_10_method_30_code 49 = .ok (.aload_n 0, 1) := by decide +kernel
theorem d_Mo_total_50 : decode prog_10_method_30_code 50 = .ok (.getfield 28, 3) := by decide +kernel
theorem d_Mo_total_53 : decode prog_10_method_30_code 53 = .ok (.iload 7, 2) := by decide +kernel
theorem d_Mo_total_55 : decode prog_10_method_30_code 55 = .ok (.iaload, 1) := by decide +kernel
theorem d_Mo_total_56 : decode prog_10_method_30_code 56 = .ok (.ifCond .le 7, 3) := by decide +kernel
theorem d_Mo_total_59 : decode prog_10_method_30_code 59 = .ok (.iconst 1, 1) := by decide +kernel
theorem d_Mo_total_60 : decode prog_10_method_30_code 60 = .ok (.goto 4, 3) := by decide +kernel
theorem d_Mo_total_63 : decode prog_10_method_30_code 63 = .ok (.iconst 0, 1) := by decide +kernel
theorem d_Mo_total_64 : decode prog_10_method_30_code 64 = .ok (.istore 8, 2) := by decide +kernel
theorem d_Mo_total_66 : decode prog_10_method_30_code 66 = .ok (.iload 4, 2) := by decide +kernel
theorem d_Mo_total_68 : decode prog_10_method_30_code 68 = .ok (.iload 8, 2) := by decide +kernel
theorem d_Mo_total_70 : decode prog_10_method_30_code 70 = .ok (.ifCond .eq 7, 3) := by decide +kernel
theorem d_Mo_total_73 : decode prog_10_method_30_code 73 = .ok (.iconst 1, 1) := by decide +kernel
theorem d_Mo_total_74 : decode prog_10_method_30_code 74 = .ok (.goto 4, 3) := by decide +kernel
theorem d_Mo_total_77 : decode prog_10_method_30_code 77 = .ok (.iconst 0, 1) := by decide +kernel
theorem d_Mo_total_78 : decode prog_10_method_30_code 78 = .ok (.iadd, 1) := by decide +kernel
theorem d_Mo_total_79 : decode prog_10_method_30_code 79 = .ok (.istore 4, 2) := by decide +kernel
theorem d_Mo_total_81 : decode prog_10_method_30_code 81 = .ok (.iload 5, 2) := by decide +kernel
theorem d_Mo_total_83 : decode prog_10_method_30_code 83 = .ok (.iload 8, 2) := by decide +kernel
theorem d_Mo_total_85 : decode prog_10_method_30_code 85 = .ok (.ifCond .eq 13, 3) := by decide +kernel
theorem d_Mo_total_88 : decode prog_10_method_30_code 88 = .ok (.aload_n 0, 1) := by decide +kernel
theorem d_Mo_total_89 : decode prog_10_method_30_code 89 = .ok (.getfield 25, 3) := by decide +kernel
theorem d_Mo_total_92 : decode prog_10_method_30_code 92 = .ok (.iload 7, 2) := by decide +kernel
theorem d_Mo_total_94 : decode prog_10_method_30_code 94 = .ok (.iaload, 1) := by decide +kernel
theorem d_Mo_total_95 : decode prog_10_method_30_code 95 = .ok (.goto 4, 3) := by decide +kernel
theorem d_Mo_total_98 : decode prog_10_method_30_code 98 = .ok (.iconst 0, 1) := by decide +kernel
theorem d_Mo_total_99 : decode prog_10_method_30_code 99 = .ok (.iadd, 1) := by decide +kernel
theorem d_Mo_total_100 : decode prog_10_method_30_code 100 = .ok (.istore 5, 2) := by decide +kernel
theorem d_Mo_total_102 : decode prog_10_method_30_code 102 = .ok (.iload 8, 2) := by decide +kernel
theorem d_Mo_total_104 : decode prog_10_method_30_code 104 = .ok (.ifCond .eq 25, 3) := by decide +kernel
theorem d_Mo_total_107 : decode prog_10_method_30_code 107 = .ok (.aload_n 0, 1) := by decide +kernel
theorem d_Mo_total_108 : decode prog_10_method_30_code 108 = .ok (.getfield 25, 3) := by decide +kernel
theorem d_Mo_total_111 : decode prog_10_method_30_code 111 = .ok (.iload 7, 2) := by decide +kernel
theorem d_Mo_total_113 : decode prog_10_method_30_code 113 = .ok (.iaload, 1) := by decide +kernel
theorem d_Mo_total_114 : decode prog_10_method_30_code 114 = .ok (.iload 6, 2) := by decide +kernel
theorem d_Mo_total_116 : decode prog_10_method_30_code 116 = .ok (.if_icmp .le 13, 3) := by decide +kernel
theorem d_Mo_total_119 : decode prog_10_method_30_code 119 = .ok (.aload_n 0, 1) := by decide +kernel
theorem d_Mo_total_120 : decode prog_10_method_30_code 120 = .ok (.getfield 25, 3) := by decide +kernel
theorem d_Mo_total_123 : decode prog_10_method_30_code 123 = .ok (.iload 7, 2) := by decide +kernel
theorem d_Mo_total_125 : decode prog_10_method_30_code 125 = .ok (.iaload, 1) := by decide +kernel
theorem d_Mo_total_126 : decode prog_10_method_30_code 126 = .ok (.goto 5, 3) := by decide +kernel
theorem d_Mo_total_129 : decode prog_10_method_30_code 129 = .ok (.iload 6, 2) := by decide +kernel
theorem d_Mo_total_131 : decode prog_10_method_30_code 131 = .ok (.istore 6, 2) := by decide +kernel
theorem d_Mo_total_133 : decode prog_10_method_30_code 133 = .ok (.iinc 7 1, 3) := by decide +kernel
theorem d_Mo_total_136 : decode prog_10_method_30_code 136 = .ok (.goto (-96), 3) := by decide +kernel
theorem d_Mo_total_139 : decode prog_10_method_30_code 139 = .ok (.iload_n 2, 1) := by decide +kernel
theorem d_Mo_total_140 : decode prog_10_method_30_code 140 = .ok (.tableswitch 65 0 4 #[36, 41, 44, 46, 62], 36) := by decide +kernel
theorem d_Mo_total_176 : decode prog_10_method_30_code 176 = .ok (.aload_n 0, 1) := by decide +kernel
theorem d_Mo_total_177 : decode prog_10_method_30_code 177 = .ok (.getfield 98, 3) := by decide +kernel
theorem d_Mo_total_180 : decode prog_10_method_30_code 180 = .ok (.ireturn, 1) := by decide +kernel
theorem d_Mo_total_181 : decode prog_10_method_30_code 181 = .ok (.iload 4, 2) := by decide +kernel
theorem d_Mo_total_183 : decode prog_10_method_30_code 183 = .ok (.ireturn, 1) := by decide +kernel
theorem d_Mo_total_184 : decode prog_10_method_30_code 184 = .ok (.iload_n 3, 1) := by decide +kernel
theorem d_Mo_total_185 : decode prog_10_method_30_code 185 = .ok (.ireturn, 1) := by decide +kernel
theorem d_Mo_total_186 : decode prog_10_method_30_code 186 = .ok (.aload_n 0, 1) := by decide +kernel
theorem d_Mo_total_187 : decode prog_10_method_30_code 187 = .ok (.getfield 7, 3) := by decide +kernel
theorem d_Mo_total_190 : decode prog_10_method_30_code 190 = .ok (.iconst 0, 1) := by decide +kernel
theorem d_Mo_total_191 : decode prog_10_method_30_code 191 = .ok (.iaload, 1) := by decide +kernel
theorem d_Mo_total_192 : decode prog_10_method_30_code 192 = .ok (.aload_n 0, 1) := by decide +kernel
theorem d_Mo_total_193 : decode prog_10_method_30_code 193 = .ok (.getfield 7, 3) := by decide +kernel
theorem d_Mo_total_196 : decode prog_10_method_30_code 196 = .ok (.iconst 4, 1) := by decide +kernel
theorem d_Mo_total_197 : decode prog_10_method_30_code 197 = .ok (.iaload, 1) := by decide +kernel
theorem d_Mo_total_198 : decode prog_10_method_30_code 198 = .ok (.imul, 1) := by decide +kernel
theorem d_Mo_total_199 : decode prog_10_method_30_code 199 = .ok (.iload_n 3, 1) := by decide +kernel
theorem d_Mo_total_200 : decode prog_10_method_30_code 200 = .ok (.isub, 1) := by decide +kernel
theorem d_Mo_total_201 : decode prog_10_method_30_code 201 = .ok (.ireturn, 1) := by decide +kernel
theorem d_Mo_total_202 : decode prog_10_method_30_code 202 = .ok (.iload 5, 2) := by decide +kernel
theorem d_Mo_total_204 : decode prog_10_method_30_code 204 = .ok (.ireturn, 1) := by decide +kernel
theorem d_Mo_total_205 : decode prog_10_method_30_code 205 = .ok (.iload 6, 2) := by decide +kernel
theorem d_Mo_total_207 : decode prog_10_method_30_code 207 = .ok (.ireturn, 1) := by decide +kernel
theorem d_Mo_partAt_0 : decode prog_10_method_31_code 0 = .ok (.iload_n 1, 1) := by decide +kernel
theorem d_Mo_partAt_1 : decode prog_10_method_31_code 1 = .ok (.iconst 0, 1) := by decide +kernel
theorem d_Mo_partAt_2 : decode prog_10_method_31_code 2 = .ok (.iconst 2, 1) := by decide +kernel
theorem d_Mo_partAt_3 : decode prog_10_method_31_code 3 = .ok (.invokestatic 53, 3) := by decide +kernel
theorem d_Mo_partAt_6 : decode prog_10_method_31_code 6 = .ok (.ifCond .eq 11, 3) := by decide +kernel
theorem d_Mo_partAt_9 : decode prog_10_method_31_code 9 = .ok (.aload_n 0, 1) := by decide +kernel
theorem d_Mo_partAt_10 : decode prog_10_method_31_code 10 = .ok (.iload_n 2, 1) := by decide +kernel
theorem d_Mo_partAt_11 : decode prog_10_method_31_code 11 = .ok (.invokevirtual 60, 3) := by decide +kernel
theorem d_Mo_partAt_14 : decode prog_10_method_31_code 14 = .ok (.ifCond .ne 7, 3) := by decide +kernel
theorem d_Mo_partAt_17 : decode prog_10_method_31_code 17 = .ok (.sipush (-10001), 3) := by decide +kernel
theorem d_Mo_partAt_20 : decode prog_10_method_31_code 20 = .ok (.ireturn, 1) := by decide +kernel
theorem d_Mo_partAt_21 : decode prog_10_method_31_code 21 = .ok (.aload_n 0, 1) := by decide +kernel
theorem d_Mo_partAt_22 : decode prog_10_method_31_code 22 = .ok (.iload_n 1, 1) := by decide +kernel
theorem d_Mo_partAt_23 : decode prog_10_method_31_code 23 = .ok (.invokevirtual 104, 3) := by decide +kernel
theorem d_Mo_partAt_26 : decode prog_10_method_31_code 26 = .ok (.iconst 0, 1) := by decide +kernel
theorem d_Mo_partAt_27 : decode prog_10_method_31_code 27 = .ok (.istore_n 3, 1) := by decide +kernel
theorem d_Mo_partAt_28 : decode prog_10_method_31_code 28 = .ok (.iload_n 3, 1) := by decide +kernel
theorem d_Mo_partAt_29 : decode prog_10_method_31_code 29 = .ok (.iconst 1, 1) := by decide +kernel
theorem d_Mo_partAt_30 : decode prog_10_method_31_code 30 = .ok (.iadd, 1) := by decide +kernel
theorem d_Mo_partAt_31 : decode prog_10_method_31_code 31 = .ok (.aload_n 0, 1) := by decide +kernel
theorem d_Mo_partAt_32 : decode prog_10_method_31_code 32 = .ok (.getfield 98, 3) := by decide +kernel
theorem d_Mo_partAt_35 : decode prog_10_method_31_code 35 = .ok (.if_icmp .ge 21, 3) := by decide +kernel
theorem d_Mo_partAt_38 : decode prog_10_method_31_code 38 = .ok (.aload_n 0, 1) := by decide +kernel
theorem d_Mo_partAt_39 : decode prog_10_method_31_code 39 = .ok (.getfield 22, 3) := by decide +kernel
theorem d_Mo_partAt_42 : decode prog_10_method_31_code 42 = .ok (.iload_n 3, 1) := by decide +kernel
theorem d_Mo_partAt_43 : decode prog_10_method_31_code 43 = .ok (.iconst 1, 1) := by decide +kernel
theorem d_Mo_partAt_44 : decode prog_10_method_31_code 44 = .ok (.iadd, 1) := by decide +kernel
theorem d_Mo_partAt_45 : decode prog_10_method_31_code 45 = .ok (.iaload, 1) := by decide +kernel
theorem d_Mo_partAt_46 : decode prog_10_method_31_code 46 = .ok (.iload_n 2, 1) := by decide +kernel
theorem d_Mo_partAt_47 : decode prog_10_method_31_code 47 = .ok (.if_icmp .gt 9, 3) := by decide +kernel
theorem d_Mo_partAt_50 : decode prog_10_method_31_code 50 = .ok (.iinc 3 1, 3) := by decide +kernel
theorem d_Mo_partAt_53 : decode prog_10_method_31_code 53 = .ok (.goto (-25), 3) := by decide +kernel
theorem d_Mo_partAt_56 : decode prog_10_method_31_code 56 = .ok (.iload_n 3, 1) := by decide +kernel
theorem d_Mo_partAt_57 : decode prog_10_method_31_code 57 = .ok (.ireturn, 1) := by decide +kernel
theorem d_Mo_parting_0 : decode prog_10_method_32_code 0 = .ok (.iload_n 1, 1) := by decide +kernel
theorem d_Mo_parting_1 : decode prog_10_method_32_code 1 = .ok (.iconst 0, 1) := by decide +kernel
theorem d_Mo_parting_2 : decode prog_10_method_32_code 2 = .ok (.iconst 2, 1) := by decide +kernel
theorem d_Mo_parting_3 : decode prog_10_method_32_code 3 = .ok (.invokestatic 53, 3) := by decide +kernel
theorem d_Mo_parting_6 : decode prog_10_method_32_code 6 = .ok (.ifCond .eq 12, 3) := by decide +kernel
theorem d_Mo_parting_9 : decode prog_10_method_32_code 9 = .ok (.iload_n 2, 1) := by decide +kernel
theorem d_Mo_parting_10 : decode prog_10_method_32_code 10 = .ok (.iconst 0, 1) := by decide +kernel
theorem d_Mo_parting_11 : decode prog_10_method_32_code 11 = .ok (.iconst 2, 1) := by decide +kernel
theorem d_Mo_parting_12 : decode prog_10_method_32_code 12 = .ok (.invokestatic 53, 3) := by decide +kernel
theorem d_Mo_parting_15 : decode prog_10_method_32_code 15 = .ok (.ifCond .ne 7, 3) := by decide +kernel
theorem d_Mo_parting_18 : decode prog_10_method_32_code 18 = .ok (.sipush (-10001), 3) := by decide +kernel
theorem d_Mo_parting_21 : decode prog_10_method_32_code 21 = .ok (.ireturn, 1) := by decide +kernel
theorem d_Mo_parting_22 : decode prog_10_method_32_code 22 = .ok (.aload_n 0, 1) := by decide +kernel
theorem d_Mo_parting_23 : decode prog_10_method_32_code 23 = .ok (.iload_n 1, 1) := by decide +kernel
theorem d_Mo_parting_24 : decode prog_10_method_32_code 24 = .ok (.invokevirtual 104, 3) := by decide +kernel
theorem d_Mo_parting_27 : decode prog_10_method_32_code 27 = .ok (.aload_n 0, 1) := by decide +kernel
theorem d_Mo_parting_28 : decode prog_10_method_32_code 28 = .ok (.getfield 98, 3) := by decide +kernel
theorem d_Mo_parting_31 : decode prog_10_method_32_code 31 = .ok (.istore_n 3, 1) := by decide +kernel
theorem d_Mo_parting_32 : decode prog_10_method_32_code 32 = .ok (.iconst 0, 1) := by decide +kernel
theorem d_Mo_parting_33 : decode prog_10_method_32_code 33 = .ok (.istore 4, 2) := by decide +kernel
theorem d_Mo_parting_35 : decode prog_10_method_32_code 35 = .ok (.iload 4, 2) := by decide +kernel
theorem d_Mo_parting_37 : decode prog_10_method_32_code 37 = .ok (.iload_n 3, 1) := by decide +kernel
theorem d_Mo_parting_38 : decode prog_10_method_32_code 38 = .ok (.if_icmp .ge 37, 3) := by decide +kernel
theorem d_Mo_parting_41 : decode prog_10_method_32_code 41 = .ok (.aload_n 0, 1) := by decide +kernel
theorem d_Mo_parting_42 : decode prog_10_method_32_code 42 = .ok (.getfield 40, 3) := by decide +kernel
theorem d_Mo_parting_45 : decode prog_10_method_32_code 45 = .ok (.iload 4, 2) := by decide +kernel
theorem d_Mo_parting_47 : decode prog_10_method_32_code 47 = .ok (.aload_n 0, 1) := by decide +kernel
theorem d_Mo_parting_48 : decode prog_10_method_32_code 48 = .ok (.getfield 25, 3) := by decide +kernel
theorem d_Mo_parting_51 : decode prog_10_method_32_code 51 = .ok (.iload 4, 2) := by decide +kernel
theorem d_Mo_parting_53 : decode prog_10_method_32_code 53 = .ok (.iaload, 1) := by decide +kernel
theorem d_Mo_parting_54 : decode prog_10_method_32_code 54 = .ok (.iastore, 1) := by decide +kernel
theorem d_Mo_parting_55 : decode prog_10_method_32_code 55 = .ok (.aload_n 0, 1) := by decide +kernel
theorem d_Mo_parting_56 : decode prog_10_method_32_code 56 = .ok (.getfield 43, 3) := by decide +kernel
theorem d_Mo_parting_59 : decode prog_10_method_32_code 59 = .ok (.iload 4, 2) := by decide +kernel
theorem d_Mo_parting_61 : decode prog_10_method_32_code 61 = .ok (.aload_n 0, 1) := by decide +kernel
theorem d_Mo_parting_62 : decode prog_10_method_32_code 62 = .ok (.getfield 28, 3) := by decide +kernel
theorem d_Mo_parting_65 : decode prog_10_method_32_code 65 = .ok (.iload 4, 2) := by decide +kernel
theorem d_Mo_parting_67 : decode prog_10_method_32_code 67 = .ok (.iaload, 1) := by decide +kernel
theorem d_Mo_parting_68 : decode prog_10_method_32_code 68 = .ok (.iastore, 1) := by decide +kernel
theorem d_Mo_parting_69 : decode prog_10_method_32_code 69 = .ok (.iinc 4 1, 3) := by decide +kernel
theorem d_Mo_parting_72 : decode prog_10_method_32_code 72 = .ok (.goto (-37), 3) := by decide +kernel
theorem d_Mo_parting_75 : decode prog_10_method_32_code 75 = .ok (.aload_n 0, 1) := by decide +kernel
theorem d_Mo_parting_76 : decode prog_10_method_32_code 76 = .ok (.iload_n 2, 1) := by decide +kernel
theorem d_Mo_parting_77 : decode prog_10_method_32_code 77 = .ok (.invokevirtual 104, 3) := by decide +kernel
theorem d_Mo_parting_80 : decode prog_10_method_32_code 80 = .ok (.iconst 0, 1) := by decide +kernel
theorem d_Mo_parting_81 : decode prog_10_method_32_code 81 = .ok (.istore 4, 2) := by decide +kernel
theorem d_Mo_parting_83 : decode prog_10_method_32_code 83 = .ok (.iload 4, 2) := by decide +kernel
theorem d_Mo_parting_85 : decode prog_10_method_32_code 85 = .ok (.iload_n 3, 1) := by decide +kernel
theorem d_Mo_parting_86 : decode prog_10_method_32_code 86 = .ok (.if_icmp .ge 60, 3) := by decide +kernel
theorem d_Mo_parting_89 : decode prog_10_method_32_code 89 = .ok (.iload 4, 2) := by decide +kernel
theorem d_Mo_parting_91 : decode prog_10_method_32_code 91 = .ok (.aload_n 0, 1) := by decide +kernel
theorem d_Mo_parting_92 : decode prog_10_method_32_code 92 = .ok (.getfield 98, 3) := by decide +kernel
theorem d_Mo_parting_95 : decode prog_10_method_32_code 95 = .ok (.if_icmp .ge 51, 3) := by decide +kernel
theorem d_Mo_parting_98 : decode prog_10_method_32_code 98 = .ok (.aload_n 0, 1) := by decide +kernel
theorem d_Mo_parting_99 : decode prog_10_method_32_code 99 = .ok (.getfield 40, 3) := by decide +kernel
theorem d_Mo_parting_102 : decode prog_10_method_32_code 102 = .ok (.iload 4, 2) := by decide +kernel
theorem d_Mo_parting_104 : decode prog_10_method_32_code 104 = .ok (.iaload, 1) := by decide +kernel
theorem d_Mo_parting_105 : decode prog_10_method_32_code 105 = .ok (.aload_n 0, 1) := by decide +kernel
theorem d_Mo_parting_106 : decode prog_10_method_32_code 106 = .ok (.getfield 25, 3) := by decide +kernel
theorem d_Mo_parting_109 : decode prog_10_method_32_code 109 = .ok (.iload 4, 2) := by decide +kernel
theorem d_Mo_parting_111 : decode prog_10_method_32_code 111 = .ok (.iaload, 1) := by decide +kernel
theorem d_Mo_parting_112 : decode prog_10_method_32_code 112 = .ok (.if_icmp .ne 20, 3) := by decide +kernel
theorem d_Mo_parting_115 : decode prog_10_method_32_code 115 = .ok (.aload_n 0, 1) := by decide +kernel
theorem d_Mo_parting_116 : decode prog_10_method_32_code 116 = .ok (.getfield 43, 3) := by decide +kernel
theorem d_Mo_parting_119 : decode prog_10_method_32_code 119 = .ok (.iload 4, 2) := by decide +kernel
theorem d_Mo_parting_121 : decode prog_10_method_32_code 121 = .ok (.iaload, 1) := by decide +kernel
theorem d_Mo_parting_122 : decode prog_10_method_32_code 122 = .ok (.aload_n 0, 1) := by decide +kernel
theorem d_Mo_parting_123 : decode prog_10_method_32_code 123 = .ok (.getfield 28, 3) := by decide +kernel
theorem d_Mo_parting_126 : decode prog_10_method_32_code 126 = .ok (.iload 4, 2) := by decide +kernel
theorem d_Mo_parting_128 : decode prog_10_method_32_code 128 = .ok (.iaload, 1) := by decide +kernel
theorem d_Mo_parting_129 : decode prog_10_method_32_code 129 = .ok (.if_icmp .eq 11, 3) := by decide +kernel
theorem d_Mo_parting_132 : decode prog_10_method_32_code 132 = .ok (.aload_n 0, 1) := by decide +kernel
theorem d_Mo_parting_133 : decode prog_10_method_32_code 133 = .ok (.getfield 22, 3) := by decide +kernel
theorem d_Mo_parting_136 : decode prog_10_method_32_code 136 = .ok (.iload 4, 2) := by decide +kernel
theorem d_Mo_parting_138 : decode prog_10_method_32_code 138 = .ok (.iaload, 1) := by decide +kernel
theorem d_Mo_parting_139 : decode prog_10_method_32_code 139 = .ok (.ireturn, 1) := by decide +kernel
theorem d_Mo_parting_140 : decode prog_10_method_32_code 140 = .ok (.iinc 4 1, 3) := by decide +kernel
theorem d_Mo_parting_143 : decode prog_10_method_32_code 143 = .ok (.goto (-60), 3) := by decide +kernel
theorem d_Mo_parting_146 : decode prog_10_method_32_code 146 = .ok (.sipush (-10004), 3) := by decide +kernel
theorem d_Mo_parting_149 : decode prog_10_method_32_code 149 = .ok (.ireturn, 1) := by decide +kernel
theorem d_Mo_stretch_0 : decode prog_10_method_33_code 0 = .ok (.iconst 0, 1) := by decide +kernel
theorem d_Mo_stretch_1 : decode prog_10_method_33_code 1 = .ok (.istore_n 3, 1) := by decide +kernel
theorem d_Mo_stretch_2 : decode prog_10_method_33_code 2 = .ok (.iload_n 2, 1) := by decide +kernel
theorem d_Mo_stretch_3 : decode prog_10_method_33_code 3 = .ok (.iload_n 3, 1) := by decide +kernel
theorem d_Mo_stretch_4 : decode prog_10_method_33_code 4 = .ok (.iadd, 1) := by decide +kernel
theorem d_Mo_stretch_5 : decode prog_10_method_33_code 5 = .ok (.aload_n 0, 1) := by decide +kernel
theorem d_Mo_stretch_6 : decode prog_10_method_33_code 6 = .ok (.getfield 7, 3) := by decide +kernel
theorem d_Mo_stretch_9 : decode prog_10_method_33_code 9 = .ok (.iconst 0, 1) := by decide +kernel
theorem d_Mo_stretch_10 : decode prog_10_method_33_code 10 = .ok (.iaload, 1) := by decide +kernel
theorem d_Mo_stretch_11 : decode prog_10_method_33_code 11 = .ok (.if_icmp .ge 34, 3) := by decide +kernel
theorem d_Mo_stretch_14 : decode prog_10_method_33_code 14 = .ok (.aload_n 0, 1) := by decide +kernel
theorem d_Mo_stretch_15 : decode prog_10_method_33_code 15 = .ok (.getfield 7, 3) := by decide +kernel
theorem d_Mo_stretch_18 : decode prog_10_method_33_code 18 = .ok (.bipush 6, 2) := by decide +kernel
theorem d_Mo_stretch_20 : decode prog_10_method_33_code 20 = .ok (.iload_n 1, 1) := by decide +kernel
theorem d_Mo_stretch_21 : decode prog_10_method_33_code 21 = .ok (.iadd, 1) := by decide +kernel
theorem d_Mo_stretch_22 : decode prog_10_method_33_code 22 = .ok (.iload_n 3, 1) := by decide +kernel
theorem d_Mo_stretch_23 : decode prog_10_method_33_code 23 = .ok (.iadd, 1) := by decide +kernel
theorem d_Mo_stretch_24 : decode prog_10_method_33_code 24 = .ok (.iaload, 1) := by decide +kernel
theorem d_Mo_stretch_25 : decode prog_10_method_33_code 25 = .ok (.aload_n 0, 1) := by decide +kernel
theorem d_Mo_stretch_26 : decode prog_10_method_33_code 26 = .ok (.getfield 7, 3) := by decide +kernel
theorem d_Mo_stretch_29 : decode prog_10_method_33_code 29 = .ok (.bipush 6, 2) := by decide +kernel
theorem d_Mo_stretch_31 : decode prog_10_method_33_code 31 = .ok (.iload_n 2, 1) := by decide +kernel
theorem d_Mo_stretch_32 : decode prog_10_method_33_code 32 = .ok (.iadd, 1) := by decide +kernel
theorem d_Mo_stretch_33 : decode prog_10_method_33_code 33 = .ok (.iload_n 3, 1) := by decide +kernel
theorem d_Mo_stretch_34 : decode prog_10_method_33_code 34 = .ok (.iadd, 1) := by decide +kernel
theorem d_Mo_stretch_35 : decode prog_10_method_33_code 35 = .ok (.iaload, 1) := by decide +kernel
theorem d_Mo_stretch_36 : decode prog_10_method_33_code 36 = .ok (.if_icmp .ne 9, 3) := by decide +kernel
theorem d_Mo_stretch_39 : decode prog_10_method_33_code 39 = .ok (.iinc 3 1, 3) := by decide +kernel
theorem d_Mo_stretch_42 : decode prog_10_method_33_code 42 = .ok (.goto (-40), 3) := by decide +kernel
theorem d_Mo_stretch_45 : decode prog_10_method_33_code 45 = .ok (.iload_n 3, 1) := by decide +kernel
theorem d_Mo_stretch_46 : decode prog_10_method_33_code 46 = .ok (.ireturn, 1) := by decide +kernel
theorem d_Mo_repeat_0 : decode prog_10_method_34_code 0 = .ok (.iload_n 1, 1) := by decide +kernel
theorem d_Mo_repeat_1 : decode prog_10_method_34_code 1 = .ok (.iconst 0, 1) := by decide +kernel
theorem d_Mo_repeat_2 : decode prog_10_method_34_code 2 = .ok (.iconst 2, 1) := by decide +kernel
theorem d_Mo_repeat_3 : decode prog_10_method_34_code 3 = .ok (.invokestatic 53, 3) := by decide +kernel
theorem d_Mo_repeat_6 : decode prog_10_method_34_code 6 = .ok (.ifCond .ne 7, 3) := by decide +kernel
theorem d_Mo_repeat_9 : decode prog_10_method_34_code 9 = .ok (.sipush (-10001), 3) := by decide +kernel
theorem d_Mo_repeat_12 : decode prog_10_method_34_code 12 = .ok (.ireturn, 1) := by decide +kernel
theorem d_Mo_repeat_13 : decode prog_10_method_34_code 13 = .ok (.iconst 0, 1) := by decide +kernel
theorem d_Mo_repeat_14 : decode prog_10_method_34_code 14 = .ok (.istore_n 2, 1) := by decide +kernel
theorem d_Mo_repeat_15 : decode prog_10_method_34_code 15 = .ok (.iconst 0, 1) := by decide +kernel
theorem d_Mo_repeat_16 : decode prog_10_method_34_code 16 = .ok (.istore_n 3, 1) := by decide +kernel
theorem d_Mo_repeat_17 : decode prog_10_method_34_code 17 = .ok (.iconst 0, 1) := by decide +kernel
theorem d_Mo_repeat_18 : decode prog_10_method_34_code 18 = .ok (.istore 4, 2) := by decide +kernel
theorem d_Mo_repeat_20 : decode prog_10_method_34_code 20 = .ok (.iconst 1, 1) := by decide +kernel
theorem d_Mo_repeat_21 : decode prog_10_method_34_code 21 = .ok (.istore 5, 2) := by decide +kernel
theorem d_Mo_repeat_23 : decode prog_10_method_34_code 23 = .ok (.iload 5, 2) := by decide +kernel
theorem d_Mo_repeat_25 : decode prog_10_method_34_code 25 = .ok (.aload_n 0, 1) := by decide +kernel
theorem d_Mo_repeat_26 : decode prog_10_method_34_code 26 = .ok (.getfield 7, 3) := by decide +kernel
theorem d_Mo_repeat_29 : decode prog_10_method_34_code 29 = .ok (.iconst 0, 1) := by decide +kernel
theorem d_Mo_repeat_30 : decode prog_10_method_34_code 30 = .ok (.iaload, 1) := by decide +kernel
theorem d_Mo_repeat_31 : decode prog_10_method_34_code 31 = .ok (.if_icmp .ge 76, 3) := by decide +kernel
theorem d_Mo_repeat_34 : decode prog_10_method_34_code 34 = .ok (.iconst 0, 1) := by decide +kernel
theorem d_Mo_repeat_35 : decode prog_10_method_34_code 35 = .ok (.istore 6, 2) := by decide +kernel
theorem d_Mo_repeat_37 : decode prog_10_method_34_code 37 = .ok (.iload 6, 2) := by decide +kernel
theorem d_Mo_repeat_39 : decode prog_10_method_34_code 39 = .ok (.iload 5, 2) := by decide +kernel
theorem d_Mo_repeat_41 : decode prog_10_method_34_code 41 = .ok (.if_icmp .ge 60, 3) := by decide +kernel
theorem d_Mo_repeat_44 : decode prog_10_method_34_code 44 = .ok (.aload_n 0, 1) := by decide +kernel
theorem d_Mo_repeat_45 : decode prog_10_method_34_code 45 = .ok (.iload 6, 2) := by decide +kernel
theorem d_Mo_repeat_47 : decode prog_10_method_34_code 47 = .ok (.iload 5, 2) := by decide +kernel
theorem d_Mo_repeat_49 : decode prog_10_method_34_code 49 = .ok (.invokevirtual 113, 3) := by decide +kernel
theorem d_Mo_repeat_52 : decode prog_10_method_34_code 52 = .ok (.istore 7, 2) := by decide +kernel
theorem d_Mo_repeat_54 : decode prog_10_method_34_code 54 = .ok (.iload 7, 2) := by decide +kernel
theorem d_Mo_repeat_56 : decode prog_10_method_34_code 56 = .ok (.iload_n 2, 1) := by decide +kernel
theorem d_Mo_repeat_57 : decode prog_10_method_34_code 57 = .ok (.if_icmp .le 8, 3) := by decide +kernel
theorem d_Mo_repeat_60 : decode prog_10_method_34_code 60 = .ok (.iload 6, 2) := by decide +kernel
theorem d_Mo_repeat_62 : decode prog_10_method_34_code 62 = .ok (.goto 4, 3) := by decide +kernel
theorem d_Mo_repeat_65 : decode prog_10_method_34_code 65 = .ok (.iload_n 3, 1) := by decide +kernel
theorem d_Mo_repeat_66 : decode prog_10_method_34_code 66 = .ok (.istore_n 3, 1) := by decide +kernel
theorem d_Mo_repeat_67 : decode prog_10_method_34_code 67 = .ok (.iload 7, 2) := by decide +kernel
theorem d_Mo_repeat_69 : decode prog_10_method_34_code 69 = .ok (.iload_n 2, 1) := by decide +kernel
theorem d_Mo_repeat_70 : decode prog_10_method_34_code 70 = .ok (.if_icmp .le 8, 3) := by decide +kernel
theorem d_Mo_repeat_73 : decode prog_10_method_34_code 73 = .ok (.iload 5, 2) := by decide +kernel
theorem d_Mo_repeat_75 : decode prog_10_method_34_code 75 = .ok (.goto 5, 3) := by decide +kernel
theorem d_Mo_repeat_78 : decode prog_10_method_34_code 78 = .ok (.iload 4, 2) := by decide +kernel
theorem d_Mo_repeat_80 : decode prog_10_method_34_code 80 = .ok (.istore 4, 2) := by decide +kernel
theorem d_Mo_repeat_82 : decode prog_10_method_34_code 82 = .ok (.iload 7, 2) := by decide +kernel
theorem d_Mo_repeat_84 : decode prog_10_method_34_code 84 = .ok (.iload_n 2, 1) := by decide +kernel
theorem d_Mo_repeat_85 : decode prog_10_method_34_code 85 = .ok (.if_icmp .le 8, 3) := by decide +kernel
theorem d_Mo_repeat_88 : decode prog_10_method_34_code 88 = .ok (.iload 7, 2) := by decide +kernel
theorem d_Mo_repeat_90 : decode prog_10_method_34_code 90 = .ok (.goto 4, 3) := by decide +kernel
theorem d_Mo_repeat_93 : decode prog_10_method_34_code 93 = .ok (.iload_n 2, 1) := by decide +kernel
theorem d_Mo_repeat_94 : decode prog_10_method_34_code 94 = .ok (.istore_n 2, 1) := by decide +kernel
theorem d_Mo_repeat_95 : decode prog_10_method_34_code 95 = .ok (.iinc 6 1, 3) := by decide +kernel
theorem d_Mo_repeat_98 : decode prog_10_method_34_code 98 = .ok (.goto (-61), 3) := by decide +kernel
theorem d_Mo_repeat_101 : decode prog_10_method_34_code 101 = .ok (.iinc 5 1, 3) := by decide +kernel
theorem d_Mo_repeat_104 : decode prog_10_method_34_code 104 = .ok (.goto (-81), 3) := by decide +kernel
theorem d_Mo_repeat_107 : decode prog_10_method_34_code 107 = .ok (.iload_n 2, 1) := by decide +kernel
theorem d_Mo_repeat_108 : decode prog_10_method_34_code 108 = .ok (.ifCond .ne 9, 3) := by decide +kernel
theorem d_Mo_repeat_111 : decode prog_10_method_34_code 111 = .ok (.sipush (-10004), 3) := by decide +kernel
theorem d_Mo_repeat_114 : decode prog_10_method_34_code 114 = .ok (.goto 22, 3) := by decide +kernel
theorem d_Mo_repeat_117 : decode prog_10_method_34_code 117 = .ok (.iload_n 1, 1) := by decide +kernel
theorem d_Mo_repeat_118 : decode prog_10_method_34_code 118 = .ok (.ifCond .ne 7, 3) := by decide +kernel
theorem d_Mo_repeat_121 : decode prog_10_method_34_code 121 = .ok (.iload_n 2, 1) := by decide +kernel
theorem d_Mo_repeat_122 : decode prog_10_method_34_code 122 = .ok (.goto 14, 3) := by decide +kernel
theorem d_Mo_repeat_125 : decode prog_10_method_34_code 125 = .ok (.iload_n 1, 1) := by decide +kernel
theorem d_Mo_repeat_126 : decode prog_10_method_34_code 126 = .ok (.iconst 1, 1) := by decide +kernel
theorem d_Mo_repeat_127 : decode prog_10_method_34_code 127 = .ok (.if_icmp .ne 7, 3) := by decide +kernel
theorem d_Mo_repeat_130 : decode prog_10_method_34_code 130 = .ok (.iload_n 3, 1) := by decide +kernel
theorem d_Mo_repeat_131 : decode prog_10_method_34_code 131 = .ok (.goto 5, 3) := by decide +kernel
theorem d_Mo_repeat_134 : decode prog_10_method_34_code 134 = .ok (.iload 4, 2) := by decide +kernel
theorem d_Mo_repeat_136 : decode prog_10_method_34_code 136 = .ok (.ireturn, 1) := by decide +kernel
theorem d_Mo_unlike_0 : decode prog_10_method_35_code 0 = .ok (.iconst 0, 1) := by decide +kernel
theorem d_Mo_unlike_1 : decode prog_10_method_35_code 1 = .ok (.istore_n 1, 1) := by decide +kernel
theorem d_Mo_unlike_2 : decode prog_10_method_35_code 2 = .ok (.iconst 0, 1) := by decide +kernel
theorem d_Mo_unlike_3 : decode prog_10_method_35_code 3 = .ok (.istore_n 2, 1) := by decide +kernel
theorem d_Mo_unlike_4 : decode prog_10_method_35_code 4 = .ok (.iconst 0, 1) := by decide +kernel
theorem d_Mo_unlike_5 : decode prog_10_method_35_code 5 = .ok (.istore_n 3, 1) := by decide +kernel
theorem d_Mo_unlike_6 : decode prog_10_method_35_code 6 = .ok (.iload_n 3, 1) := by decide +kernel
theorem d_Mo_unlike_7 : decode prog_10_method_35_code 7 = .ok (.aload_n 0, 1) := by decide +kernel
theorem d_Mo_unlike_8 : decode prog_10_method_35_code 8 = .ok (.getfield 7, 3) := by decide +kernel
theorem d_Mo_unlike_11 : decode prog_10_method_35_code 11 = .ok (.iconst 0, 1) := by decide +kernel
theorem d_Mo_unlike_12 : decode prog_10_method_35_code 12 = .ok (.iaload, 1) := by decide +kernel
theorem d_Mo_unlike_13 : decode prog_10_method_35_code 13 = .ok (.if_icmp .ge 47, 3) := by decide +kernel
theorem d_Mo_unlike_16 : decode prog_10_method_35_code 16 = .ok (.iload_n 2, 1) := by decide +kernel
theorem d_Mo_unlike_17 : decode prog_10_method_35_code 17 = .ok (.iload_n 1, 1) := by decide +kernel
theorem d_Mo_unlike_18 : decode prog_10_method_35_code 18 = .ok (.aload_n 0, 1) := by decide +kernel
theorem d_Mo_unlike_19 : decode prog_10_method_35_code 19 = .ok (.getfield 7, 3) := by decide +kernel
theorem d_Mo_unlike_22 : decode prog_10_method_35_code 22 = .ok (.bipush 6, 2) := by decide +kernel
theorem d_Mo_unlike_24 : decode prog_10_method_35_code 24 = .ok (.iload_n 3, 1) := by decide +kernel
theorem d_Mo_unlike_25 : decode prog_10_method_35_code 25 = .ok (.iadd, 1) := by decide +kernel
theorem d_Mo_unlike_26 : decode prog_10_method_35_code 26 = .ok (.iaload, 1) := by decide +kernel
theorem d_Mo_unlike_27 : decode prog_10_method_35_code 27 = .ok (.ishr, 1) := by decide +kernel
theorem d_Mo_unlike_28 : decode prog_10_method_35_code 28 = .ok (.iconst 1, 1) := by decide +kernel
theorem d_Mo_unlike_29 : decode prog_10_method_35_code 29 = .ok (.iand, 1) := by decide +kernel
theorem d_Mo_unlike_30 : decode prog_10_method_35_code 30 = .ok (.ifCond .ne 7, 3) := by decide +kernel
theorem d_Mo_unlike_33 : decode prog_10_method_35_code 33 = .ok (.iconst 1, 1) := by decide +kernel
theorem d_Mo_unlike_34 : decode prog_10_method_35_code 34 = .ok (.goto 4, 3) := by decide +kernel
theorem d_Mo_unlike_37 : decode prog_10_method_35_code 37 = .ok (.iconst 0, 1) := by decide +kernel
theorem d_Mo_unlike_38 : decode prog_10_method_35_code 38 = .ok (.iadd, 1) := by decide +kernel
theorem d_Mo_unlike_39 : decode prog_10_method_35_code 39 = .ok (.istore_n 2, 1) := by decide +kernel
theorem d_Mo_unlike_40 : decode prog_10_method_35_code 40 = .ok (.iload_n 1, 1) := by decide +kernel
theorem d_Mo_unlike_41 : decode prog_10_method_35_code 41 = .ok (.iconst 1, 1) := by decide +kernel
theorem d_Mo_unlike_42 : decode prog_10_method_35_code 42 = .ok (.aload_n 0, 1) := by decide +kernel
theorem d_Mo_unlike_43 : decode prog_10_method_35_code 43 = .ok (.getfield 7, 3) := by decide +kernel
theorem d_Mo_unlike_46 : decode prog_10_method_35_code 46 = .ok (.bipush 6, 2) := by decide +kernel
theorem d_Mo_unlike_48 : decode prog_10_method_35_code 48 = .ok (.iload_n 3, 1) := by decide +kernel
theorem d_Mo_unlike_49 : decode prog_10_method_35_code 49 = .ok (.iadd, 1) := by decide +kernel
theorem d_Mo_unlike_50 : decode prog_10_method_35_code 50 = .ok (.iaload, 1) := by decide +kernel
theorem d_Mo_unlike_51 : decode prog_10_method_35_code 51 = .ok (.ishl, 1) := by decide +kernel
theorem d_Mo_unlike_52 : decode prog_10_method_35_code 52 = .ok (.ior, 1) := by decide +kernel
theorem d_Mo_unlike_53 : decode prog_10_method_35_code 53 = .ok (.istore_n 1, 1) := by decide +kernel
theorem d_Mo_unlike_54 : decode prog_10_method_35_code 54 = .ok (.iinc 3 1, 3) := by decide +kernel
theorem d_Mo_unlike_57 : decode prog_10_method_35_code 57 = .ok (.goto (-51), 3) := by decide +kernel
theorem d_Mo_unlike_60 : decode prog_10_method_35_code 60 = .ok (.iload_n 2, 1) := by decide +kernel
theorem d_Mo_unlike_61 : decode prog_10_method_35_code 61 = .ok (.ireturn, 1) := by decide +kernel
theorem d_Mo_cheapest_0 : decode prog_10_method_36_code 0 = .ok (.aload_n 0, 1) := by decide +kernel
theorem d_Mo_cheapest_1 : decode prog_10_method_36_code 1 = .ok (.iconst 1, 1) := by decide +kernel
theorem d_Mo_cheapest_2 : decode prog_10_method_36_code 2 = .ok (.invokevirtual 110, 3) := by decide +kernel
theorem d_Mo_cheapest_5 : decode prog_10_method_36_code 5 = .ok (.aload_n 0, 1) := by decide +kernel
theorem d_Mo_cheapest_6 : decode prog_10_method_36_code 6 = .ok (.iconst 0, 1) := by decide +kernel
theorem d_Mo_cheapest_7 : decode prog_10_method_36_code 7 = .ok (.invokevirtual 110, 3) := by decide +kernel
theorem d_Mo_cheapest_10 : decode prog_10_method_36_code 10 = .ok (.if_icmp .ge 7, 3) := by decide +kernel
theorem d_Mo_cheapest_13 : decode prog_10_method_36_code 13 = .ok (.iconst 1, 1) := by decide +kernel
theorem d_Mo_cheapest_14 : decode prog_10_method_36_code 14 = .ok (.goto 4, 3) := by decide +kernel
theorem d_Mo_cheapest_17 : decode prog_10_method_36_code 17 = .ok (.iconst 0, 1) := by decide +kernel
theorem d_Mo_cheapest_18 : decode prog_10_method_36_code 18 = .ok (.istore_n 1, 1) := by decide +kernel
theorem d_Mo_cheapest_19 : decode prog_10_method_36_code 19 = .ok (.aload_n 0, 1) := by decide +kernel
theorem d_Mo_cheapest_20 : decode prog_10_method_36_code 20 = .ok (.iconst 2, 1) := by decide +kernel
theorem d_Mo_cheapest_21 : decode prog_10_method_36_code 21 = .ok (.invokevirtual 110, 3) := by decide +kernel
theorem d_Mo_cheapest_24 : decode prog_10_method_36_code 24 = .ok (.aload_n 0, 1) := by decide +kernel
theorem d_Mo_cheapest_25 : decode prog_10_method_36_code 25 = .ok (.iload_n 1, 1) := by decide +kernel
theorem d_Mo_cheapest_26 : decode prog_10_method_36_code 26 = .ok (.invokevirtual 110, 3) := by decide +kernel
theorem d_Mo_cheapest_29 : decode prog_10_method_36_code 29 = .ok (.if_icmp .ge 7, 3) := by decide +kernel
theorem d_Mo_cheapest_32 : decode prog_10_method_36_code 32 = .ok (.iconst 2, 1) := by decide +kernel
theorem d_Mo_cheapest_33 : decode prog_10_method_36_code 33 = .ok (.goto 4, 3) := by decide +kernel
theorem d_Mo_cheapest_36 : decode prog_10_method_36_code 36 = .ok (.iload_n 1, 1) := by decide +kernel
theorem d_Mo_cheapest_37 : decode prog_10_method_36_code 37 = .ok (.ireturn, 1) := by decide +kernel
theorem d_Mo_count_0 : decode prog_10_method_37_code 0 = .ok (.iload_n 1, 1) := by decide +kernel
theorem d_Mo_count_1 : decode prog_10_method_37_code 1 = .ok (.tableswitch 79 0 5 #[39, 46, 51, 56, 61, 66], 39) := by decide +kernel
theorem d_Mo_count_40 : decode prog_10_method_37_code 40 = .ok (.aload_n 0, 1) := by decide +kernel
theorem d_Mo_count_41 : decode prog_10_method_37_code 41 = .ok (.getfield 7, 3) := by decide +kernel
theorem d_Mo_count_44 : decode prog_10_method_37_code 44 = .ok (.iconst 0, 1) := by decide +kernel
theorem d_Mo_count_45 : decode prog_10_method_37_code 45 = .ok (.iaload, 1) := by decide +kernel
theorem d_Mo_count_46 : decode prog_10_method_37_code 46 = .ok (.ireturn, 1) := by decide +kernel
theorem d_Mo_count_47 : decode prog_10_method_37_code 47 = .ok (.aload_n 0, 1) := by decide +kernel
theorem d_Mo_count_48 : decode prog_10_method_37_code 48 = .ok (.invokevirtual 116, 3) := by decide +kernel
theorem d_Mo_count_51 : decode prog_10_method_37_code 51 = .ok (.ireturn, 1) := by decide +kernel
theorem d_Mo_count_52 : decode prog_10_method_37_code 52 = .ok (.aload_n 0, 1) := by decide +kernel
theorem d_Mo_count_53 : decode prog_10_method_37_code 53 = .ok (.invokevirtual 120, 3) := by decide +kernel
theorem d_Mo_count_56 : decode prog_10_method_37_code 56 = .ok (.ireturn, 1) := by decide +kernel
theorem d_Mo_count_57 : decode prog_10_method_37_code 57 = .ok (.aload_n 0, 1) := by decide +kernel
theorem d_Mo_count_58 : decode prog_10_method_37_code 58 = .ok (.getfield 49, 3) := by decide +kernel
theorem d_Mo_count_61 : decode prog_10_method_37_code 61 = .ok (.ireturn, 1) := by decide +kernel
theorem d_Mo_count_62 : decode prog_10_method_37_code 62 = .ok (.aload_n 0, 1) := by decide +kernel
theorem d_Mo_count_63 : decode prog_10_method_37_code 63 = .ok (.getfield 123, 3) := by decide +kernel
theorem d_Mo_count_66 : decode prog_10_method_37_code 66 = .ok (.ireturn, 1) := by decide +kernel
theorem d_Mo_count_67 : decode prog_10_method_37_code 67 = .ok (.aload_n 0, 1) := by decide +kernel
theorem d_Mo_count_68 : decode prog_10_method_37_code 68 = .ok (.getfield 126, 3) := by decide +kernel
theorem d_Mo_count_71 : decode prog_10_method_37_code 71 = .ok (.ifCond .eq 7, 3) := by decide +kernel
theorem d_Mo_count_74 : decode prog_10_method_37_code 74 = .ok (.iconst 1, 1) := by decide +kernel
theorem d_Mo_count_75 : decode prog_10_method_37_code 75 = .ok (.goto 4, 3) := by decide +kernel
theorem d_Mo_count_78 : decode prog_10_method_37_code 78 = .ok (.iconst 0, 1) := by decide +kernel
theorem d_Mo_count_79 : decode prog_10_method_37_code 79 = .ok (.ireturn, 1) := by decide +kernel
theorem d_Mo_count_80 : decode prog_10_method_37_code 80 = .ok (.iload_n 1, 1) := by decide +kernel
theorem d_Mo_count_81 : decode prog_10_method_37_code 81 = .ok (.bipush 10, 2) := by decide +kernel
theorem d_Mo_count_83 : decode prog_10_method_37_code 83 = .ok (.bipush 14, 2) := by decide +kernel
theorem d_Mo_count_85 : decode prog_10_method_37_code 85 = .ok (.invokestatic 53, 3) := by decide +kernel
theorem d_Mo_count_88 : decode prog_10_method_37_code 88 = .ok (.ifCond .eq 17, 3) := by decide +kernel
theorem d_Mo_count_91 : decode prog_10_method_37_code 91 = .ok (.aload_n 0, 1) := by decide +kernel
theorem d_Mo_count_92 : decode prog_10_method_37_code 92 = .ok (.getfield 7, 3) := by decide +kernel
theorem d_Mo_count_95 : decode prog_10_method_37_code 95 = .ok (.iconst 1, 1) := by decide +kernel
theorem d_Mo_count_96 : decode prog_10_method_37_code 96 = .ok (.iload_n 1, 1) := by decide +kernel
theorem d_Mo_count_97 : decode prog_10_method_37_code 97 = .ok (.iadd, 1) := by decide +kernel
theorem d_Mo_count_98 : decode prog_10_method_37_code 98 = .ok (.bipush 10, 2) := by decide +kernel
theorem d_Mo_count_100 : decode prog_10_method_37_code 100 = .ok (.isub, 1) := by decide +kernel
theorem d_Mo_count_101 : decode prog_10_method_37_code 101 = .ok (.iaload, 1) := by decide +kernel
theorem d_Mo_count_102 : decode prog_10_method_37_code 102 = .ok (.goto 6, 3) := by decide +kernel
theorem d_Mo_count_105 : decode prog_10_method_37_code 105 = .ok (.sipush (-10001), 3) := by decide +kernel
theorem d_Mo_count_108 : decode prog_10_method_37_code 108 = .ok (.ireturn, 1) := by decide +kernel
theorem d_Mo_keep_0 : decode prog_10_method_38_code 0 = .ok (.aload_n 0, 1) := by decide +kernel
theorem d_Mo_keep_1 : decode prog_10_method_38_code 1 = .ok (.getfield 7, 3) := by decide +kernel
theorem d_Mo_keep_4 : decode prog_10_method_38_code 4 = .ok (.aload_n 0, 1) := by decide +kernel
theorem d_Mo_keep_5 : decode prog_10_method_38_code 5 = .ok (.getfield 16, 3) := by decide +kernel
theorem d_Mo_keep_8 : decode prog_10_method_38_code 8 = .ok (.invokestatic 130, 3) := by decide +kernel
theorem d_Mo_keep_11 : decode prog_10_method_38_code 11 = .ok (.aload_n 0, 1) := by decide +kernel
theorem d_Mo_keep_12 : decode prog_10_method_38_code 12 = .ok (.iconst 1, 1) := by decide +kernel
theorem d_Mo_keep_13 : decode prog_10_method_38_code 13 = .ok (.putfield 126, 3) := by decide +kernel
theorem d_Mo_keep_16 : decode prog_10_method_38_code 16 = .ok (.aload_n 0, 1) := by decide +kernel
theorem d_Mo_keep_17 : decode prog_10_method_38_code 17 = .ok (.getfield 7, 3) := by decide +kernel
theorem d_Mo_keep_20 : decode prog_10_method_38_code 20 = .ok (.iconst 0, 1) := by decide +kernel
theorem d_Mo_keep_21 : decode prog_10_method_38_code 21 = .ok (.iaload, 1) := by decide +kernel
theorem d_Mo_keep_22 : decode prog_10_method_38_code 22 = .ok (.ireturn, 1) := by decide +kernel
theorem d_Mo_restore_0 : decode prog_10_method_39_code 0 = .ok (.aload_n 0, 1) := by decide +kernel
theorem d_Mo_restore_1 : decode prog_10_method_39_code 1 = .ok (.getfield 126, 3) := by decide +kernel
theorem d_Mo_restore_4 : decode prog_10_method_39_code 4 = .ok (.ifCond .ne 7, 3) := by decide +kernel
theorem d_Mo_restore_7 : decode prog_10_method_39_code 7 = .ok (.sipush (-10002), 3) := by decide +kernel
theorem d_Mo_restore_10 : decode prog_10_method_39_code 10 = .ok (.ireturn, 1) := by decide +kernel
theorem d_Mo_restore_11 : decode prog_10_method_39_code 11 = .ok (.aload_n 0, 1) := by decide +kernel
theorem d_Mo_restore_12 : decode prog_10_method_39_code 12 = .ok (.invokevirtual 57, 3) := by decide +kernel
theorem d_Mo_restore_15 : decode prog_10_method_39_code 15 = .ok (.aload_n 0, 1) := by decide +kernel
theorem d_Mo_restore_16 : decode prog_10_method_39_code 16 = .ok (.getfield 16, 3) := by decide +kernel
theorem d_Mo_restore_19 : decode prog_10_method_39_code 19 = .ok (.aload_n 0, 1) := by decide +kernel
theorem d_Mo_restore_20 : decode prog_10_method_39_code 20 = .ok (.getfield 7, 3) := by decide +kernel
theorem d_Mo_restore_23 : decode prog_10_method_39_code 23 = .ok (.invokestatic 130, 3) := by decide +kernel
theorem d_Mo_restore_26 : decode prog_10_method_39_code 26 = .ok (.aload_n 0, 1) := by decide +kernel
theorem d_Mo_restore_27 : decode prog_10_method_39_code 27 = .ok (.getfield 7, 3) := by decide +kernel
theorem d_Mo_restore_30 : decode prog_10_method_39_code 30 = .ok (.iconst 0, 1) := by decide +kernel
theorem d_Mo_restore_31 : decode prog_10_method_39_code 31 = .ok (.iaload, 1) := by decide +kernel
theorem d_Mo_restore_32 : decode prog_10_method_39_code 32 = .ok (.ireturn, 1) := by decide +kernel
theorem d_Mo_undo_0 : decode prog_10_method_40_code 0 = .ok (.aload_n 0, 1) := by decide +kernel
theorem d_Mo_undo_1 : decode prog_10_method_40_code 1 = .ok (.getfield 49, 3) := by decide +kernel
theorem d_Mo_undo_4 : decode prog_10_method_40_code 4 = .ok (.ifCond .ne 7, 3) := by decide +kernel
theorem d_Mo_undo_7 : decode prog_10_method_40_code 7 = .ok (.sipush (-10002), 3) := by decide +kernel
theorem d_Mo_undo_10 : decode prog_10_method_40_code 10 = .ok (.ireturn, 1) := by decide +kernel
theorem d_Mo_undo_11 : decode prog_10_method_40_code 11 = .ok (.aload_n 0, 1) := by decide +kernel
theorem d_Mo_undo_12 : decode prog_10_method_40_code 12 = .ok (.dup, 1) := by decide +kernel
theorem d_Mo_undo_13 : decode prog_10_method_40_code 13 = .ok (.getfield 49, 3) := by decide +kernel
theorem d_Mo_undo_16 : decode prog_10_method_40_code 16 = .ok (.iconst 1, 1) := by decide +kernel
theorem d_Mo_undo_17 : decode prog_10_method_40_code 17 = .ok (.isub, 1) := by decide +kernel
theorem d_Mo_undo_18 : decode prog_10_method_40_code 18 = .ok (.putfield 49, 3) := by decide +kernel
theorem d_Mo_undo_21 : decode prog_10_method_40_code 21 = .ok (.iconst 0, 1) := by decide +kernel
theorem d_Mo_undo_22 : decode prog_10_method_40_code 22 = .ok (.istore_n 1, 1) := by decide +kernel
theorem d_Mo_undo_23 : decode prog_10_method_40_code 23 = .ok (.iload_n 1, 1) := by decide +kernel
theorem d_Mo_undo_24 : decode prog_10_method_40_code 24 = .ok (.bipush 66, 2) := by decide +kernel
theorem d_Mo_undo_26 : decode prog_10_method_40_code 26 = .ok (.if_icmp .ge 29, 3) := by decide +kernel
theorem d_Mo_undo_29 : decode prog_10_method_40_code 29 = .ok (.aload_n 0, 1) := by decide +kernel
theorem d_Mo_undo_30 : decode prog_10_method_40_code 30 = .ok (.getfield 7, 3) := by decide +kernel
theorem d_Mo_undo_33 : decode prog_10_method_40_code 33 = .ok (.iload_n 1, 1) := by decide +kernel
theorem d_Mo_undo_34 : decode prog_10_method_40_code 34 = .ok (.aload_n 0, 1) := by decide +kernel
theorem d_Mo_undo_35 : decode prog_10_method_40_code 35 = .ok (.getfield 13, 3) := by decide +kernel
theorem d_Mo_undo_38 : decode prog_10_method_40_code 38 = .ok (.bipush 66, 2) := by decide +kernel
theorem d_Mo_undo_40 : decode prog_10_method_40_code 40 = .ok (.aload_n 0, 1) := by decide +kernel
theorem d_Mo_undo_41 : decode prog_10_method_40_code 41 = .ok (.getfield 49, 3) := by decide +kernel
theorem d_Mo_undo_44 : decode prog_10_method_40_code 44 = .ok (.imul, 1) := by decide +kernel
theorem d_Mo_undo_45 : decode prog_10_method_40_code 45 = .ok (.iload_n 1, 1) := by decide +kernel
theorem d_Mo_undo_46 : decode prog_10_method_40_code 46 = .ok (.iadd, 1) := by decide +kernel
theorem d_Mo_undo_47 : decode prog_10_method_40_code 47 = .ok (.iaload, 1) := by decide +kernel
theorem d_Mo_undo_48 : decode prog_10_method_40_code 48 = .ok (.iastore, 1) := by decide +kernel
theorem d_Mo_undo_49 : decode prog_10_method_40_code 49 = .ok (.iinc 1 1, 3) := by decide +kernel
theorem d_Mo_undo_52 : decode prog_10_method_40_code 52 = .ok (.goto (-29), 3) := by decide +kernel
theorem d_Mo_undo_55 : decode prog_10_method_40_code 55 = .ok (.aload_n 0, 1) := by decide +kernel
theorem d_Mo_undo_56 : decode prog_10_method_40_code 56 = .ok (.getfield 49, 3) := by decide +kernel
theorem d_Mo_undo_59 : decode prog_10_method_40_code 59 = .ok (.ireturn, 1) := by decide +kernel
theorem d_Mo_type_0 : decode prog_10_method_41_code 0 = .ok (.iload_n 1, 1) := by decide +kernel
theorem d_Mo_type_1 : decode prog_10_method_41_code 1 = .ok (.bipush 32, 2) := by decide +kernel
theorem d_Mo_type_3 : decode prog_10_method_41_code 3 = .ok (.bipush 126, 2) := by decide +kernel
theorem d_Mo_type_5 : decode prog_10_method_41_code 5 = .ok (.invokestatic 53, 3) := by decide +kernel
theorem d_Mo_type_8 : decode prog_10_method_41_code 8 = .ok (.ifCond .ne 7, 3) := by decide +kernel
theorem d_Mo_type_11 : decode prog_10_method_41_code 11 = .ok (.sipush (-10001), 3) := by decide +kernel
theorem d_Mo_type_14 : decode prog_10_method_41_code 14 = .ok (.ireturn, 1) := by decide +kernel
theorem d_Mo_type_15 : decode prog_10_method_41_code 15 = .ok (.aload_n 0, 1) := by decide +kernel
theorem d_Mo_type_16 : decode prog_10_method_41_code 16 = .ok (.getfield 123, 3) := by decide +kernel
theorem d_Mo_type_19 : decode prog_10_method_41_code 19 = .ok (.bipush 120, 2) := by decide +kernel
theorem d_Mo_type_21 : decode prog_10_method_41_code 21 = .ok (.if_icmp .ne 7, 3) := by decide +kernel
theorem d_Mo_type_24 : decode prog_10_method_41_code 24 = .ok (.sipush (-10003), 3) := by decide +kernel
theorem d_Mo_type_27 : decode prog_10_method_41_code 27 = .ok (.ireturn, 1) := by decide +kernel
theorem d_Mo_type_28 : decode prog_10_method_41_code 28 = .ok (.aload_n 0, 1) := by decide +kernel
theorem d_Mo_type_29 : decode prog_10_method_41_code 29 = .ok (.getfield 19, 3) := by decide +kernel
theorem d_Mo_type_32 : decode prog_10_method_41_code 32 = .ok (.aload_n 0, 1) := by decide +kernel
theorem d_Mo_type_33 : decode prog_10_method_41_code 33 = .ok (.getfield 123, 3) := by decide +kernel
theorem d_Mo_type_36 : decode prog_10_method_41_code 36 = .ok (.iload_n 1, 1) := by decide +kernel
theorem d_Mo_type_37 : decode prog_10_method_41_code 37 = .ok (.iastore, 1) := by decide +kernel
theorem d_Mo_type_38 : decode prog_10_method_41_code 38 = .ok (.aload_n 0, 1) := by decide +kernel
theorem d_Mo_type_39 : decode prog_10_method_41_code 39 = .ok (.dup, 1) := by decide +kernel
theorem d_Mo_type_40 : decode prog_10_method_41_code 40 = .ok (.getfield 123, 3) := by decide +kernel
theorem d_Mo_type_43 : decode prog_10_method_41_code 43 = .ok (.iconst 1, 1) := by decide +kernel
theorem d_Mo_type_44 : decode prog_10_method_41_code 44 = .ok (.iadd, 1) := by decide +kernel
theorem d_Mo_type_45 : decode prog_10_method_41_code 45 = .ok (.putfield 123, 3) := by decide +kernel
theorem d_Mo_type_48 : decode prog_10_method_41_code 48 = .ok (.aload_n 0, 1) := by decide +kernel
theorem d_Mo_type_49 : decode prog_10_method_41_code 49 = .ok (.getfield 123, 3) := by decide +kernel
theorem d_Mo_type_52 : decode prog_10_method_41_code 52 = .ok (.ireturn, 1) := by decide +kernel
theorem d_Mo_clearText_0 : decode prog_10_method_42_code 0 = .ok (.aload_n 0, 1) := by decide +kernel
theorem d_Mo_clearText_1 : decode prog_10_method_42_code 1 = .ok (.getfield 123, 3) := by decide +kernel
theorem d_Mo_clearText_4 : decode prog_10_method_42_code 4 = .ok (.istore_n 1, 1) := by decide +kernel
theorem d_Mo_clearText_5 : decode prog_10_method_42_code 5 = .ok (.aload_n 0, 1) := by decide +kernel
theorem d_Mo_clearText_6 : decode prog_10_method_42_code 6 = .ok (.iconst 0, 1) := by decide +kernel
theorem d_Mo_clearText_7 : decode prog_10_method_42_code 7 = .ok (.putfield 123, 3) := by decide +kernel
theorem d_Mo_clearText_10 : decode prog_10_method_42_code 10 = .ok (.iload_n 1, 1) := by decide +kernel
theorem d_Mo_clearText_11 : decode prog_10_method_42_code 11 = .ok (.ireturn, 1) := by decide +kernel
theorem d_Mo_digits_0 : decode prog_10_method_43_code 0 = .ok (.iload_n 0, 1) := by decide +kernel
theorem d_Mo_digits_1 : decode prog_10_method_43_code 1 = .ok (.bipush 9, 2) := by decide +kernel
theorem d_Mo_digits_3 : decode prog_10_method_43_code 3 = .ok (.if_icmp .le 7, 3) := by decide +kernel
theorem d_Mo_digits_6 : decode prog_10_method_43_code 6 = .ok (.iconst 2, 1) := by decide +kernel
theorem d_Mo_digits_7 : decode prog_10_method_43_code 7 = .ok (.goto 4, 3) := by decide +kernel
theorem d_Mo_digits_10 : decode prog_10_method_43_code 10 = .ok (.iconst 1, 1) := by decide +kernel
theorem d_Mo_digits_11 : decode prog_10_method_43_code 11 = .ok (.ireturn, 1) := by decide +kernel
theorem d_Mo_writesNumber_0 : decode prog_10_method_44_code 0 = .ok (.iload_n 1, 1) := by decide +kernel
theorem d_Mo_writesNumber_1 : decode prog_10_method_44_code 1 = .ok (.bipush 9, 2) := by decide +kernel
theorem d_Mo_writesNumber_3 : decode prog_10_method_44_code 3 = .ok (.if_icmp .le 29, 3) := by decide +kernel
theorem d_Mo_writesNumber_6 : decode prog_10_method_44_code 6 = .ok (.aload_n 0, 1) := by decide +kernel
theorem d_Mo_writesNumber_7 : decode prog_10_method_44_code 7 = .ok (.getfield 19, 3) := by decide +kernel
theorem d_Mo_writesNumber_10 : decode prog_10_method_44_code 10 = .ok (.aload_n 0, 1) := by decide +kernel
theorem d_Mo_writesNumber_11 : decode prog_10_method_44_code 11 = .ok (.getfield 123, 3) := by decide +kernel
theorem d_Mo_writesNumber_14 : decode prog_10_method_44_code 14 = .ok (.bipush 48, 2) := by decide +kernel
theorem d_Mo_writesNumber_16 : decode prog_10_method_44_code 16 = .ok (.iload_n 1, 1) := by decide +kernel
theorem d_Mo_writesNumber_17 : decode prog_10_method_44_code 17 = .ok (.bipush 10, 2) := by decide +kernel
theorem d_Mo_writesNumber_19 : decode prog_10_method_44_code 19 = .ok (.idiv, 1) := by decide +kernel
theorem d_Mo_writesNumber_20 : decode prog_10_method_44_code 20 = .ok (.iadd, 1) := by decide +kernel
theorem d_Mo_writesNumber_21 : decode prog_10_method_44_code 21 = .ok (.iastore, 1) := by decide +kernel
theorem d_Mo_writesNumber_22 : decode prog_10_method_44_code 22 = .ok (.aload_n 0, 1) := by decide +kernel
theorem d_Mo_writesNumber_23 : decode prog_10_method_44_code 23 = .ok (.dup, 1) := by decide +kernel
theorem d_Mo_writesNumber_24 : decode prog_10_method_44_code 24 = .ok (.getfield 123, 3) := by decide +kernel
theorem d_Mo_writesNumber_27 : decode prog_10_method_44_code 27 = .ok (.iconst 1, 1) := by decide +kernel
theorem d_Mo_writesNumber_28 : decode prog_10_method_44_code 28 = .ok (.iadd, 1) := by decide +kernel
theorem d_Mo_writesNumber_29 : decode prog_10_method_44_code 29 = .ok (.putfield 123, 3) := by decide +kernel
theorem d_Mo_writesNumber_32 : decode prog_10_method_44_code 32 = .ok (.aload_n 0, 1) := by decide +kernel
theorem d_Mo_writesNumber_33 : decode prog_10_method_44_code 33 = .ok (.getfield 19, 3) := by decide +kernel
theorem d_Mo_writesNumber_36 : decode prog_10_method_44_code 36 = .ok (.aload_n 0, 1) := by decide +kernel
theorem d_Mo_writesNumber_37 : decode prog_10_method_44_code 37 = .ok (.getfield 123, 3) := by decide +kernel
theorem d_Mo_writesNumber_40 : decode prog_10_method_44_code 40 = .ok (.bipush 48, 2) := by decide +kernel
theorem d_Mo_writesNumber_42 : decode prog_10_method_44_code 42 = .ok (.iload_n 1, 1) := by decide +kernel
theorem d_Mo_writesNumber_43 : decode prog_10_method_44_code 43 = .ok (.bipush 10, 2) := by decide +kernel
theorem d_Mo_writesNumber_45 : decode prog_10_method_44_code 45 = .ok (.irem, 1) := by decide +kernel
theorem d_Mo_writesNumber_46 : decode prog_10_method_44_code 46 = .ok (.iadd, 1) := by decide +kernel
theorem d_Mo_writesNumber_47 : decode prog_10_method_44_code 47 = .ok (.iastore, 1) := by decide +kernel
theorem d_Mo_writesNumber_48 : decode prog_10_method_44_code 48 = .ok (.aload_n 0, 1) := by decide +kernel
theorem d_Mo_writesNumber_49 : decode prog_10_method_44_code 49 = .ok (.dup, 1) := by decide +kernel
theorem d_Mo_writesNumber_50 : decode prog_10_method_44_code 50 = .ok (.getfield 123, 3) := by decide +kernel
theorem d_Mo_writesNumber_53 : decode prog_10_method_44_code 53 = .ok (.iconst 1, 1) := by decide +kernel
theorem d_Mo_writesNumber_54 : decode prog_10_method_44_code 54 = .ok (.iadd, 1) := by decide +kernel
theorem d_Mo_writesNumber_55 : decode prog_10_method_44_code 55 = .ok (.putfield 123, 3) := by decide +kernel
theorem d_Mo_writesNumber_58 : decode prog_10_method_44_code 58 = .ok (.return_, 1) := by decide +kernel
theorem d_Mo_writesSign_0 : decode prog_10_method_45_code 0 = .ok (.aload_n 0, 1) := by decide +kernel
theorem d_Mo_writesSign_1 : decode prog_10_method_45_code 1 = .ok (.getfield 19, 3) := by decide +kernel
theorem d_Mo_writesSign_4 : decode prog_10_method_45_code 4 = .ok (.aload_n 0, 1) := by decide +kernel
theorem d_Mo_writesSign_5 : decode prog_10_method_45_code 5 = .ok (.getfield 123, 3) := by decide +kernel
theorem d_Mo_writesSign_8 : decode prog_10_method_45_code 8 = .ok (.iload_n 1, 1) := by decide +kernel
theorem d_Mo_writesSign_9 : decode prog_10_method_45_code 9 = .ok (.iastore, 1) := by decide +kernel
theorem d_Mo_writesSign_10 : decode prog_10_method_45_code 10 = .ok (.aload_n 0, 1) := by decide +kernel
theorem d_Mo_writesSign_11 : decode prog_10_method_45_code 11 = .ok (.dup, 1) := by decide +kernel
theorem d_Mo_writesSign_12 : decode prog_10_method_45_code 12 = .ok (.getfield 123, 3) := by decide +kernel
theorem d_Mo_writesSign_15 : decode prog_10_method_45_code 15 = .ok (.iconst 1, 1) := by decide +kernel
theorem d_Mo_writesSign_16 : decode prog_10_method_45_code 16 = .ok (.iadd, 1) := by decide +kernel
theorem d_Mo_writesSign_17 : decode prog_10_method_45_code 17 = .ok (.putfield 123, 3) := by decide +kernel
theorem d_Mo_writesSign_20 : decode prog_10_method_45_code 20 = .ok (.return_, 1) := by decide +kernel
theorem d_Mo_write_0 : decode prog_10_method_46_code 0 = .ok (.iload_n 1, 1) := by decide +kernel
theorem d_Mo_write_1 : decode prog_10_method_46_code 1 = .ok (.iconst 0, 1) := by decide +kernel
theorem d_Mo_write_2 : decode prog_10_method_46_code 2 = .ok (.iconst 2, 1) := by decide +kernel
theorem d_Mo_write_3 : decode prog_10_method_46_code 3 = .ok (.invokestatic 53, 3) := by decide +kernel
theorem d_Mo_write_6 : decode prog_10_method_46_code 6 = .ok (.ifCond .ne 7, 3) := by decide +kernel
theorem d_Mo_write_9 : decode prog_10_method_46_code 9 = .ok (.sipush (-10001), 3) := by decide +kernel
theorem d_Mo_write_12 : decode prog_10_method_46_code 12 = .ok (.ireturn, 1) := by decide +kernel
theorem d_Mo_write_13 : decode prog_10_method_46_code 13 = .ok (.aload_n 0, 1) := by decide +kernel
theorem d_Mo_write_14 : decode prog_10_method_46_code 14 = .ok (.iload_n 1, 1) := by decide +kernel
theorem d_Mo_write_15 : decode prog_10_method_46_code 15 = .ok (.invokevirtual 104, 3) := by decide +kernel
theorem d_Mo_write_18 : decode prog_10_method_46_code 18 = .ok (.iconst 0, 1) := by decide +kernel
theorem d_Mo_write_19 : decode prog_10_method_46_code 19 = .ok (.istore_n 2, 1) := by decide +kernel
theorem d_Mo_write_20 : decode prog_10_method_46_code 20 = .ok (.iconst 0, 1) := by decide +kernel
theorem d_Mo_write_21 : decode prog_10_method_46_code 21 = .ok (.istore_n 3, 1) := by decide +kernel
theorem d_Mo_write_22 : decode prog_10_method_46_code 22 = .ok (.iload_n 3, 1) := by decide +kernel
theorem d_Mo_write_23 : decode prog_10_method_46_code 23 = .ok (.aload_n 0, 1) := by decide +kernel
theorem d_Mo_write_24 : decode prog_10_method_46_code 24 = .ok (.getfield 98, 3) := by decide +kernel
theorem d_Mo_write_27 : decode prog_10_method_46_code 27 = .ok (.if_icmp .ge 46, 3) := by decide +kernel
theorem d_Mo_write_30 : decode prog_10_method_46_code 30 = .ok (.iload_n 2, 1) := by decide +kernel
theorem d_Mo_write_31 : decode prog_10_method_46_code 31 = .ok (.aload_n 0, 1) := by decide +kernel
theorem d_Mo_write_32 : decode prog_10_method_46_code 32 = .ok (.getfield 28, 3) := by decide +kernel
theorem d_Mo_write_35 : decode prog_10_method_46_code 35 = .ok (.iload_n 3, 1) := by decide +kernel
theorem d_Mo_write_36 : decode prog_10_method_46_code 36 = .ok (.iaload, 1) := by decide +kernel
theorem d_Mo_write_37 : decode prog_10_method_46_code 37 = .ok (.ifCond .ne 7, 3) := by decide +kernel
theorem d_Mo_write_40 : decode prog_10_method_46_code 40 = .ok (.iconst 1, 1) := by decide +kernel
theorem d_Mo_write_41 : decode prog_10_method_46_code 41 = .ok (.goto 24, 3) := by decide +kernel
theorem d_Mo_write_44 : decode prog_10_method_46_code 44 = .ok (.iconst 3, 1) := by decide +kernel
theorem d_Mo_write_45 : decode prog_10_method_46_code 45 = .ok (.aload_n 0, 1) := by decide +kernel
theorem d_Mo_write_46 : decode prog_10_method_46_code 46 = .ok (.getfield 28, 3) := by decide +kernel
theorem d_Mo_write_49 : decode prog_10_method_46_code 49 = .ok (.iload_n 3, 1) := by decide +kernel
theorem d_Mo_write_50 : decode prog_10_method_46_code 50 = .ok (.iaload, 1) := by decide +kernel
theorem d_Mo_write_51 : decode prog_10_method_46_code 51 = .ok (.invokestatic 134, 3) := by decide +kernel
theorem d_Mo_write_54 : decode prog_10_method_46_code 54 = .ok (.iadd, 1) := by decide +kernel
theorem d_Mo_write_55 : decode prog_10_method_46_code 55 = .ok (.aload_n 0, 1) := by decide +kernel
theorem d_Mo_write_56 : decode prog_10_method_46_code 56 = .ok (.getfield 25, 3) := by decide +kernel
theorem d_Mo_write_59 : decode prog_10_method_46_code 59 = .ok (.iload_n 3, 1) := by decide +kernel
theorem d_Mo_write_60 : decode prog_10_method_46_code 60 = .ok (.iaload, 1) := by decide +kernel
theorem d_Mo_write_61 : decode prog_10_method_46_code 61 = .ok (.invokestatic 134, 3) := by decide +kernel
theorem d_Mo_write_64 : decode prog_10_method_46_code 64 = .ok (.iadd, 1) := by decide +kernel
theorem d_Mo_write_65 : decode prog_10_method_46_code 65 = .ok (.iadd, 1) := by decide +kernel
theorem d_Mo_write_66 : decode prog_10_method_46_code 66 = .ok (.istore_n 2, 1) := by decide +kernel
theorem d_Mo_write_67 : decode prog_10_method_46_code 67 = .ok (.iinc 3 1, 3) := by decide +kernel
theorem d_Mo_write_70 : decode prog_10_method_46_code 70 = .ok (.goto (-48), 3) := by decide +kernel
theorem d_Mo_write_73 : decode prog_10_method_46_code 73 = .ok (.iload_n 2, 1) := by decide +kernel
theorem d_Mo_write_74 : decode prog_10_method_46_code 74 = .ok (.bipush 120, 2) := by decide +kernel
theorem d_Mo_write_76 : decode prog_10_method_46_code 76 = .ok (.if_icmp .le 7, 3) := by decide +kernel
theorem d_Mo_write_79 : decode prog_10_method_46_code 79 = .ok (.sipush (-10003), 3) := by decide +kernel
theorem d_Mo_write_82 : decode prog_10_method_46_code 82 = .ok (.ireturn, 1) := by decide +kernel
theorem d_Mo_write_83 : decode prog_10_method_46_code 83 = .ok (.aload_n 0, 1) := by decide +kernel
theorem d_Mo_write_84 : decode prog_10_method_46_code 84 = .ok (.iconst 0, 1) := by decide +kernel
theorem d_Mo_write_85 : decode prog_10_method_46_code 85 = .ok (.putfield 123, 3) := by decide +kernel
theorem d_Mo_write_88 : decode prog_10_method_46_code 88 = .ok (.iconst 0, 1) := by decide +kernel
theorem d_Mo_write_89 : decode prog_10_method_46_code 89 = .ok (.istore_n 3, 1) := by decide +kernel
theorem d_Mo_write_90 : decode prog_10_method_46_code 90 = .ok (.iload_n 3, 1) := by decide +kernel
theorem d_Mo_write_91 : decode prog_10_method_46_code 91 = .ok (.aload_n 0, 1) := by decide +kernel
theorem d_Mo_write_92 : decode prog_10_method_46_code 92 = .ok (.getfield 98, 3) := by decide +kernel
theorem d_Mo_write_95 : decode prog_10_method_46_code 95 = .ok (.if_icmp .ge 80, 3) := by decide +kernel
theorem d_Mo_write_98 : decode prog_10_method_46_code 98 = .ok (.aload_n 0, 1) := by decide +kernel
theorem d_Mo_write_99 : decode prog_10_method_46_code 99 = .ok (.getfield 28, 3) := by decide +kernel
theorem d_Mo_write_102 : decode prog_10_method_46_code 102 = .ok (.iload_n 3, 1) := by decide +kernel
theorem d_Mo_write_103 : decode prog_10_method_46_code 103 = .ok (.iaload, 1) := by decide +kernel
theorem d_Mo_write_104 : decode prog_10_method_46_code 104 = .ok (.ifCond .ne 27, 3) := by decide +kernel
theorem d_Mo_write_107 : decode prog_10_method_46_code 107 = .ok (.aload_n 0, 1) := by decide +kernel
theorem d_Mo_write_108 : decode prog_10_method_46_code 108 = .ok (.bipush 97, 2) := by decide +kernel
theorem d_Mo_write_110 : decode prog_10_method_46_code 110 = .ok (.aload_n 0, 1) := by decide +kernel
theorem d_Mo_write_111 : decode prog_10_method_46_code 111 = .ok (.getfield 7, 3) := by decide +kernel
theorem d_Mo_write_114 : decode prog_10_method_46_code 114 = .ok (.bipush 6, 2) := by decide +kernel
theorem d_Mo_write_116 : decode prog_10_method_46_code 116 = .ok (.aload_n 0, 1) := by decide +kernel
theorem d_Mo_write_117 : decode prog_10_method_46_code 117 = .ok (.getfield 22, 3) := by decide +kernel
theorem d_Mo_write_120 : decode prog_10_method_46_code 120 = .ok (.iload_n 3, 1) := by decide +kernel
theorem d_Mo_write_121 : decode prog_10_method_46_code 121 = .ok (.iaload, 1) := by decide +kernel
theorem d_Mo_write_122 : decode prog_10_method_46_code 122 = .ok (.iadd, 1) := by decide +kernel
theorem d_Mo_write_123 : decode prog_10_method_46_code 123 = .ok (.iaload, 1) := by decide +kernel
theorem d_Mo_write_124 : decode prog_10_method_46_code 124 = .ok (.iadd, 1) := by decide +kernel
theorem d_Mo_write_125 : decode prog_10_method_46_code 125 = .ok (.invokevirtual 137, 3) := by decide +kernel
theorem d_Mo_write_128 : decode prog_10_method_46_code 128 = .ok (.goto 41, 3) := by decide +kernel
theorem d_Mo_write_131 : decode prog_10_method_46_code 131 = .ok (.aload_n 0, 1) := by decide +kernel
theorem d_Mo_write_132 : decode prog_10_method_46_code 132 = .ok (.bipush 40, 2) := by decide +kernel
theorem d_Mo_write_134 : decode prog_10_method_46_code 134 = .ok (.invokevirtual 137, 3) := by decide +kernel
theorem d_Mo_write_137 : decode prog_10_method_46_code 137 = .ok (.aload_n 0, 1) := by decide +kernel
theorem d_Mo_write_138 : decode prog_10_method_46_code 138 = .ok (.aload_n 0, 1) := by decide +kernel
theorem d_Mo_write_139 : decode prog_10_method_46_code 139 = .ok (.getfield 28, 3) := by decide +kernel
theorem d_Mo_write_142 : decode prog_10_method_46_code 142 = .ok (.iload_n 3, 1) := by decide +kernel
theorem d_Mo_write_143 : decode prog_10_method_46_code 143 = .ok (.iaload, 1) := by decide +kernel
theorem d_Mo_write_144 : decode prog_10_method_46_code 144 = .ok (.invokevirtual 140, 3) := by decide +kernel
theorem d_Mo_write_147 : decode prog_10_method_46_code 147 = .ok (.aload_n 0, 1) := by decide +kernel
theorem d_Mo_write_148 : decode prog_10_method_46_code 148 = .ok (.bipush 44, 2) := by decide +kernel
theorem d_Mo_write_150 : decode prog_10_method_46_code 150 = .ok (.invokevirtual 137, 3) := by decide +kernel
theorem d_Mo_write_153 : decode prog_10_method_46_code 153 = .ok (.aload_n 0, 1) := by decide +kernel
theorem d_Mo_write_154 : decode prog_10_method_46_code 154 = .ok (.aload_n 0, 1) := by decide +kernel
theorem d_Mo_write_155 : decode prog_10_method_46_code 155 = .ok (.getfield 25, 3) := by decide +kernel
theorem d_Mo_write_158 : decode prog_10_method_46_code 158 = .ok (.iload_n 3, 1) := by decide +kernel
theorem d_Mo_write_159 : decode prog_10_method_46_code 159 = .ok (.iaload, 1) := by decide +kernel
theorem d_Mo_write_160 : decode prog_10_method_46_code 160 = .ok (.invokevirtual 140, 3) := by decide +kernel
theorem d_Mo_write_163 : decode prog_10_method_46_code 163 = .ok (.aload_n 0, 1) := by decide +kernel
theorem d_Mo_write_164 : decode prog_10_method_46_code 164 = .ok (.bipush 41, 2) := by decide +kernel
theorem d_Mo_write_166 : decode prog_10_method_46_code 166 = .ok (.invokevirtual 137, 3) := by decide +kernel
theorem d_Mo_write_169 : decode prog_10_method_46_code 169 = .ok (.iinc 3 1, 3) := by decide +kernel
theorem d_Mo_write_172 : decode prog_10_method_46_code 172 = .ok (.goto (-82), 3) := by decide +kernel
theorem d_Mo_write_175 : decode prog_10_method_46_code 175 = .ok (.aload_n 0, 1) := by decide +kernel
theorem d_Mo_write_176 : decode prog_10_method_46_code 176 = .ok (.getfield 123, 3) := by decide +kernel
theorem d_Mo_write_179 : decode prog_10_method_46_code 179 = .ok (.ireturn, 1) := by decide +kernel
theorem d_Mo_isAt_0 : decode prog_10_method_47_code 0 = .ok (.aload_n 0, 1) := by decide +kernel
theorem d_Mo_isAt_1 : decode prog_10_method_47_code 1 = .ok (.getfield 143, 3) := by decide +kernel
theorem d_Mo_isAt_4 : decode prog_10_method_47_code 4 = .ok (.aload_n 0, 1) := by decide +kernel
theorem d_Mo_isAt_5 : decode prog_10_method_47_code 5 = .ok (.getfield 123, 3) := by decide +kernel
theorem d_Mo_isAt_8 : decode prog_10_method_47_code 8 = .ok (.if_icmp .ge 24, 3) := by decide +kernel
theorem d_Mo_isAt_11 : decode prog_10_method_47_code 11 = .ok (.aload_n 0, 1) := by decide +kernel
theorem d_Mo_isAt_12 : decode prog_10_method_47_code 12 = .ok (.getfield 19, 3) := by decide +kernel
theorem d_Mo_isAt_15 : decode prog_10_method_47_code 15 = .ok (.aload_n 0, 1) := by decide +kernel
theorem d_Mo_isAt_16 : decode prog_10_method_47_code 16 = .ok (.getfield 143, 3) := by decide +kernel
theorem d_Mo_isAt_19 : decode prog_10_method_47_code 19 = .ok (.iaload, 1) := by decide +kernel
theorem d_Mo_isAt_20 : decode prog_10_method_47_code 20 = .ok (.iload_n 1, 1) := by decide +kernel
theorem d_Mo_isAt_21 : decode prog_10_method_47_code 21 = .ok (.iload_n 2, 1) := by decide +kernel
theorem d_Mo_isAt_22 : decode prog_10_method_47_code 22 = .ok (.invokestatic 53, 3) := by decide +kernel
theorem d_Mo_isAt_25 : decode prog_10_method_47_code 25 = .ok (.ifCond .eq 7, 3) := by decide +kernel
theorem d_Mo_isAt_28 : decode prog_10_method_47_code 28 = .ok (.iconst 1, 1) := by decide +kernel
theorem d_Mo_isAt_29 : decode prog_10_method_47_code 29 = .ok (.goto 4, 3) := by decide +kernel
theorem d_Mo_isAt_32 : decode prog_10_method_47_code 32 = .ok (.iconst 0, 1) := by decide +kernel
theorem d_Mo_isAt_33 : decode prog_10_method_47_code 33 = .ok (.ireturn, 1) := by decide +kernel
theorem d_Mo_fails_0 : decode prog_10_method_48_code 0 = .ok (.aload_n 0, 1) := by decide +kernel
theorem d_Mo_fails_1 : decode prog_10_method_48_code 1 = .ok (.iload_n 1, 1) := by decide +kernel
theorem d_Mo_fails_2 : decode prog_10_method_48_code 2 = .ok (.putfield 146, 3) := by decide +kernel
theorem d_Mo_fails_5 : decode prog_10_method_48_code 5 = .ok (.iconst 0, 1) := by decide +kernel
theorem d_Mo_fails_6 : decode prog_10_method_48_code 6 = .ok (.ireturn, 1) := by decide +kernel
theorem d_Mo_sign_0 : decode prog_10_method_49_code 0 = .ok (.aload_n 0, 1) := by decide +kernel
theorem d_Mo_sign_1 : decode prog_10_method_49_code 1 = .ok (.iload_n 1, 1) := by decide +kernel
theorem d_Mo_sign_2 : decode prog_10_method_49_code 2 = .ok (.iload_n 1, 1) := by decide +kernel
theorem d_Mo_sign_3 : decode prog_10_method_49_code 3 = .ok (.invokevirtual 149, 3) := by decide +kernel
theorem d_Mo_sign_6 : decode prog_10_method_49_code 6 = .ok (.istore_n 2, 1) := by decide +kernel
theorem d_Mo_sign_7 : decode prog_10_method_49_code 7 = .ok (.aload_n 0, 1) := by decide +kernel
theorem d_Mo_sign_8 : decode prog_10_method_49_code 8 = .ok (.dup, 1) := by decide +kernel
theorem d_Mo_sign_9 : decode prog_10_method_49_code 9 = .ok (.getfield 143, 3) := by decide +kernel
theorem d_Mo_sign_12 : decode prog_10_method_49_code 12 = .ok (.iload_n 2, 1) := by decide +kernel
theorem d_Mo_sign_13 : decode prog_10_method_49_code 13 = .ok (.ifCond .eq 7, 3) := by decide +kernel
theorem d_Mo_sign_16 : decode prog_10_method_49_code 16 = .ok (.iconst 1, 1) := by decide +kernel
theorem d_Mo_sign_17 : decode prog_10_method_49_code 17 = .ok (.goto 4, 3) := by decide +kernel
theorem d_Mo_sign_20 : decode prog_10_method_49_code 20 = .ok (.iconst 0, 1) := by decide +kernel
theorem d_Mo_sign_21 : decode prog_10_method_49_code 21 = .ok (.iadd, 1) := by decide +kernel
theorem d_Mo_sign_22 : decode prog_10_method_49_code 22 = .ok (.putfield 143, 3) := by decide +kernel
theorem d_Mo_sign_25 : decode prog_10_method_49_code 25 = .ok (.iload_n 2, 1) := by decide +kernel
theorem d_Mo_sign_26 : decode prog_10_method_49_code 26 = .ok (.ireturn, 1) := by decide +kernel
theorem d_Mo_numbered_0 : decode prog_10_method_50_code 0 = .ok (.aload_n 0, 1) := by decide +kernel
theorem d_Mo_numbered_1 : decode prog_10_method_50_code 1 = .ok (.bipush 48, 2) := by decide +kernel
theorem d_Mo_numbered_3 : decode prog_10_method_50_code 3 = .ok (.bipush 57, 2) := by decide +kernel
theorem d_Mo_numbered_5 : decode prog_10_method_50_code 5 = .ok (.invokevirtual 149, 3) := by decide +kernel
theorem d_Mo_numbered_8 : decode prog_10_method_50_code 8 = .ok (.ifCond .ne 5, 3) := by decide +kernel
theorem d_Mo_numbered_11 : decode prog_10_method_50_code 11 = .ok (.iconst 0, 1) := by decide +kernel
theorem d_Mo_numbered_12 : decode prog_10_method_50_code 12 = .ok (.ireturn, 1) := by decide +kernel
theorem d_Mo_numbered_13 : decode prog_10_method_50_code 13 = .ok (.aload_n 0, 1) := by decide +kernel
theorem d_Mo_numbered_14 : decode prog_10_method_50_code 14 = .ok (.aload_n 0, 1) := by decide +kernel
theorem d_Mo_numbered_15 : decode prog_10_method_50_code 15 = .ok (.getfield 19, 3) := by decide +kernel
theorem d_Mo_numbered_18 : decode prog_10_method_50_code 18 = .ok (.aload_n 0, 1) := by decide +kernel
theorem d_Mo_numbered_19 : decode prog_10_method_50_code 19 = .ok (.getfield 143, 3) := by decide +kernel
theorem d_Mo_numbered_22 : decode prog_10_method_50_code 22 = .ok (.iaload, 1) := by decide +kernel
theorem d_Mo_numbered_23 : decode prog_10_method_50_code 23 = .ok (.bipush 48, 2) := by decide +kernel
theorem d_Mo_numbered_25 : decode prog_10_method_50_code 25 = .ok (.isub, 1) := by decide +kernel
theorem d_Mo_numbered_26 : decode prog_10_method_50_code 26 = .ok (.putfield 152, 3) := by decide +kernel
theorem d_Mo_numbered_29 : decode prog_10_method_50_code 29 = .ok (.aload_n 0, 1) := by decide +kernel
theorem d_Mo_numbered_30 : decode prog_10_method_50_code 30 = .ok (.dup, 1) := by decide +kernel
theorem d_Mo_numbered_31 : decode prog_10_method_50_code 31 = .ok (.getfield 143, 3) := by decide +kernel
theorem d_Mo_numbered_34 : decode prog_10_method_50_code 34 = .ok (.iconst 1, 1) := by decide +kernel
theorem d_Mo_numbered_35 : decode prog_10_method_50_code 35 = .ok (.iadd, 1) := by decide +kernel
theorem d_Mo_numbered_36 : decode prog_10_method_50_code 36 = .ok (.putfield 143, 3) := by decide +kernel
theorem d_Mo_numbered_39 : decode prog_10_method_50_code 39 = .ok (.aload_n 0, 1) := by decide +kernel
theorem d_Mo_numbered_40 : decode prog_10_method_50_code 40 = .ok (.getfield 152, 3) := by decide +kernel
theorem d_Mo_numbered_43 : decode prog_10_method_50_code 43 = .ok (.ifCond .le 48, 3) := by decide +kernel
theorem d_Mo_numbered_46 : decode prog_10_method_50_code 46 = .ok (.aload_n 0, 1) := by decide +kernel
theorem d_Mo_numbered_47 : decode prog_10_method_50_code 47 = .ok (.bipush 48, 2) := by decide +kernel
theorem d_Mo_numbered_49 : decode prog_10_method_50_code 49 = .ok (.bipush 57, 2) := by decide +kernel
theorem d_Mo_numbered_51 : decode prog_10_method_50_code 51 = .ok (.invokevirtual 149, 3) := by decide +kernel
theorem d_Mo_numbered_54 : decode prog_10_method_50_code 54 = .ok (.ifCond .eq 37, 3) := by decide +kernel
theorem d_Mo_numbered_57 : decode prog_10_method_50_code 57 = .ok (.aload_n 0, 1) := by decide +kernel
theorem d_Mo_numbered_58 : decode prog_10_method_50_code 58 = .ok (.bipush 10, 2) := by decide +kernel
theorem d_Mo_numbered_60 : decode prog_10_method_50_code 60 = .ok (.aload_n 0, 1) := by decide +kernel
theorem d_Mo_numbered_61 : decode prog_10_method_50_code 61 = .ok (.getfield 152, 3) := by decide +kernel
theorem d_Mo_numbered_64 : decode prog_10_method_50_code 64 = .ok (.imul, 1) := by decide +kernel
theorem d_Mo_numbered_65 : decode prog_10_method_50_code 65 = .ok (.aload_n 0, 1) := by decide +kernel
theorem d_Mo_numbered_66 : decode prog_10_method_50_code 66 = .ok (.getfield 19, 3) := by decide +kernel
theorem d_Mo_numbered_69 : decode prog_10_method_50_code 69 = .ok (.aload_n 0, 1) := by decide +kernel
theorem d_Mo_numbered_70 : decode prog_10_method_50_code 70 = .ok (.getfield 143, 3) := by decide +kernel
theorem d_Mo_numbered_73 : decode prog_10_method_50_code 73 = .ok (.iaload, 1) := by decide +kernel
theorem d_Mo_numbered_74 : decode prog_10_method_50_code 74 = .ok (.iadd, 1) := by decide +kernel
theorem d_Mo_numbered_75 : decode prog_10_method_50_code 75 = .ok (.bipush 48, 2) := by decide +kernel
theorem d_Mo_numbered_77 : decode prog_10_method_50_code 77 = .ok (.isub, 1) := by decide +kernel
theorem d_Mo_numbered_78 : decode prog_10_method_50_code 78 = .ok (.putfield 152, 3) := by decide +kernel
theorem d_Mo_numbered_81 : decode prog_10_method_50_code 81 = .ok (.aload_n 0, 1) := by decide +kernel
theorem d_Mo_numbered_82 : decode prog_10_method_50_code 82 = .ok (.dup, 1) := by decide +kernel
theorem d_Mo_numbered_83 : decode prog_10_method_50_code 83 = .ok (.getfield 143, 3) := by decide +kernel
theorem d_Mo_numbered_86 : decode prog_10_method_50_code 86 = .ok (.iconst 1, 1) := by decide +kernel
theorem d_Mo_numbered_87 : decode prog_10_method_50_code 87 = .ok (.iadd, 1) := by decide +kernel
theorem d_Mo_numbered_88 : decode prog_10_method_50_code 88 = .ok (.putfield 143, 3) := by decide +kernel
theorem d_Mo_numbered_91 : decode prog_10_method_50_code 91 = .ok (.iconst 1, 1) := by decide +kernel
theorem d_Mo_numbered_92 : decode prog_10_method_50_code 92 = .ok (.ireturn, 1) := by decide +kernel
theorem d_Mo_wrong_0 : decode prog_10_method_51_code 0 = .ok (.iload_n 1, 1) := by decide +kernel
theorem d_Mo_wrong_1 : decode prog_10_method_51_code 1 = .ok (.iconst 1, 1) := by decide +kernel
theorem d_Mo_wrong_2 : decode prog_10_method_51_code 2 = .ok (.aload_n 0, 1) := by decide +kernel
theorem d_Mo_wrong_3 : decode prog_10_method_51_code 3 = .ok (.getfield 7, 3) := by decide +kernel
theorem d_Mo_wrong_6 : decode prog_10_method_51_code 6 = .ok (.iconst 1, 1) := by decide +kernel
theorem d_Mo_wrong_7 : decode prog_10_method_51_code 7 = .ok (.iaload, 1) := by decide +kernel
theorem d_Mo_wrong_8 : decode prog_10_method_51_code 8 = .ok (.invokestatic 53, 3) := by decide +kernel
theorem d_Mo_wrong_11 : decode prog_10_method_51_code 11 = .ok (.ifCond .eq 15, 3) := by decide +kernel
theorem d_Mo_wrong_14 : decode prog_10_method_51_code 14 = .ok (.iload_n 1, 1) := by decide +kernel
theorem d_Mo_wrong_15 : decode prog_10_method_51_code 15 = .ok (.aload_n 0, 1) := by decide +kernel
theorem d_Mo_wrong_16 : decode prog_10_method_51_code 16 = .ok (.getfield 155, 3) := by decide +kernel
theorem d_Mo_wrong_19 : decode prog_10_method_51_code 19 = .ok (.if_icmp .gt 7, 3) := by decide +kernel
theorem d_Mo_wrong_22 : decode prog_10_method_51_code 22 = .ok (.iconst 1, 1) := by decide +kernel
theorem d_Mo_wrong_23 : decode prog_10_method_51_code 23 = .ok (.goto 4, 3) := by decide +kernel
theorem d_Mo_wrong_26 : decode prog_10_method_51_code 26 = .ok (.iconst 0, 1) := by decide +kernel
theorem d_Mo_wrong_27 : decode prog_10_method_51_code 27 = .ok (.istore_n 3, 1) := by decide +kernel
theorem d_Mo_wrong_28 : decode prog_10_method_51_code 28 = .ok (.iload_n 3, 1) := by decide +kernel
theorem d_Mo_wrong_29 : decode prog_10_method_51_code 29 = .ok (.ifCond .ne 7, 3) := by decide +kernel
theorem d_Mo_wrong_32 : decode prog_10_method_51_code 32 = .ok (.iconst 2, 1) := by decide +kernel
theorem d_Mo_wrong_33 : decode prog_10_method_51_code 33 = .ok (.goto 38, 3) := by decide +kernel
theorem d_Mo_wrong_36 : decode prog_10_method_51_code 36 = .ok (.iload_n 2, 1) := by decide +kernel
theorem d_Mo_wrong_37 : decode prog_10_method_51_code 37 = .ok (.aload_n 0, 1) := by decide +kernel
theorem d_Mo_wrong_38 : decode prog_10_method_51_code 38 = .ok (.getfield 7, 3) := by decide +kernel
theorem d_Mo_wrong_41 : decode prog_10_method_51_code 41 = .ok (.iconst 2, 1) := by decide +kernel
theorem d_Mo_wrong_42 : decode prog_10_method_51_code 42 = .ok (.iaload, 1) := by decide +kernel
theorem d_Mo_wrong_43 : decode prog_10_method_51_code 43 = .ok (.bipush 20, 2) := by decide +kernel
theorem d_Mo_wrong_45 : decode prog_10_method_51_code 45 = .ok (.invokestatic 53, 3) := by decide +kernel
theorem d_Mo_wrong_48 : decode prog_10_method_51_code 48 = .ok (.ifCond .ne 7, 3) := by decide +kernel
theorem d_Mo_wrong_51 : decode prog_10_method_51_code 51 = .ok (.iconst 3, 1) := by decide +kernel
theorem d_Mo_wrong_52 : decode prog_10_method_51_code 52 = .ok (.goto 19, 3) := by decide +kernel
theorem d_Mo_wrong_55 : decode prog_10_method_51_code 55 = .ok (.iload_n 2, 1) := by decide +kernel
theorem d_Mo_wrong_56 : decode prog_10_method_51_code 56 = .ok (.bipush 60, 2) := by decide +kernel
theorem d_Mo_wrong_58 : decode prog_10_method_51_code 58 = .ok (.aload_n 0, 1) := by decide +kernel
theorem d_Mo_wrong_59 : decode prog_10_method_51_code 59 = .ok (.getfield 155, 3) := by decide +kernel
theorem d_Mo_wrong_62 : decode prog_10_method_51_code 62 = .ok (.isub, 1) := by decide +kernel
theorem d_Mo_wrong_63 : decode prog_10_method_51_code 63 = .ok (.if_icmp .le 7, 3) := by decide +kernel
theorem d_Mo_wrong_66 : decode prog_10_method_51_code 66 = .ok (.iconst 4, 1) := by decide +kernel
theorem d_Mo_wrong_67 : decode prog_10_method_51_code 67 = .ok (.goto 4, 3) := by decide +kernel
theorem d_Mo_wrong_70 : decode prog_10_method_51_code 70 = .ok (.iconst 0, 1) := by decide +kernel
theorem d_Mo_wrong_71 : decode prog_10_method_51_code 71 = .ok (.ireturn, 1) := by decide +kernel
theorem d_Mo_readsCopy_0 : decode prog_10_method_52_code 0 = .ok (.aload_n 0, 1) := by decide +kernel
theorem d_Mo_readsCopy_1 : decode prog_10_method_52_code 1 = .ok (.getfield 143, 3) := by decide +kernel
theorem d_Mo_readsCopy_4 : decode prog_10_method_52_code 4 = .ok (.istore_n 1, 1) := by decide +kernel
theorem d_Mo_readsCopy_5 : decode prog_10_method_52_code 5 = .ok (.aload_n 0, 1) := by decide +kernel
theorem d_Mo_readsCopy_6 : decode prog_10_method_52_code 6 = .ok (.dup, 1) := by decide +kernel
theorem d_Mo_readsCopy_7 : decode prog_10_method_52_code 7 = .ok (.getfield 143, 3) := by decide +kernel
theorem d_Mo_readsCopy_10 : decode prog_10_method_52_code 10 = .ok (.iconst 1, 1) := by decide +kernel
theorem d_Mo_readsCopy_11 : decode prog_10_method_52_code 11 = .ok (.iadd, 1) := by decide +kernel
theorem d_Mo_readsCopy_12 : decode prog_10_method_52_code 12 = .ok (.putfield 143, 3) := by decide +kernel
theorem d_Mo_readsCopy_15 : decode prog_10_method_52_code 15 = .ok (.aload_n 0, 1) := by decide +kernel
theorem d_Mo_readsCopy_16 : decode prog_10_method_52_code 16 = .ok (.invokevirtual 158, 3) := by decide +kernel
theorem d_Mo_readsCopy_19 : decode prog_10_method_52_code 19 = .ok (.ifCond .ne 9, 3) := by decide +kernel
theorem d_Mo_readsCopy_22 : decode prog_10_method_52_code 22 = .ok (.aload_n 0, 1) := by decide +kernel
theorem d_Mo_readsCopy_23 : decode prog_10_method_52_code 23 = .ok (.iconst 1, 1) := by decide +kernel
theorem d_Mo_readsCopy_24 : decode prog_10_method_52_code 24 = .ok (.invokevirtual 162, 3) := by decide +kernel
theorem d_Mo_readsCopy_27 : decode prog_10_method_52_code 27 = .ok (.ireturn, 1) := by decide +kernel
theorem d_Mo_readsCopy_28 : decode prog_10_method_52_code 28 = .ok (.aload_n 0, 1) := by decide +kernel
theorem d_Mo_readsCopy_29 : decode prog_10_method_52_code 29 = .ok (.getfield 152, 3) := by decide +kernel
theorem d_Mo_readsCopy_32 : decode prog_10_method_52_code 32 = .ok (.istore_n 2, 1) := by decide +kernel
theorem d_Mo_readsCopy_33 : decode prog_10_method_52_code 33 = .ok (.aload_n 0, 1) := by decide +kernel
theorem d_Mo_readsCopy_34 : decode prog_10_method_52_code 34 = .ok (.bipush 44, 2) := by decide +kernel
theorem d_Mo_readsCopy_36 : decode prog_10_method_52_code 36 = .ok (.invokevirtual 165, 3) := by decide +kernel
theorem d_Mo_readsCopy_39 : decode prog_10_method_52_code 39 = .ok (.ifCond .eq 19, 3) := by decide +kernel
theorem d_Mo_readsCopy_42 : decode prog_10_method_52_code 42 = .ok (.aload_n 0, 1) := by decide +kernel
theorem d_Mo_readsCopy_43 : decode prog_10_method_52_code 43 = .ok (.invokevirtual 158, 3) := by decide +kernel
theorem d_Mo_readsCopy_46 : decode prog_10_method_52_code 46 = .ok (.ifCond .eq 12, 3) := by decide +kernel
theorem d_Mo_readsCopy_49 : decode prog_10_method_52_code 49 = .ok (.aload_n 0, 1) := by decide +kernel
theorem d_Mo_readsCopy_50 : decode prog_10_method_52_code 50 = .ok (.bipush 41, 2) := by decide +kernel
theorem d_Mo_readsCopy_52 : decode prog_10_method_52_code 52 = .ok (.invokevirtual 165, 3) := by decide +kernel
theorem d_Mo_readsCopy_55 : decode prog_10_method_52_code 55 = .ok (.ifCond .ne 9, 3) := by decide +kernel
theorem d_Mo_readsCopy_58 : decode prog_10_method_52_code 58 = .ok (.aload_n 0, 1) := by decide +kernel
theorem d_Mo_readsCopy_59 : decode prog_10_method_52_code 59 = .ok (.iconst 1, 1) := by decide +kernel
theorem d_Mo_readsCopy_60 : decode prog_10_method_52_code 60 = .ok (.invokevirtual 162, 3) := by decide +kernel
theorem d_Mo_readsCopy_63 : decode prog_10_method_52_code 63 = .ok (.ireturn, 1) := by decide +kernel
theorem d_Mo_readsCopy_64 : decode prog_10_method_52_code 64 = .ok (.aload_n 0, 1) := by decide +kernel
theorem d_Mo_readsCopy_65 : decode prog_10_method_52_code 65 = .ok (.iload_n 2, 1) := by decide +kernel
theorem d_Mo_readsCopy_66 : decode prog_10_method_52_code 66 = .ok (.aload_n 0, 1) := by decide +kernel
theorem d_Mo_readsCopy_67 : decode prog_10_method_52_code 67 = .ok (.getfield 152, 3) := by decide +kernel
theorem d_Mo_readsCopy_70 : decode prog_10_method_52_code 70 = .ok (.invokevirtual 168, 3) := by decide +kernel
theorem d_Mo_readsCopy_73 : decode prog_10_method_52_code 73 = .ok (.istore_n 3, 1) := by decide +kernel
theorem d_Mo_readsCopy_74 : decode prog_10_method_52_code 74 = .ok (.iload_n 3, 1) := by decide +kernel
theorem d_Mo_readsCopy_75 : decode prog_10_method_52_code 75 = .ok (.ifCond .le 14, 3) := by decide +kernel
theorem d_Mo_readsCopy_78 : decode prog_10_method_52_code 78 = .ok (.aload_n 0, 1) := by decide +kernel
theorem d_Mo_readsCopy_79 : decode prog_10_method_52_code 79 = .ok (.iload_n 1, 1) := by decide +kernel
theorem d_Mo_readsCopy_80 : decode prog_10_method_52_code 80 = .ok (.putfield 143, 3) := by decide +kernel
theorem d_Mo_readsCopy_83 : decode prog_10_method_52_code 83 = .ok (.aload_n 0, 1) := by decide +kernel
theorem d_Mo_readsCopy_84 : decode prog_10_method_52_code 84 = .ok (.iload_n 3, 1) := by decide +kernel
theorem d_Mo_readsCopy_85 : decode prog_10_method_52_code 85 = .ok (.invokevirtual 162, 3) := by decide +kernel
theorem d_Mo_readsCopy_88 : decode prog_10_method_52_code 88 = .ok (.ireturn, 1) := by decide +kernel
theorem d_Mo_readsCopy_89 : decode prog_10_method_52_code 89 = .ok (.iconst 0, 1) := by decide +kernel
theorem d_Mo_readsCopy_90 : decode prog_10_method_52_code 90 = .ok (.istore 4, 2) := by decide +kernel
theorem d_Mo_readsCopy_92 : decode prog_10_method_52_code 92 = .ok (.iload 4, 2) := by decide +kernel
theorem d_Mo_readsCopy_94 : decode prog_10_method_52_code 94 = .ok (.aload_n 0, 1) := by decide +kernel
theorem d_Mo_readsCopy_95 : decode prog_10_method_52_code 95 = .ok (.getfield 152, 3) := by decide +kernel
theorem d_Mo_readsCopy_98 : decode prog_10_method_52_code 98 = .ok (.if_icmp .ge 39, 3) := by decide +kernel
theorem d_Mo_readsCopy_101 : decode prog_10_method_52_code 101 = .ok (.aload_n 0, 1) := by decide +kernel
theorem d_Mo_readsCopy_102 : decode prog_10_method_52_code 102 = .ok (.getfield 46, 3) := by decide +kernel
theorem d_Mo_readsCopy_105 : decode prog_10_method_52_code 105 = .ok (.aload_n 0, 1) := by decide +kernel
theorem d_Mo_readsCopy_106 : decode prog_10_method_52_code 106 = .ok (.getfield 155, 3) := by decide +kernel
theorem d_Mo_readsCopy_109 : decode prog_10_method_52_code 109 = .ok (.aload_n 0, 1) := by decide +kernel
theorem d_Mo_readsCopy_110 : decode prog_10_method_52_code 110 = .ok (.getfield 46, 3) := by decide +kernel
theorem d_Mo_readsCopy_113 : decode prog_10_method_52_code 113 = .ok (.aload_n 0, 1) := by decide +kernel
theorem d_Mo_readsCopy_114 : decode prog_10_method_52_code 114 = .ok (.getfield 155, 3) := by decide +kernel
theorem d_Mo_readsCopy_117 : decode prog_10_method_52_code 117 = .ok (.iload_n 2, 1) := by decide +kernel
theorem d_Mo_readsCopy_118 : decode prog_10_method_52_code 118 = .ok (.isub, 1) := by decide +kernel
theorem d_Mo_readsCopy_119 : decode prog_10_method_52_code 119 = .ok (.iaload, 1) := by decide +kernel
theorem d_Mo_readsCopy_120 : decode prog_10_method_52_code 120 = .ok (.iastore, 1) := by decide +kernel
theorem d_Mo_readsCopy_121 : decode prog_10_method_52_code 121 = .ok (.aload_n 0, 1) := by decide +kernel
theorem d_Mo_readsCopy_122 : decode prog_10_method_52_code 122 = .ok (.dup, 1) := by decide +kernel
theorem d_Mo_readsCopy_123 : decode prog_10_method_52_code 123 = .ok (.getfield 155, 3) := by decide +kernel
theorem d_Mo_readsCopy_126 : decode prog_10_method_52_code 126 = .ok (.iconst 1, 1) := by decide +kernel
theorem d_Mo_readsCopy_127 : decode prog_10_method_52_code 127 = .ok (.iadd, 1) := by decide +kernel
theorem d_Mo_readsCopy_128 : decode prog_10_method_52_code 128 = .ok (.putfield 155, 3) := by decide +kernel
theorem d_Mo_readsCopy_131 : decode prog_10_method_52_code 131 = .ok (.iinc 4 1, 3) := by decide +kernel
theorem d_Mo_readsCopy_134 : decode prog_10_method_52_code 134 = .ok (.goto (-42), 3) := by decide +kernel
theorem d_Mo_readsCopy_137 : decode prog_10_method_52_code 137 = .ok (.iconst 1, 1) := by decide +kernel
theorem d_Mo_readsCopy_138 : decode prog_10_method_52_code 138 = .ok (.ireturn, 1) := by decide +kernel
end
section
theorem d_Mo_readsLetter_0 : decode prog_10_method_53_code 0 = .ok (.aload_n 0, 1) := by decide +kernel
theorem d_Mo_readsLetter_1 : decode prog_10_method_53_code 1 = .ok (.bipush 97, 2) := by decide +kernel
theorem d_Mo_readsLetter_3 : decode prog_10_method_53_code 3 = .ok (.bipush 104, 2) := by decide +kernel
theorem d_Mo_readsLetter_5 : decode prog_10_method_53_code 5 = .ok (.invokevirtual 149, 3) := by decide +kernel
theorem d_Mo_readsLetter_8 : decode prog_10_method_53_code 8 = .ok (.ifCond .ne 9, 3) := by decide +kernel
theorem d_Mo_readsLetter_11 : decode prog_10_method_53_code 11 = .ok (.aload_n 0, 1) := by decide +kernel
theorem d_Mo_readsLetter_12 : decode prog_10_method_53_code 12 = .ok (.iconst 1, 1) := by decide +kernel
theorem d_Mo_readsLetter_13 : decode prog_10_method_53_code 13 = .ok (.invokevirtual 162, 3) := by decide +kernel
theorem d_Mo_readsLetter_16 : decode prog_10_method_53_code 16 = .ok (.ireturn, 1) := by decide +kernel
theorem d_Mo_readsLetter_17 : decode prog_10_method_53_code 17 = .ok (.aload_n 0, 1) := by decide +kernel
theorem d_Mo_readsLetter_18 : decode prog_10_method_53_code 18 = .ok (.getfield 155, 3) := by decide +kernel
theorem d_Mo_readsLetter_21 : decode prog_10_method_53_code 21 = .ok (.bipush 60, 2) := by decide +kernel
theorem d_Mo_readsLetter_23 : decode prog_10_method_53_code 23 = .ok (.if_icmp .ne 9, 3) := by decide +kernel
theorem d_Mo_readsLetter_26 : decode prog_10_method_53_code 26 = .ok (.aload_n 0, 1) := by decide +kernel
theorem d_Mo_readsLetter_27 : decode prog_10_method_53_code 27 = .ok (.iconst 4, 1) := by decide +kernel
theorem d_Mo_readsLetter_28 : decode prog_10_method_53_code 28 = .ok (.invokevirtual 162, 3) := by decide +kernel
theorem d_Mo_readsLetter_31 : decode prog_10_method_53_code 31 = .ok (.ireturn, 1) := by decide +kernel
theorem d_Mo_readsLetter_32 : decode prog_10_method_53_code 32 = .ok (.aload_n 0, 1) := by decide +kernel
theorem d_Mo_readsLetter_33 : decode prog_10_method_53_code 33 = .ok (.getfield 46, 3) := by decide +kernel
theorem d_Mo_readsLetter_36 : decode prog_10_method_53_code 36 = .ok (.aload_n 0, 1) := by decide +kernel
theorem d_Mo_readsLetter_37 : decode prog_10_method_53_code 37 = .ok (.getfield 155, 3) := by decide +kernel
theorem d_Mo_readsLetter_40 : decode prog_10_method_53_code 40 = .ok (.aload_n 0, 1) := by decide +kernel
theorem d_Mo_readsLetter_41 : decode prog_10_method_53_code 41 = .ok (.getfield 19, 3) := by decide +kernel
theorem d_Mo_readsLetter_44 : decode prog_10_method_53_code 44 = .ok (.aload_n 0, 1) := by decide +kernel
theorem d_Mo_readsLetter_45 : decode prog_10_method_53_code 45 = .ok (.getfield 143, 3) := by decide +kernel
theorem d_Mo_readsLetter_48 : decode prog_10_method_53_code 48 = .ok (.iaload, 1) := by decide +kernel
theorem d_Mo_readsLetter_49 : decode prog_10_method_53_code 49 = .ok (.bipush 97, 2) := by decide +kernel
theorem d_Mo_readsLetter_51 : decode prog_10_method_53_code 51 = .ok (.isub, 1) := by decide +kernel
theorem d_Mo_readsLetter_52 : decode prog_10_method_53_code 52 = .ok (.iastore, 1) := by decide +kernel
theorem d_Mo_readsLetter_53 : decode prog_10_method_53_code 53 = .ok (.aload_n 0, 1) := by decide +kernel
theorem d_Mo_readsLetter_54 : decode prog_10_method_53_code 54 = .ok (.dup, 1) := by decide +kernel
theorem d_Mo_readsLetter_55 : decode prog_10_method_53_code 55 = .ok (.getfield 155, 3) := by decide +kernel
theorem d_Mo_readsLetter_58 : decode prog_10_method_53_code 58 = .ok (.iconst 1, 1) := by decide +kernel
theorem d_Mo_readsLetter_59 : decode prog_10_method_53_code 59 = .ok (.iadd, 1) := by decide +kernel
theorem d_Mo_readsLetter_60 : decode prog_10_method_53_code 60 = .ok (.putfield 155, 3) := by decide +kernel
theorem d_Mo_readsLetter_63 : decode prog_10_method_53_code 63 = .ok (.aload_n 0, 1) := by decide +kernel
theorem d_Mo_readsLetter_64 : decode prog_10_method_53_code 64 = .ok (.dup, 1) := by decide +kernel
theorem d_Mo_readsLetter_65 : decode prog_10_method_53_code 65 = .ok (.getfield 143, 3) := by decide +kernel
theorem d_Mo_readsLetter_68 : decode prog_10_method_53_code 68 = .ok (.iconst 1, 1) := by decide +kernel
theorem d_Mo_readsLetter_69 : decode prog_10_method_53_code 69 = .ok (.iadd, 1) := by decide +kernel
theorem d_Mo_readsLetter_70 : decode prog_10_method_53_code 70 = .ok (.putfield 143, 3) := by decide +kernel
theorem d_Mo_readsLetter_73 : decode prog_10_method_53_code 73 = .ok (.iconst 1, 1) := by decide +kernel
theorem d_Mo_readsLetter_74 : decode prog_10_method_53_code 74 = .ok (.ireturn, 1) := by decide +kernel
theorem d_Mo_isRight_0 : decode prog_10_method_54_code 0 = .ok (.aload_n 0, 1) := by decide +kernel
theorem d_Mo_isRight_1 : decode prog_10_method_54_code 1 = .ok (.iconst 0, 1) := by decide +kernel
theorem d_Mo_isRight_2 : decode prog_10_method_54_code 2 = .ok (.putfield 143, 3) := by decide +kernel
theorem d_Mo_isRight_5 : decode prog_10_method_54_code 5 = .ok (.aload_n 0, 1) := by decide +kernel
theorem d_Mo_isRight_6 : decode prog_10_method_54_code 6 = .ok (.iconst 0, 1) := by decide +kernel
theorem d_Mo_isRight_7 : decode prog_10_method_54_code 7 = .ok (.putfield 155, 3) := by decide +kernel
theorem d_Mo_isRight_10 : decode prog_10_method_54_code 10 = .ok (.iconst 1, 1) := by decide +kernel
theorem d_Mo_isRight_11 : decode prog_10_method_54_code 11 = .ok (.istore_n 1, 1) := by decide +kernel
theorem d_Mo_isRight_12 : decode prog_10_method_54_code 12 = .ok (.iload_n 1, 1) := by decide +kernel
theorem d_Mo_isRight_13 : decode prog_10_method_54_code 13 = .ok (.ifCond .eq 40, 3) := by decide +kernel
theorem d_Mo_isRight_16 : decode prog_10_method_54_code 16 = .ok (.aload_n 0, 1) := by decide +kernel
theorem d_Mo_isRight_17 : decode prog_10_method_54_code 17 = .ok (.getfield 143, 3) := by decide +kernel
theorem d_Mo_isRight_20 : decode prog_10_method_54_code 20 = .ok (.aload_n 0, 1) := by decide +kernel
theorem d_Mo_isRight_21 : decode prog_10_method_54_code 21 = .ok (.getfield 123, 3) := by decide +kernel
theorem d_Mo_isRight_24 : decode prog_10_method_54_code 24 = .ok (.if_icmp .ge 29, 3) := by decide +kernel
theorem d_Mo_isRight_27 : decode prog_10_method_54_code 27 = .ok (.aload_n 0, 1) := by decide +kernel
theorem d_Mo_isRight_28 : decode prog_10_method_54_code 28 = .ok (.bipush 40, 2) := by decide +kernel
theorem d_Mo_isRight_30 : decode prog_10_method_54_code 30 = .ok (.bipush 40, 2) := by decide +kernel
theorem d_Mo_isRight_32 : decode prog_10_method_54_code 32 = .ok (.invokevirtual 149, 3) := by decide +kernel
theorem d_Mo_isRight_35 : decode prog_10_method_54_code 35 = .ok (.ifCond .eq 10, 3) := by decide +kernel
theorem d_Mo_isRight_38 : decode prog_10_method_54_code 38 = .ok (.aload_n 0, 1) := by decide +kernel
theorem d_Mo_isRight_39 : decode prog_10_method_54_code 39 = .ok (.invokevirtual 171, 3) := by decide +kernel
theorem d_Mo_isRight_42 : decode prog_10_method_54_code 42 = .ok (.goto 7, 3) := by decide +kernel
theorem d_Mo_isRight_45 : decode prog_10_method_54_code 45 = .ok (.aload_n 0, 1) := by decide +kernel
theorem d_Mo_isRight_46 : decode prog_10_method_54_code 46 = .ok (.invokevirtual 174, 3) := by decide +kernel
theorem d_Mo_isRight_49 : decode prog_10_method_54_code 49 = .ok (.istore_n 1, 1) := by decide +kernel
theorem d_Mo_isRight_50 : decode prog_10_method_54_code 50 = .ok (.goto (-38), 3) := by decide +kernel
theorem d_Mo_isRight_53 : decode prog_10_method_54_code 53 = .ok (.iload_n 1, 1) := by decide +kernel
theorem d_Mo_isRight_54 : decode prog_10_method_54_code 54 = .ok (.ireturn, 1) := by decide +kernel
theorem d_Mo_fault_0 : decode prog_10_method_55_code 0 = .ok (.iload_n 1, 1) := by decide +kernel
theorem d_Mo_fault_1 : decode prog_10_method_55_code 1 = .ok (.iconst 0, 1) := by decide +kernel
theorem d_Mo_fault_2 : decode prog_10_method_55_code 2 = .ok (.iconst 1, 1) := by decide +kernel
theorem d_Mo_fault_3 : decode prog_10_method_55_code 3 = .ok (.invokestatic 53, 3) := by decide +kernel
theorem d_Mo_fault_6 : decode prog_10_method_55_code 6 = .ok (.ifCond .ne 7, 3) := by decide +kernel
theorem d_Mo_fault_9 : decode prog_10_method_55_code 9 = .ok (.sipush (-10001), 3) := by decide +kernel
theorem d_Mo_fault_12 : decode prog_10_method_55_code 12 = .ok (.ireturn, 1) := by decide +kernel
theorem d_Mo_fault_13 : decode prog_10_method_55_code 13 = .ok (.aload_n 0, 1) := by decide +kernel
theorem d_Mo_fault_14 : decode prog_10_method_55_code 14 = .ok (.invokevirtual 177, 3) := by decide +kernel
theorem d_Mo_fault_17 : decode prog_10_method_55_code 17 = .ok (.ifCond .eq 9, 3) := by decide +kernel
theorem d_Mo_fault_20 : decode prog_10_method_55_code 20 = .ok (.sipush (-10004), 3) := by decide +kernel
theorem d_Mo_fault_23 : decode prog_10_method_55_code 23 = .ok (.goto 18, 3) := by decide +kernel
theorem d_Mo_fault_26 : decode prog_10_method_55_code 26 = .ok (.iload_n 1, 1) := by decide +kernel
theorem d_Mo_fault_27 : decode prog_10_method_55_code 27 = .ok (.ifCond .ne 10, 3) := by decide +kernel
theorem d_Mo_fault_30 : decode prog_10_method_55_code 30 = .ok (.aload_n 0, 1) := by decide +kernel
theorem d_Mo_fault_31 : decode prog_10_method_55_code 31 = .ok (.getfield 143, 3) := by decide +kernel
theorem d_Mo_fault_34 : decode prog_10_method_55_code 34 = .ok (.goto 7, 3) := by decide +kernel
theorem d_Mo_fault_37 : decode prog_10_method_55_code 37 = .ok (.aload_n 0, 1) := by decide +kernel
theorem d_Mo_fault_38 : decode prog_10_method_55_code 38 = .ok (.getfield 146, 3) := by decide +kernel
theorem d_Mo_fault_41 : decode prog_10_method_55_code 41 = .ok (.ireturn, 1) := by decide +kernel
theorem d_Mo_read_0 : decode prog_10_method_56_code 0 = .ok (.aload_n 0, 1) := by decide +kernel
theorem d_Mo_read_1 : decode prog_10_method_56_code 1 = .ok (.invokevirtual 177, 3) := by decide +kernel
theorem d_Mo_read_4 : decode prog_10_method_56_code 4 = .ok (.ifCond .ne 7, 3) := by decide +kernel
theorem d_Mo_read_7 : decode prog_10_method_56_code 7 = .ok (.sipush (-10002), 3) := by decide +kernel
theorem d_Mo_read_10 : decode prog_10_method_56_code 10 = .ok (.ireturn, 1) := by decide +kernel
theorem d_Mo_read_11 : decode prog_10_method_56_code 11 = .ok (.aload_n 0, 1) := by decide +kernel
theorem d_Mo_read_12 : decode prog_10_method_56_code 12 = .ok (.invokevirtual 57, 3) := by decide +kernel
theorem d_Mo_read_15 : decode prog_10_method_56_code 15 = .ok (.aload_n 0, 1) := by decide +kernel
theorem d_Mo_read_16 : decode prog_10_method_56_code 16 = .ok (.getfield 7, 3) := by decide +kernel
theorem d_Mo_read_19 : decode prog_10_method_56_code 19 = .ok (.iconst 0, 1) := by decide +kernel
theorem d_Mo_read_20 : decode prog_10_method_56_code 20 = .ok (.aload_n 0, 1) := by decide +kernel
theorem d_Mo_read_21 : decode prog_10_method_56_code 21 = .ok (.getfield 155, 3) := by decide +kernel
theorem d_Mo_read_24 : decode prog_10_method_56_code 24 = .ok (.iastore, 1) := by decide +kernel
theorem d_Mo_read_25 : decode prog_10_method_56_code 25 = .ok (.iconst 0, 1) := by decide +kernel
theorem d_Mo_read_26 : decode prog_10_method_56_code 26 = .ok (.istore_n 1, 1) := by decide +kernel
theorem d_Mo_read_27 : decode prog_10_method_56_code 27 = .ok (.iload_n 1, 1) := by decide +kernel
theorem d_Mo_read_28 : decode prog_10_method_56_code 28 = .ok (.aload_n 0, 1) := by decide +kernel
theorem d_Mo_read_29 : decode prog_10_method_56_code 29 = .ok (.getfield 155, 3) := by decide +kernel
theorem d_Mo_read_32 : decode prog_10_method_56_code 32 = .ok (.if_icmp .ge 24, 3) := by decide +kernel
theorem d_Mo_read_35 : decode prog_10_method_56_code 35 = .ok (.aload_n 0, 1) := by decide +kernel
theorem d_Mo_read_36 : decode prog_10_method_56_code 36 = .ok (.getfield 7, 3) := by decide +kernel
theorem d_Mo_read_39 : decode prog_10_method_56_code 39 = .ok (.bipush 6, 2) := by decide +kernel
theorem d_Mo_read_41 : decode prog_10_method_56_code 41 = .ok (.iload_n 1, 1) := by decide +kernel
theorem d_Mo_read_42 : decode prog_10_method_56_code 42 = .ok (.iadd, 1) := by decide +kernel
theorem d_Mo_read_43 : decode prog_10_method_56_code 43 = .ok (.aload_n 0, 1) := by decide +kernel
theorem d_Mo_read_44 : decode prog_10_method_56_code 44 = .ok (.getfield 46, 3) := by decide +kernel
theorem d_Mo_read_47 : decode prog_10_method_56_code 47 = .ok (.iload_n 1, 1) := by decide +kernel
theorem d_Mo_read_48 : decode prog_10_method_56_code 48 = .ok (.iaload, 1) := by decide +kernel
theorem d_Mo_read_49 : decode prog_10_method_56_code 49 = .ok (.iastore, 1) := by decide +kernel
theorem d_Mo_read_50 : decode prog_10_method_56_code 50 = .ok (.iinc 1 1, 3) := by decide +kernel
theorem d_Mo_read_53 : decode prog_10_method_56_code 53 = .ok (.goto (-26), 3) := by decide +kernel
theorem d_Mo_read_56 : decode prog_10_method_56_code 56 = .ok (.aload_n 0, 1) := by decide +kernel
theorem d_Mo_read_57 : decode prog_10_method_56_code 57 = .ok (.getfield 155, 3) := by decide +kernel
theorem d_Mo_read_60 : decode prog_10_method_56_code 60 = .ok (.ireturn, 1) := by decide +kernel
theorem d_Cand_init_0 : decode prog_2_method_1_code 0 = .ok (.aload_n 0, 1) := by decide +kernel
theorem d_Cand_init_1 : decode prog_2_method_1_code 1 = .ok (.invokespecial 3, 3) := by decide +kernel
theorem d_Cand_init_4 : decode prog_2_method_1_code 4 = .ok (.aload_n 0, 1) := by decide +kernel
theorem d_Cand_init_5 : decode prog_2_method_1_code 5 = .ok (.bipush 61, 2) := by decide +kernel
theorem d_Cand_init_7 : decode prog_2_method_1_code 7 = .ok (.newarray .int, 2) := by decide +kernel
theorem d_Cand_init_9 : decode prog_2_method_1_code 9 = .ok (.putfield 9, 3) := by decide +kernel
theorem d_Cand_init_12 : decode prog_2_method_1_code 12 = .ok (.aload_n 0, 1) := by decide +kernel
theorem d_Cand_init_13 : decode prog_2_method_1_code 13 = .ok (.bipush 60, 2) := by decide +kernel
theorem d_Cand_init_15 : decode prog_2_method_1_code 15 = .ok (.newarray .int, 2) := by decide +kernel
theorem d_Cand_init_17 : decode prog_2_method_1_code 17 = .ok (.putfield 15, 3) := by decide +kernel
theorem d_Cand_init_20 : decode prog_2_method_1_code 20 = .ok (.aload_n 0, 1) := by decide +kernel
theorem d_Cand_init_21 : decode prog_2_method_1_code 21 = .ok (.iconst 0, 1) := by decide +kernel
theorem d_Cand_init_22 : decode prog_2_method_1_code 22 = .ok (.putfield 18, 3) := by decide +kernel
theorem d_Cand_init_25 : decode prog_2_method_1_code 25 = .ok (.aload_n 0, 1) := by decide +kernel
theorem d_Cand_init_26 : decode prog_2_method_1_code 26 = .ok (.iconst 0, 1) := by decide +kernel
theorem d_Cand_init_27 : decode prog_2_method_1_code 27 = .ok (.putfield 22, 3) := by decide +kernel
theorem d_Cand_init_30 : decode prog_2_method_1_code 30 = .ok (.aload_n 0, 1) := by decide +kernel
theorem d_Cand_init_31 : decode prog_2_method_1_code 31 = .ok (.iconst 0, 1) := by decide +kernel
theorem d_Cand_init_32 : decode prog_2_method_1_code 32 = .ok (.putfield 25, 3) := by decide +kernel
theorem d_Cand_init_35 : decode prog_2_method_1_code 35 = .ok (.aload_n 0, 1) := by decide +kernel
theorem d_Cand_init_36 : decode prog_2_method_1_code 36 = .ok (.aload_n 1, 1) := by decide +kernel
theorem d_Cand_init_37 : decode prog_2_method_1_code 37 = .ok (.putfield 28, 3) := by decide +kernel
theorem d_Cand_init_40 : decode prog_2_method_1_code 40 = .ok (.return_, 1) := by decide +kernel
theorem d_Cand_beginBehindRow_0 : decode prog_2_method_2_code 0 = .ok (.aload_n 0, 1) := by decide +kernel
theorem d_Cand_beginBehindRow_1 : decode prog_2_method_2_code 1 = .ok (.aload_n 0, 1) := by decide +kernel
theorem d_Cand_beginBehindRow_2 : decode prog_2_method_2_code 2 = .ok (.getfield 28, 3) := by decide +kernel
theorem d_Cand_beginBehindRow_5 : decode prog_2_method_2_code 5 = .ok (.invokevirtual 32, 3) := by decide +kernel
theorem d_Cand_beginBehindRow_8 : decode prog_2_method_2_code 8 = .ok (.putfield 18, 3) := by decide +kernel
theorem d_Cand_beginBehindRow_11 : decode prog_2_method_2_code 11 = .ok (.aload_n 0, 1) := by decide +kernel
theorem d_Cand_beginBehindRow_12 : decode prog_2_method_2_code 12 = .ok (.iconst 0, 1) := by decide +kernel
theorem d_Cand_beginBehindRow_13 : decode prog_2_method_2_code 13 = .ok (.putfield 22, 3) := by decide +kernel
theorem d_Cand_beginBehindRow_16 : decode prog_2_method_2_code 16 = .ok (.aload_n 0, 1) := by decide +kernel
theorem d_Cand_beginBehindRow_17 : decode prog_2_method_2_code 17 = .ok (.iconst 0, 1) := by decide +kernel
theorem d_Cand_beginBehindRow_18 : decode prog_2_method_2_code 18 = .ok (.putfield 25, 3) := by decide +kernel
theorem d_Cand_beginBehindRow_21 : decode prog_2_method_2_code 21 = .ok (.iconst 0, 1) := by decide +kernel
theorem d_Cand_beginBehindRow_22 : decode prog_2_method_2_code 22 = .ok (.istore_n 1, 1) := by decide +kernel
theorem d_Cand_beginBehindRow_23 : decode prog_2_method_2_code 23 = .ok (.iload_n 1, 1) := by decide +kernel
theorem d_Cand_beginBehindRow_24 : decode prog_2_method_2_code 24 = .ok (.aload_n 0, 1) := by decide +kernel
theorem d_Cand_beginBehindRow_25 : decode prog_2_method_2_code 25 = .ok (.getfield 9, 3) := by decide +kernel
theorem d_Cand_beginBehindRow_28 : decode prog_2_method_2_code 28 = .ok (.arraylength, 1) := by decide +kernel
theorem d_Cand_beginBehindRow_29 : decode prog_2_method_2_code 29 = .ok (.if_icmp .ge 18, 3) := by decide +kernel
theorem d_Cand_beginBehindRow_32 : decode prog_2_method_2_code 32 = .ok (.aload_n 0, 1) := by decide +kernel
theorem d_Cand_beginBehindRow_33 : decode prog_2_method_2_code 33 = .ok (.getfield 9, 3) := by decide +kernel
theorem d_Cand_beginBehindRow_36 : decode prog_2_method_2_code 36 = .ok (.iload_n 1, 1) := by decide +kernel
theorem d_Cand_beginBehindRow_37 : decode prog_2_method_2_code 37 = .ok (.iconst 0, 1) := by decide +kernel
theorem d_Cand_beginBehindRow_38 : decode prog_2_method_2_code 38 = .ok (.invokestatic 38, 3) := by decide +kernel
theorem d_Cand_beginBehindRow_41 : decode prog_2_method_2_code 41 = .ok (.iinc 1 1, 3) := by decide +kernel
theorem d_Cand_beginBehindRow_44 : decode prog_2_method_2_code 44 = .ok (.goto (-21), 3) := by decide +kernel
theorem d_Cand_beginBehindRow_47 : decode prog_2_method_2_code 47 = .ok (.return_, 1) := by decide +kernel
theorem d_Cand_stepAhead_0 : decode prog_2_method_3_code 0 = .ok (.aload_n 0, 1) := by decide +kernel
theorem d_Cand_stepAhead_1 : decode prog_2_method_3_code 1 = .ok (.dup, 1) := by decide +kernel
theorem d_Cand_stepAhead_2 : decode prog_2_method_3_code 2 = .ok (.getfield 18, 3) := by decide +kernel
theorem d_Cand_stepAhead_5 : decode prog_2_method_3_code 5 = .ok (.iconst 1, 1) := by decide +kernel
theorem d_Cand_stepAhead_6 : decode prog_2_method_3_code 6 = .ok (.isub, 1) := by decide +kernel
theorem d_Cand_stepAhead_7 : decode prog_2_method_3_code 7 = .ok (.putfield 18, 3) := by decide +kernel
theorem d_Cand_stepAhead_10 : decode prog_2_method_3_code 10 = .ok (.aload_n 0, 1) := by decide +kernel
theorem d_Cand_stepAhead_11 : decode prog_2_method_3_code 11 = .ok (.iconst 0, 1) := by decide +kernel
theorem d_Cand_stepAhead_12 : decode prog_2_method_3_code 12 = .ok (.putfield 22, 3) := by decide +kernel
theorem d_Cand_stepAhead_15 : decode prog_2_method_3_code 15 = .ok (.aload_n 0, 1) := by decide +kernel
theorem d_Cand_stepAhead_16 : decode prog_2_method_3_code 16 = .ok (.iconst 0, 1) := by decide +kernel
theorem d_Cand_stepAhead_17 : decode prog_2_method_3_code 17 = .ok (.putfield 25, 3) := by decide +kernel
theorem d_Cand_stepAhead_20 : decode prog_2_method_3_code 20 = .ok (.aload_n 0, 1) := by decide +kernel
theorem d_Cand_stepAhead_21 : decode prog_2_method_3_code 21 = .ok (.getfield 28, 3) := by decide +kernel
theorem d_Cand_stepAhead_24 : decode prog_2_method_3_code 24 = .ok (.iconst 0, 1) := by decide +kernel
theorem d_Cand_stepAhead_25 : decode prog_2_method_3_code 25 = .ok (.invokevirtual 42, 3) := by decide +kernel
theorem d_Cand_stepAhead_28 : decode prog_2_method_3_code 28 = .ok (.aload_n 0, 1) := by decide +kernel
theorem d_Cand_stepAhead_29 : decode prog_2_method_3_code 29 = .ok (.getfield 18, 3) := by decide +kernel
theorem d_Cand_stepAhead_32 : decode prog_2_method_3_code 32 = .ok (.invokestatic 46, 3) := by decide +kernel
theorem d_Cand_stepAhead_35 : decode prog_2_method_3_code 35 = .ok (.istore_n 1, 1) := by decide +kernel
theorem d_Cand_stepAhead_36 : decode prog_2_method_3_code 36 = .ok (.aload_n 0, 1) := by decide +kernel
theorem d_Cand_stepAhead_37 : decode prog_2_method_3_code 37 = .ok (.getfield 28, 3) := by decide +kernel
theorem d_Cand_stepAhead_40 : decode prog_2_method_3_code 40 = .ok (.iconst 2, 1) := by decide +kernel
theorem d_Cand_stepAhead_41 : decode prog_2_method_3_code 41 = .ok (.invokevirtual 42, 3) := by decide +kernel
theorem d_Cand_stepAhead_44 : decode prog_2_method_3_code 44 = .ok (.istore_n 2, 1) := by decide +kernel
theorem d_Cand_stepAhead_45 : decode prog_2_method_3_code 45 = .ok (.iconst 1, 1) := by decide +kernel
theorem d_Cand_stepAhead_46 : decode prog_2_method_3_code 46 = .ok (.istore_n 3, 1) := by decide +kernel
theorem d_Cand_stepAhead_47 : decode prog_2_method_3_code 47 = .ok (.iload_n 3, 1) := by decide +kernel
theorem d_Cand_stepAhead_48 : decode prog_2_method_3_code 48 = .ok (.iload_n 1, 1) := by decide +kernel
theorem d_Cand_stepAhead_49 : decode prog_2_method_3_code 49 = .ok (.if_icmp .gt 86, 3) := by decide +kernel
theorem d_Cand_stepAhead_52 : decode prog_2_method_3_code 52 = .ok (.aload_n 0, 1) := by decide +kernel
theorem d_Cand_stepAhead_53 : decode prog_2_method_3_code 53 = .ok (.getfield 28, 3) := by decide +kernel
theorem d_Cand_stepAhead_56 : decode prog_2_method_3_code 56 = .ok (.aload_n 0, 1) := by decide +kernel
theorem d_Cand_stepAhead_57 : decode prog_2_method_3_code 57 = .ok (.getfield 18, 3) := by decide +kernel
theorem d_Cand_stepAhead_60 : decode prog_2_method_3_code 60 = .ok (.invokevirtual 52, 3) := by decide +kernel
theorem d_Cand_stepAhead_63 : decode prog_2_method_3_code 63 = .ok (.aload_n 0, 1) := by decide +kernel
theorem d_Cand_stepAhead_64 : decode prog_2_method_3_code 64 = .ok (.getfield 28, 3) := by decide +kernel
theorem d_Cand_stepAhead_67 : decode prog_2_method_3_code 67 = .ok (.aload_n 0, 1) := by decide +kernel
theorem d_Cand_stepAhead_68 : decode prog_2_method_3_code 68 = .ok (.getfield 18, 3) := by decide +kernel
theorem d_Cand_stepAhead_71 : decode prog_2_method_3_code 71 = .ok (.iload_n 3, 1) := by decide +kernel
theorem d_Cand_stepAhead_72 : decode prog_2_method_3_code 72 = .ok (.isub, 1) := by decide +kernel
theorem d_Cand_stepAhead_73 : decode prog_2_method_3_code 73 = .ok (.invokevirtual 52, 3) := by decide +kernel
theorem d_Cand_stepAhead_76 : decode prog_2_method_3_code 76 = .ok (.if_icmp .ne 7, 3) := by decide +kernel
theorem d_Cand_stepAhead_79 : decode prog_2_method_3_code 79 = .ok (.iconst 1, 1) := by decide +kernel
theorem d_Cand_stepAhead_80 : decode prog_2_method_3_code 80 = .ok (.goto 4, 3) := by decide +kernel
theorem d_Cand_stepAhead_83 : decode prog_2_method_3_code 83 = .ok (.iconst 0, 1) := by decide +kernel
theorem d_Cand_stepAhead_84 : decode prog_2_method_3_code 84 = .ok (.istore 4, 2) := by decide +kernel
theorem d_Cand_stepAhead_86 : decode prog_2_method_3_code 86 = .ok (.iload 4, 2) := by decide +kernel
theorem d_Cand_stepAhead_88 : decode prog_2_method_3_code 88 = .ok (.ifCond .eq 16, 3) := by decide +kernel
theorem d_Cand_stepAhead_91 : decode prog_2_method_3_code 91 = .ok (.aload_n 0, 1) := by decide +kernel
theorem d_Cand_stepAhead_92 : decode prog_2_method_3_code 92 = .ok (.getfield 9, 3) := by decide +kernel
theorem d_Cand_stepAhead_95 : decode prog_2_method_3_code 95 = .ok (.iload_n 3, 1) := by decide +kernel
theorem d_Cand_stepAhead_96 : decode prog_2_method_3_code 96 = .ok (.invokestatic 55, 3) := by decide +kernel
theorem d_Cand_stepAhead_99 : decode prog_2_method_3_code 99 = .ok (.iconst 1, 1) := by decide +kernel
theorem d_Cand_stepAhead_100 : decode prog_2_method_3_code 100 = .ok (.iadd, 1) := by decide +kernel
theorem d_Cand_stepAhead_101 : decode prog_2_method_3_code 101 = .ok (.goto 4, 3) := by decide +kernel
theorem d_Cand_stepAhead_104 : decode prog_2_method_3_code 104 = .ok (.iconst 0, 1) := by decide +kernel
theorem d_Cand_stepAhead_105 : decode prog_2_method_3_code 105 = .ok (.istore 5, 2) := by decide +kernel
theorem d_Cand_stepAhead_107 : decode prog_2_method_3_code 107 = .ok (.aload_n 0, 1) := by decide +kernel
theorem d_Cand_stepAhead_108 : decode prog_2_method_3_code 108 = .ok (.getfield 9, 3) := by decide +kernel
theorem d_Cand_stepAhead_111 : decode prog_2_method_3_code 111 = .ok (.iload_n 3, 1) := by decide +kernel
theorem d_Cand_stepAhead_112 : decode prog_2_method_3_code 112 = .ok (.iload 5, 2) := by decide +kernel
theorem d_Cand_stepAhead_114 : decode prog_2_method_3_code 114 = .ok (.invokestatic 38, 3) := by decide +kernel
theorem d_Cand_stepAhead_117 : decode prog_2_method_3_code 117 = .ok (.iload 5, 2) := by decide +kernel
theorem d_Cand_stepAhead_119 : decode prog_2_method_3_code 119 = .ok (.iconst 2, 1) := by decide +kernel
theorem d_Cand_stepAhead_120 : decode prog_2_method_3_code 120 = .ok (.if_icmp .lt 9, 3) := by decide +kernel
theorem d_Cand_stepAhead_123 : decode prog_2_method_3_code 123 = .ok (.aload_n 0, 1) := by decide +kernel
theorem d_Cand_stepAhead_124 : decode prog_2_method_3_code 124 = .ok (.iload_n 3, 1) := by decide +kernel
theorem d_Cand_stepAhead_125 : decode prog_2_method_3_code 125 = .ok (.iload_n 2, 1) := by decide +kernel
theorem d_Cand_stepAhead_126 : decode prog_2_method_3_code 126 = .ok (.invokevirtual 59, 3) := by decide +kernel
theorem d_Cand_stepAhead_129 : decode prog_2_method_3_code 129 = .ok (.iinc 3 1, 3) := by decide +kernel
theorem d_Cand_stepAhead_132 : decode prog_2_method_3_code 132 = .ok (.goto (-85), 3) := by decide +kernel
theorem d_Cand_stepAhead_135 : decode prog_2_method_3_code 135 = .ok (.return_, 1) := by decide +kernel
theorem d_Cand_takeIn_0 : decode prog_2_method_4_code 0 = .ok (.aload_n 0, 1) := by decide +kernel
theorem d_Cand_takeIn_1 : decode prog_2_method_4_code 1 = .ok (.dup, 1) := by decide +kernel
theorem d_Cand_takeIn_2 : decode prog_2_method_4_code 2 = .ok (.getfield 22, 3) := by decide +kernel
theorem d_Cand_takeIn_5 : decode prog_2_method_4_code 5 = .ok (.iconst 1, 1) := by decide +kernel
theorem d_Cand_takeIn_6 : decode prog_2_method_4_code 6 = .ok (.iadd, 1) := by decide +kernel
theorem d_Cand_takeIn_7 : decode prog_2_method_4_code 7 = .ok (.putfield 22, 3) := by decide +kernel
theorem d_Cand_takeIn_10 : decode prog_2_method_4_code 10 = .ok (.aload_n 0, 1) := by decide +kernel
theorem d_Cand_takeIn_11 : decode prog_2_method_4_code 11 = .ok (.getfield 25, 3) := by decide +kernel
theorem d_Cand_takeIn_14 : decode prog_2_method_4_code 14 = .ok (.iload_n 2, 1) := by decide +kernel
theorem d_Cand_takeIn_15 : decode prog_2_method_4_code 15 = .ok (.if_icmp .ge 25, 3) := by decide +kernel
theorem d_Cand_takeIn_18 : decode prog_2_method_4_code 18 = .ok (.aload_n 0, 1) := by decide +kernel
theorem d_Cand_takeIn_19 : decode prog_2_method_4_code 19 = .ok (.getfield 15, 3) := by decide +kernel
theorem d_Cand_takeIn_22 : decode prog_2_method_4_code 22 = .ok (.aload_n 0, 1) := by decide +kernel
theorem d_Cand_takeIn_23 : decode prog_2_method_4_code 23 = .ok (.getfield 25, 3) := by decide +kernel
theorem d_Cand_takeIn_26 : decode prog_2_method_4_code 26 = .ok (.iload_n 1, 1) := by decide +kernel
theorem d_Cand_takeIn_27 : decode prog_2_method_4_code 27 = .ok (.invokestatic 38, 3) := by decide +kernel
theorem d_Cand_takeIn_30 : decode prog_2_method_4_code 30 = .ok (.aload_n 0, 1) := by decide +kernel
theorem d_Cand_takeIn_31 : decode prog_2_method_4_code 31 = .ok (.dup, 1) := by decide +kernel
theorem d_Cand_takeIn_32 : decode prog_2_method_4_code 32 = .ok (.getfield 25, 3) := by decide +kernel
theorem d_Cand_takeIn_35 : decode prog_2_method_4_code 35 = .ok (.iconst 1, 1) := by decide +kernel
theorem d_Cand_takeIn_36 : decode prog_2_method_4_code 36 = .ok (.iadd, 1) := by decide +kernel
theorem d_Cand_takeIn_37 : decode prog_2_method_4_code 37 = .ok (.putfield 25, 3) := by decide +kernel
theorem d_Cand_takeIn_40 : decode prog_2_method_4_code 40 = .ok (.return_, 1) := by decide +kernel
theorem d_Cand_lookAt_0 : decode prog_2_method_5_code 0 = .ok (.aload_n 0, 1) := by decide +kernel
theorem d_Cand_lookAt_1 : decode prog_2_method_5_code 1 = .ok (.invokevirtual 63, 3) := by decide +kernel
theorem d_Cand_lookAt_4 : decode prog_2_method_5_code 4 = .ok (.aload_n 0, 1) := by decide +kernel
theorem d_Cand_lookAt_5 : decode prog_2_method_5_code 5 = .ok (.getfield 28, 3) := by decide +kernel
theorem d_Cand_lookAt_8 : decode prog_2_method_5_code 8 = .ok (.invokevirtual 32, 3) := by decide +kernel
theorem d_Cand_lookAt_11 : decode prog_2_method_5_code 11 = .ok (.iconst 1, 1) := by decide +kernel
theorem d_Cand_lookAt_12 : decode prog_2_method_5_code 12 = .ok (.isub, 1) := by decide +kernel
theorem d_Cand_lookAt_13 : decode prog_2_method_5_code 13 = .ok (.istore_n 2, 1) := by decide +kernel
theorem d_Cand_lookAt_14 : decode prog_2_method_5_code 14 = .ok (.iload_n 2, 1) := by decide +kernel
theorem d_Cand_lookAt_15 : decode prog_2_method_5_code 15 = .ok (.iload_n 1, 1) := by decide +kernel
theorem d_Cand_lookAt_16 : decode prog_2_method_5_code 16 = .ok (.if_icmp .lt 13, 3) := by decide +kernel
theorem d_Cand_lookAt_19 : decode prog_2_method_5_code 19 = .ok (.aload_n 0, 1) := by decide +kernel
theorem d_Cand_lookAt_20 : decode prog_2_method_5_code 20 = .ok (.invokevirtual 66, 3) := by decide +kernel
theorem d_Cand_lookAt_23 : decode prog_2_method_5_code 23 = .ok (.iinc 2 (-1), 3) := by decide +kernel
theorem d_Cand_lookAt_26 : decode prog_2_method_5_code 26 = .ok (.goto (-12), 3) := by decide +kernel
theorem d_Cand_lookAt_29 : decode prog_2_method_5_code 29 = .ok (.return_, 1) := by decide +kernel
theorem d_Cand_all_0 : decode prog_2_method_6_code 0 = .ok (.aload_n 0, 1) := by decide +kernel
theorem d_Cand_all_1 : decode prog_2_method_6_code 1 = .ok (.getfield 22, 3) := by decide +kernel
theorem d_Cand_all_4 : decode prog_2_method_6_code 4 = .ok (.ireturn, 1) := by decide +kernel
theorem d_Cand_lookedAt_0 : decode prog_2_method_7_code 0 = .ok (.aload_n 0, 1) := by decide +kernel
theorem d_Cand_lookedAt_1 : decode prog_2_method_7_code 1 = .ok (.getfield 25, 3) := by decide +kernel
theorem d_Cand_lookedAt_4 : decode prog_2_method_7_code 4 = .ok (.ireturn, 1) := by decide +kernel
theorem d_Cand_distance_0 : decode prog_2_method_8_code 0 = .ok (.aload_n 0, 1) := by decide +kernel
theorem d_Cand_distance_1 : decode prog_2_method_8_code 1 = .ok (.getfield 15, 3) := by decide +kernel
theorem d_Cand_distance_4 : decode prog_2_method_8_code 4 = .ok (.iload_n 1, 1) := by decide +kernel
theorem d_Cand_distance_5 : decode prog_2_method_8_code 5 = .ok (.invokestatic 55, 3) := by decide +kernel
theorem d_Cand_distance_8 : decode prog_2_method_8_code 8 = .ok (.ireturn, 1) := by decide +kernel
theorem d_Cand_reach_0 : decode prog_2_method_9_code 0 = .ok (.bipush 20, 2) := by decide +kernel
theorem d_Cand_reach_2 : decode prog_2_method_9_code 2 = .ok (.aload_n 0, 1) := by decide +kernel
theorem d_Cand_reach_3 : decode prog_2_method_9_code 3 = .ok (.getfield 9, 3) := by decide +kernel
theorem d_Cand_reach_6 : decode prog_2_method_9_code 6 = .ok (.aload_n 0, 1) := by decide +kernel
theorem d_Cand_reach_7 : decode prog_2_method_9_code 7 = .ok (.getfield 15, 3) := by decide +kernel
theorem d_Cand_reach_10 : decode prog_2_method_9_code 10 = .ok (.iload_n 1, 1) := by decide +kernel
theorem d_Cand_reach_11 : decode prog_2_method_9_code 11 = .ok (.invokestatic 55, 3) := by decide +kernel
theorem d_Cand_reach_14 : decode prog_2_method_9_code 14 = .ok (.invokestatic 55, 3) := by decide +kernel
theorem d_Cand_reach_17 : decode prog_2_method_9_code 17 = .ok (.invokestatic 46, 3) := by decide +kernel
theorem d_Cand_reach_20 : decode prog_2_method_9_code 20 = .ok (.ireturn, 1) := by decide +kernel
theorem d_Cand_best_0 : decode prog_2_method_10_code 0 = .ok (.iconst (-1), 1) := by decide +kernel
theorem d_Cand_best_1 : decode prog_2_method_10_code 1 = .ok (.istore_n 1, 1) := by decide +kernel
theorem d_Cand_best_2 : decode prog_2_method_10_code 2 = .ok (.aload_n 0, 1) := by decide +kernel
theorem d_Cand_best_3 : decode prog_2_method_10_code 3 = .ok (.getfield 28, 3) := by decide +kernel
theorem d_Cand_best_6 : decode prog_2_method_10_code 6 = .ok (.iconst 1, 1) := by decide +kernel
theorem d_Cand_best_7 : decode prog_2_method_10_code 7 = .ok (.invokevirtual 42, 3) := by decide +kernel
theorem d_Cand_best_10 : decode prog_2_method_10_code 10 = .ok (.iconst 1, 1) := by decide +kernel
theorem d_Cand_best_11 : decode prog_2_method_10_code 11 = .ok (.isub, 1) := by decide +kernel
theorem d_Cand_best_12 : decode prog_2_method_10_code 12 = .ok (.istore_n 2, 1) := by decide +kernel
theorem d_Cand_best_13 : decode prog_2_method_10_code 13 = .ok (.iconst 0, 1) := by decide +kernel
theorem d_Cand_best_14 : decode prog_2_method_10_code 14 = .ok (.istore_n 3, 1) := by decide +kernel
theorem d_Cand_best_15 : decode prog_2_method_10_code 15 = .ok (.iload_n 3, 1) := by decide +kernel
theorem d_Cand_best_16 : decode prog_2_method_10_code 16 = .ok (.aload_n 0, 1) := by decide +kernel
theorem d_Cand_best_17 : decode prog_2_method_10_code 17 = .ok (.getfield 25, 3) := by decide +kernel
theorem d_Cand_best_20 : decode prog_2_method_10_code 20 = .ok (.if_icmp .ge 26, 3) := by decide +kernel
theorem d_Cand_best_23 : decode prog_2_method_10_code 23 = .ok (.aload_n 0, 1) := by decide +kernel
theorem d_Cand_best_24 : decode prog_2_method_10_code 24 = .ok (.iload_n 3, 1) := by decide +kernel
theorem d_Cand_best_25 : decode prog_2_method_10_code 25 = .ok (.invokevirtual 69, 3) := by decide +kernel
theorem d_Cand_best_28 : decode prog_2_method_10_code 28 = .ok (.iload_n 2, 1) := by decide +kernel
theorem d_Cand_best_29 : decode prog_2_method_10_code 29 = .ok (.if_icmp .le 11, 3) := by decide +kernel
theorem d_Cand_best_32 : decode prog_2_method_10_code 32 = .ok (.aload_n 0, 1) := by decide +kernel
theorem d_Cand_best_33 : decode prog_2_method_10_code 33 = .ok (.iload_n 3, 1) := by decide +kernel
theorem d_Cand_best_34 : decode prog_2_method_10_code 34 = .ok (.invokevirtual 69, 3) := by decide +kernel
theorem d_Cand_best_37 : decode prog_2_method_10_code 37 = .ok (.istore_n 2, 1) := by decide +kernel
theorem d_Cand_best_38 : decode prog_2_method_10_code 38 = .ok (.iload_n 3, 1) := by decide +kernel
theorem d_Cand_best_39 : decode prog_2_method_10_code 39 = .ok (.istore_n 1, 1) := by decide +kernel
theorem d_Cand_best_40 : decode prog_2_method_10_code 40 = .ok (.iinc 3 1, 3) := by decide +kernel
theorem d_Cand_best_43 : decode prog_2_method_10_code 43 = .ok (.goto (-28), 3) := by decide +kernel
theorem d_Cand_best_46 : decode prog_2_method_10_code 46 = .ok (.iload_n 1, 1) := by decide +kernel
theorem d_Cand_best_47 : decode prog_2_method_10_code 47 = .ok (.ireturn, 1) := by decide +kernel
theorem d_History_init_0 : decode prog_3_method_1_code 0 = .ok (.aload_n 0, 1) := by decide +kernel
theorem d_History_init_1 : decode prog_3_method_1_code 1 = .ok (.invokespecial 3, 3) := by decide +kernel
theorem d_History_init_4 : decode prog_3_method_1_code 4 = .ok (.aload_n 0, 1) := by decide +kernel
theorem d_History_init_5 : decode prog_3_method_1_code 5 = .ok (.iconst 4, 1) := by decide +kernel
theorem d_History_init_6 : decode prog_3_method_1_code 6 = .ok (.anewarray 9, 3) := by decide +kernel
theorem d_History_init_9 : decode prog_3_method_1_code 9 = .ok (.putfield 11, 3) := by decide +kernel
theorem d_History_init_12 : decode prog_3_method_1_code 12 = .ok (.aload_n 0, 1) := by decide +kernel
theorem d_History_init_13 : decode prog_3_method_1_code 13 = .ok (.iconst 0, 1) := by decide +kernel
theorem d_History_init_14 : decode prog_3_method_1_code 14 = .ok (.putfield 17, 3) := by decide +kernel
theorem d_History_init_17 : decode prog_3_method_1_code 17 = .ok (.aload_n 0, 1) := by decide +kernel
theorem d_History_init_18 : decode prog_3_method_1_code 18 = .ok (.iconst 0, 1) := by decide +kernel
theorem d_History_init_19 : decode prog_3_method_1_code 19 = .ok (.putfield 21, 3) := by decide +kernel
theorem d_History_init_22 : decode prog_3_method_1_code 22 = .ok (.iconst 0, 1) := by decide +kernel
theorem d_History_init_23 : decode prog_3_method_1_code 23 = .ok (.istore_n 1, 1) := by decide +kernel
theorem d_History_init_24 : decode prog_3_method_1_code 24 = .ok (.iload_n 1, 1) := by decide +kernel
theorem d_History_init_25 : decode prog_3_method_1_code 25 = .ok (.aload_n 0, 1) := by decide +kernel
theorem d_History_init_26 : decode prog_3_method_1_code 26 = .ok (.getfield 11, 3) := by decide +kernel
theorem d_History_init_29 : decode prog_3_method_1_code 29 = .ok (.arraylength, 1) := by decide +kernel
theorem d_History_init_30 : decode prog_3_method_1_code 30 = .ok (.if_icmp .ge 22, 3) := by decide +kernel
theorem d_History_init_33 : decode prog_3_method_1_code 33 = .ok (.aload_n 0, 1) := by decide +kernel
theorem d_History_init_34 : decode prog_3_method_1_code 34 = .ok (.getfield 11, 3) := by decide +kernel
theorem d_History_init_37 : decode prog_3_method_1_code 37 = .ok (.iload_n 1, 1) := by decide +kernel
theorem d_History_init_38 : decode prog_3_method_1_code 38 = .ok (.new 9, 3) := by decide +kernel
theorem d_History_init_41 : decode prog_3_method_1_code 41 = .ok (.dup, 1) := by decide +kernel
theorem d_History_init_42 : decode prog_3_method_1_code 42 = .ok (.invokespecial 24, 3) := by decide +kernel
theorem d_History_init_45 : decode prog_3_method_1_code 45 = .ok (.aastore, 1) := by decide +kernel
theorem d_History_init_46 : decode prog_3_method_1_code 46 = .ok (.iinc 1 1, 3) := by decide +kernel
theorem d_History_init_49 : decode prog_3_method_1_code 49 = .ok (.goto (-25), 3) := by decide +kernel
theorem d_History_init_52 : decode prog_3_method_1_code 52 = .ok (.return_, 1) := by decide +kernel
theorem d_History_size_0 : decode prog_3_method_2_code 0 = .ok (.aload_n 0, 1) := by decide +kernel
theorem d_History_size_1 : decode prog_3_method_2_code 1 = .ok (.getfield 21, 3) := by decide +kernel
theorem d_History_size_4 : decode prog_3_method_2_code 4 = .ok (.ireturn, 1) := by decide +kernel
theorem d_History_record_0 : decode prog_3_method_3_code 0 = .ok (.aload_n 0, 1) := by decide +kernel
theorem d_History_record_1 : decode prog_3_method_3_code 1 = .ok (.getfield 21, 3) := by decide +kernel
theorem d_History_record_4 : decode prog_3_method_3_code 4 = .ok (.iconst 4, 1) := by decide +kernel
theorem d_History_record_5 : decode prog_3_method_3_code 5 = .ok (.if_icmp .ne 22, 3) := by decide +kernel
theorem d_History_record_8 : decode prog_3_method_3_code 8 = .ok (.aload_n 0, 1) := by decide +kernel
theorem d_History_record_9 : decode prog_3_method_3_code 9 = .ok (.aload_n 0, 1) := by decide +kernel
theorem d_History_record_10 : decode prog_3_method_3_code 10 = .ok (.iconst 1, 1) := by decide +kernel
theorem d_History_record_11 : decode prog_3_method_3_code 11 = .ok (.invokevirtual 25, 3) := by decide +kernel
theorem d_History_record_14 : decode prog_3_method_3_code 14 = .ok (.putfield 17, 3) := by decide +kernel
theorem d_History_record_17 : decode prog_3_method_3_code 17 = .ok (.aload_n 0, 1) := by decide +kernel
theorem d_History_record_18 : decode prog_3_method_3_code 18 = .ok (.dup, 1) := by decide +kernel
theorem d_History_record_19 : decode prog_3_method_3_code 19 = .ok (.getfield 21, 3) := by decide +kernel
theorem d_History_record_22 : decode prog_3_method_3_code 22 = .ok (.iconst 1, 1) := by decide +kernel
theorem d_History_record_23 : decode prog_3_method_3_code 23 = .ok (.isub, 1) := by decide +kernel
theorem d_History_record_24 : decode prog_3_method_3_code 24 = .ok (.putfield 21, 3) := by decide +kernel
theorem d_History_record_27 : decode prog_3_method_3_code 27 = .ok (.aload_n 0, 1) := by decide +kernel
theorem d_History_record_28 : decode prog_3_method_3_code 28 = .ok (.aload_n 0, 1) := by decide +kernel
theorem d_History_record_29 : decode prog_3_method_3_code 29 = .ok (.getfield 21, 3) := by decide +kernel
theorem d_History_record_32 : decode prog_3_method_3_code 32 = .ok (.invokevirtual 29, 3) := by decide +kernel
theorem d_History_record_35 : decode prog_3_method_3_code 35 = .ok (.astore_n 2, 1) := by decide +kernel
theorem d_History_record_36 : decode prog_3_method_3_code 36 = .ok (.aload_n 2, 1) := by decide +kernel
theorem d_History_record_37 : decode prog_3_method_3_code 37 = .ok (.ifnull 18, 3) := by decide +kernel
theorem d_History_record_40 : decode prog_3_method_3_code 40 = .ok (.aload_n 2, 1) := by decide +kernel
theorem d_History_record_41 : decode prog_3_method_3_code 41 = .ok (.aload_n 1, 1) := by decide +kernel
theorem d_History_record_42 : decode prog_3_method_3_code 42 = .ok (.invokevirtual 33, 3) := by decide +kernel
theorem d_History_record_45 : decode prog_3_method_3_code 45 = .ok (.aload_n 0, 1) := by decide +kernel
theorem d_History_record_46 : decode prog_3_method_3_code 46 = .ok (.dup, 1) := by decide +kernel
theorem d_History_record_47 : decode prog_3_method_3_code 47 = .ok (.getfield 21, 3) := by decide +kernel
theorem d_History_record_50 : decode prog_3_method_3_code 50 = .ok (.iconst 1, 1) := by decide +kernel
theorem d_History_record_51 : decode prog_3_method_3_code 51 = .ok (.iadd, 1) := by decide +kernel
theorem d_History_record_52 : decode prog_3_method_3_code 52 = .ok (.putfield 21, 3) := by decide +kernel
theorem d_History_record_55 : decode prog_3_method_3_code 55 = .ok (.return_, 1) := by decide +kernel
theorem d_History_takeBack_0 : decode prog_3_method_4_code 0 = .ok (.aload_n 0, 1) := by decide +kernel
theorem d_History_takeBack_1 : decode prog_3_method_4_code 1 = .ok (.aload_n 0, 1) := by decide +kernel
theorem d_History_takeBack_2 : decode prog_3_method_4_code 2 = .ok (.getfield 21, 3) := by decide +kernel
theorem d_History_takeBack_5 : decode prog_3_method_4_code 5 = .ok (.iconst 1, 1) := by decide +kernel
theorem d_History_takeBack_6 : decode prog_3_method_4_code 6 = .ok (.isub, 1) := by decide +kernel
theorem d_History_takeBack_7 : decode prog_3_method_4_code 7 = .ok (.invokevirtual 29, 3) := by decide +kernel
theorem d_History_takeBack_10 : decode prog_3_method_4_code 10 = .ok (.astore_n 2, 1) := by decide +kernel
theorem d_History_takeBack_11 : decode prog_3_method_4_code 11 = .ok (.aload_n 2, 1) := by decide +kernel
theorem d_History_takeBack_12 : decode prog_3_method_4_code 12 = .ok (.ifnull 18, 3) := by decide +kernel
theorem d_History_takeBack_15 : decode prog_3_method_4_code 15 = .ok (.aload_n 1, 1) := by decide +kernel
theorem d_History_takeBack_16 : decode prog_3_method_4_code 16 = .ok (.aload_n 2, 1) := by decide +kernel
theorem d_History_takeBack_17 : decode prog_3_method_4_code 17 = .ok (.invokevirtual 33, 3) := by decide +kernel
theorem d_History_takeBack_20 : decode prog_3_method_4_code 20 = .ok (.aload_n 0, 1) := by decide +kernel
theorem d_History_takeBack_21 : decode prog_3_method_4_code 21 = .ok (.dup, 1) := by decide +kernel
theorem d_History_takeBack_22 : decode prog_3_method_4_code 22 = .ok (.getfield 21, 3) := by decide +kernel
theorem d_History_takeBack_25 : decode prog_3_method_4_code 25 = .ok (.iconst 1, 1) := by decide +kernel
theorem d_History_takeBack_26 : decode prog_3_method_4_code 26 = .ok (.isub, 1) := by decide +kernel
theorem d_History_takeBack_27 : decode prog_3_method_4_code 27 = .ok (.putfield 21, 3) := by decide +kernel
theorem d_History_takeBack_30 : decode prog_3_method_4_code 30 = .ok (.return_, 1) := by decide +kernel
theorem d_History_stateAt_0 : decode prog_3_method_5_code 0 = .ok (.aload_n 0, 1) := by decide +kernel
theorem d_History_stateAt_1 : decode prog_3_method_5_code 1 = .ok (.iload_n 1, 1) := by decide +kernel
theorem d_History_stateAt_2 : decode prog_3_method_5_code 2 = .ok (.invokevirtual 25, 3) := by decide +kernel
theorem d_History_stateAt_5 : decode prog_3_method_5_code 5 = .ok (.istore_n 2, 1) := by decide +kernel
theorem d_History_stateAt_6 : decode prog_3_method_5_code 6 = .ok (.iload_n 1, 1) := by decide +kernel
theorem d_History_stateAt_7 : decode prog_3_method_5_code 7 = .ok (.ifCond .lt 25, 3) := by decide +kernel
theorem d_History_stateAt_10 : decode prog_3_method_5_code 10 = .ok (.iload_n 2, 1) := by decide +kernel
theorem d_History_stateAt_11 : decode prog_3_method_5_code 11 = .ok (.ifCond .lt 21, 3) := by decide +kernel
theorem d_History_stateAt_14 : decode prog_3_method_5_code 14 = .ok (.iload_n 2, 1) := by decide +kernel
theorem d_History_stateAt_15 : decode prog_3_method_5_code 15 = .ok (.aload_n 0, 1) := by decide +kernel
theorem d_History_stateAt_16 : decode prog_3_method_5_code 16 = .ok (.getfield 11, 3) := by decide +kernel
theorem d_History_stateAt_19 : decode prog_3_method_5_code 19 = .ok (.arraylength, 1) := by decide +kernel
theorem d_History_stateAt_20 : decode prog_3_method_5_code 20 = .ok (.if_icmp .ge 12, 3) := by decide +kernel
theorem d_History_stateAt_23 : decode prog_3_method_5_code 23 = .ok (.aload_n 0, 1) := by decide +kernel
theorem d_History_stateAt_24 : decode prog_3_method_5_code 24 = .ok (.getfield 11, 3) := by decide +kernel
theorem d_History_stateAt_27 : decode prog_3_method_5_code 27 = .ok (.iload_n 2, 1) := by decide +kernel
theorem d_History_stateAt_28 : decode prog_3_method_5_code 28 = .ok (.aaload, 1) := by decide +kernel
theorem d_History_stateAt_29 : decode prog_3_method_5_code 29 = .ok (.goto 4, 3) := by decide +kernel
theorem d_History_stateAt_32 : decode prog_3_method_5_code 32 = .ok (.aconst_null, 1) := by decide +kernel
theorem d_History_stateAt_33 : decode prog_3_method_5_code 33 = .ok (.areturn, 1) := by decide +kernel
theorem d_History_slotOf_0 : decode prog_3_method_6_code 0 = .ok (.aload_n 0, 1) := by decide +kernel
theorem d_History_slotOf_1 : decode prog_3_method_6_code 1 = .ok (.getfield 17, 3) := by decide +kernel
theorem d_History_slotOf_4 : decode prog_3_method_6_code 4 = .ok (.iload_n 1, 1) := by decide +kernel
theorem d_History_slotOf_5 : decode prog_3_method_6_code 5 = .ok (.iadd, 1) := by decide +kernel
theorem d_History_slotOf_6 : decode prog_3_method_6_code 6 = .ok (.iconst 4, 1) := by decide +kernel
theorem d_History_slotOf_7 : decode prog_3_method_6_code 7 = .ok (.irem, 1) := by decide +kernel
theorem d_History_slotOf_8 : decode prog_3_method_6_code 8 = .ok (.ireturn, 1) := by decide +kernel
theorem d_Plan_init_0 : decode prog_4_method_1_code 0 = .ok (.aload_n 0, 1) := by decide +kernel
theorem d_Plan_init_1 : decode prog_4_method_1_code 1 = .ok (.invokespecial 3, 3) := by decide +kernel
theorem d_Plan_init_4 : decode prog_4_method_1_code 4 = .ok (.aload_n 0, 1) := by decide +kernel
theorem d_Plan_init_5 : decode prog_4_method_1_code 5 = .ok (.sipush 180, 3) := by decide +kernel
theorem d_Plan_init_8 : decode prog_4_method_1_code 8 = .ok (.newarray .int, 2) := by decide +kernel
theorem d_Plan_init_10 : decode prog_4_method_1_code 10 = .ok (.putfield 9, 3) := by decide +kernel
theorem d_Plan_init_13 : decode prog_4_method_1_code 13 = .ok (.aload_n 0, 1) := by decide +kernel
theorem d_Plan_init_14 : decode prog_4_method_1_code 14 = .ok (.sipush 180, 3) := by decide +kernel
theorem d_Plan_init_17 : decode prog_4_method_1_code 17 = .ok (.newarray .int, 2) := by decide +kernel
theorem d_Plan_init_19 : decode prog_4_method_1_code 19 = .ok (.putfield 15, 3) := by decide +kernel
theorem d_Plan_init_22 : decode prog_4_method_1_code 22 = .ok (.aload_n 0, 1) := by decide +kernel
theorem d_Plan_init_23 : decode prog_4_method_1_code 23 = .ok (.bipush 62, 2) := by decide +kernel
theorem d_Plan_init_25 : decode prog_4_method_1_code 25 = .ok (.newarray .int, 2) := by decide +kernel
theorem d_Plan_init_27 : decode prog_4_method_1_code 27 = .ok (.putfield 18, 3) := by decide +kernel
theorem d_Plan_init_30 : decode prog_4_method_1_code 30 = .ok (.aload_n 0, 1) := by decide +kernel
theorem d_Plan_init_31 : decode prog_4_method_1_code 31 = .ok (.bipush 61, 2) := by decide +kernel
theorem d_Plan_init_33 : decode prog_4_method_1_code 33 = .ok (.newarray .int, 2) := by decide +kernel
theorem d_Plan_init_35 : decode prog_4_method_1_code 35 = .ok (.putfield 21, 3) := by decide +kernel
theorem d_Plan_init_38 : decode prog_4_method_1_code 38 = .ok (.aload_n 0, 1) := by decide +kernel
theorem d_Plan_init_39 : decode prog_4_method_1_code 39 = .ok (.bipush 60, 2) := by decide +kernel
theorem d_Plan_init_41 : decode prog_4_method_1_code 41 = .ok (.newarray .int, 2) := by decide +kernel
theorem d_Plan_init_43 : decode prog_4_method_1_code 43 = .ok (.putfield 24, 3) := by decide +kernel
theorem d_Plan_init_46 : decode prog_4_method_1_code 46 = .ok (.aload_n 0, 1) := by decide +kernel
theorem d_Plan_init_47 : decode prog_4_method_1_code 47 = .ok (.iconst 0, 1) := by decide +kernel
theorem d_Plan_init_48 : decode prog_4_method_1_code 48 = .ok (.putfield 27, 3) := by decide +kernel
theorem d_Plan_init_51 : decode prog_4_method_1_code 51 = .ok (.aload_n 0, 1) := by decide +kernel
theorem d_Plan_init_52 : decode prog_4_method_1_code 52 = .ok (.iconst 0, 1) := by decide +kernel
theorem d_Plan_init_53 : decode prog_4_method_1_code 53 = .ok (.putfield 31, 3) := by decide +kernel
theorem d_Plan_init_56 : decode prog_4_method_1_code 56 = .ok (.aload_n 0, 1) := by decide +kernel
theorem d_Plan_init_57 : decode prog_4_method_1_code 57 = .ok (.iconst 0, 1) := by decide +kernel
theorem d_Plan_init_58 : decode prog_4_method_1_code 58 = .ok (.putfield 34, 3) := by decide +kernel
theorem d_Plan_init_61 : decode prog_4_method_1_code 61 = .ok (.aload_n 0, 1) := by decide +kernel
theorem d_Plan_init_62 : decode prog_4_method_1_code 62 = .ok (.iconst 0, 1) := by decide +kernel
theorem d_Plan_init_63 : decode prog_4_method_1_code 63 = .ok (.putfield 37, 3) := by decide +kernel
theorem d_Plan_init_66 : decode prog_4_method_1_code 66 = .ok (.aload_n 0, 1) := by decide +kernel
theorem d_Plan_init_67 : decode prog_4_method_1_code 67 = .ok (.aload_n 1, 1) := by decide +kernel
theorem d_Plan_init_68 : decode prog_4_method_1_code 68 = .ok (.putfield 40, 3) := by decide +kernel
theorem d_Plan_init_71 : decode prog_4_method_1_code 71 = .ok (.aload_n 0, 1) := by decide +kernel
theorem d_Plan_init_72 : decode prog_4_method_1_code 72 = .ok (.aload_n 2, 1) := by decide +kernel
theorem d_Plan_init_73 : decode prog_4_method_1_code 73 = .ok (.putfield 44, 3) := by decide +kernel
theorem d_Plan_init_76 : decode prog_4_method_1_code 76 = .ok (.return_, 1) := by decide +kernel
theorem d_Plan_make_0 : decode prog_4_method_2_code 0 = .ok (.aload_n 0, 1) := by decide +kernel
theorem d_Plan_make_1 : decode prog_4_method_2_code 1 = .ok (.getfield 40, 3) := by decide +kernel
theorem d_Plan_make_4 : decode prog_4_method_2_code 4 = .ok (.invokevirtual 48, 3) := by decide +kernel
theorem d_Plan_make_7 : decode prog_4_method_2_code 7 = .ok (.istore_n 1, 1) := by decide +kernel
theorem d_Plan_make_8 : decode prog_4_method_2_code 8 = .ok (.aload_n 0, 1) := by decide +kernel
theorem d_Plan_make_9 : decode prog_4_method_2_code 9 = .ok (.getfield 18, 3) := by decide +kernel
theorem d_Plan_make_12 : decode prog_4_method_2_code 12 = .ok (.iload_n 1, 1) := by decide +kernel
theorem d_Plan_make_13 : decode prog_4_method_2_code 13 = .ok (.iconst 0, 1) := by decide +kernel
theorem d_Plan_make_14 : decode prog_4_method_2_code 14 = .ok (.invokestatic 54, 3) := by decide +kernel
theorem d_Plan_make_17 : decode prog_4_method_2_code 17 = .ok (.aload_n 0, 1) := by decide +kernel
theorem d_Plan_make_18 : decode prog_4_method_2_code 18 = .ok (.getfield 18, 3) := by decide +kernel
theorem d_Plan_make_21 : decode prog_4_method_2_code 21 = .ok (.iload_n 1, 1) := by decide +kernel
theorem d_Plan_make_22 : decode prog_4_method_2_code 22 = .ok (.iconst 1, 1) := by decide +kernel
theorem d_Plan_make_23 : decode prog_4_method_2_code 23 = .ok (.iadd, 1) := by decide +kernel
theorem d_Plan_make_24 : decode prog_4_method_2_code 24 = .ok (.iconst 0, 1) := by decide +kernel
theorem d_Plan_make_25 : decode prog_4_method_2_code 25 = .ok (.invokestatic 54, 3) := by decide +kernel
theorem d_Plan_make_28 : decode prog_4_method_2_code 28 = .ok (.aload_n 0, 1) := by decide +kernel
theorem d_Plan_make_29 : decode prog_4_method_2_code 29 = .ok (.getfield 21, 3) := by decide +kernel
theorem d_Plan_make_32 : decode prog_4_method_2_code 32 = .ok (.iload_n 1, 1) := by decide +kernel
theorem d_Plan_make_33 : decode prog_4_method_2_code 33 = .ok (.iconst 0, 1) := by decide +kernel
theorem d_Plan_make_34 : decode prog_4_method_2_code 34 = .ok (.invokestatic 54, 3) := by decide +kernel
theorem d_Plan_make_37 : decode prog_4_method_2_code 37 = .ok (.aload_n 0, 1) := by decide +kernel
theorem d_Plan_make_38 : decode prog_4_method_2_code 38 = .ok (.getfield 44, 3) := by decide +kernel
theorem d_Plan_make_41 : decode prog_4_method_2_code 41 = .ok (.invokevirtual 58, 3) := by decide +kernel
theorem d_Plan_make_44 : decode prog_4_method_2_code 44 = .ok (.iload_n 1, 1) := by decide +kernel
theorem d_Plan_make_45 : decode prog_4_method_2_code 45 = .ok (.iconst 1, 1) := by decide +kernel
theorem d_Plan_make_46 : decode prog_4_method_2_code 46 = .ok (.isub, 1) := by decide +kernel
theorem d_Plan_make_47 : decode prog_4_method_2_code 47 = .ok (.istore_n 2, 1) := by decide +kernel
theorem d_Plan_make_48 : decode prog_4_method_2_code 48 = .ok (.iload_n 2, 1) := by decide +kernel
theorem d_Plan_make_49 : decode prog_4_method_2_code 49 = .ok (.ifCond .lt 31, 3) := by decide +kernel
theorem d_Plan_make_52 : decode prog_4_method_2_code 52 = .ok (.aload_n 0, 1) := by decide +kernel
theorem d_Plan_make_53 : decode prog_4_method_2_code 53 = .ok (.getfield 44, 3) := by decide +kernel
theorem d_Plan_make_56 : decode prog_4_method_2_code 56 = .ok (.invokevirtual 63, 3) := by decide +kernel
theorem d_Plan_make_59 : decode prog_4_method_2_code 59 = .ok (.aload_n 0, 1) := by decide +kernel
theorem d_Plan_make_60 : decode prog_4_method_2_code 60 = .ok (.iload_n 2, 1) := by decide +kernel
theorem d_Plan_make_61 : decode prog_4_method_2_code 61 = .ok (.invokevirtual 66, 3) := by decide +kernel
theorem d_Plan_make_64 : decode prog_4_method_2_code 64 = .ok (.aload_n 0, 1) := by decide +kernel
theorem d_Plan_make_65 : decode prog_4_method_2_code 65 = .ok (.iload_n 2, 1) := by decide +kernel
theorem d_Plan_make_66 : decode prog_4_method_2_code 66 = .ok (.invokevirtual 70, 3) := by decide +kernel
theorem d_Plan_make_69 : decode prog_4_method_2_code 69 = .ok (.aload_n 0, 1) := by decide +kernel
theorem d_Plan_make_70 : decode prog_4_method_2_code 70 = .ok (.iload_n 2, 1) := by decide +kernel
theorem d_Plan_make_71 : decode prog_4_method_2_code 71 = .ok (.invokevirtual 73, 3) := by decide +kernel
theorem d_Plan_make_74 : decode prog_4_method_2_code 74 = .ok (.iinc 2 (-1), 3) := by decide +kernel
theorem d_Plan_make_77 : decode prog_4_method_2_code 77 = .ok (.goto (-29), 3) := by decide +kernel
theorem d_Plan_make_80 : decode prog_4_method_2_code 80 = .ok (.return_, 1) := by decide +kernel
theorem d_Plan_planFound_0 : decode prog_4_method_3_code 0 = .ok (.aload_n 0, 1) := by decide +kernel
theorem d_Plan_planFound_1 : decode prog_4_method_3_code 1 = .ok (.getfield 44, 3) := by decide +kernel
theorem d_Plan_planFound_4 : decode prog_4_method_3_code 4 = .ok (.invokevirtual 76, 3) := by decide +kernel
theorem d_Plan_planFound_7 : decode prog_4_method_3_code 7 = .ok (.istore_n 2, 1) := by decide +kernel
theorem d_Plan_planFound_8 : decode prog_4_method_3_code 8 = .ok (.iload_n 2, 1) := by decide +kernel
theorem d_Plan_planFound_9 : decode prog_4_method_3_code 9 = .ok (.iconst (-1), 1) := by decide +kernel
theorem d_Plan_planFound_10 : decode prog_4_method_3_code 10 = .ok (.if_icmp .ne 21, 3) := by decide +kernel
theorem d_Plan_planFound_13 : decode prog_4_method_3_code 13 = .ok (.aload_n 0, 1) := by decide +kernel
theorem d_Plan_planFound_14 : decode prog_4_method_3_code 14 = .ok (.iconst 0, 1) := by decide +kernel
theorem d_Plan_planFound_15 : decode prog_4_method_3_code 15 = .ok (.iload_n 1, 1) := by decide +kernel
theorem d_Plan_planFound_16 : decode prog_4_method_3_code 16 = .ok (.invokevirtual 79, 3) := by decide +kernel
theorem d_Plan_planFound_19 : decode prog_4_method_3_code 19 = .ok (.aload_n 0, 1) := by decide +kernel
theorem d_Plan_planFound_20 : decode prog_4_method_3_code 20 = .ok (.getfield 18, 3) := by decide +kernel
theorem d_Plan_planFound_23 : decode prog_4_method_3_code 23 = .ok (.iload_n 1, 1) := by decide +kernel
theorem d_Plan_planFound_24 : decode prog_4_method_3_code 24 = .ok (.iconst 0, 1) := by decide +kernel
theorem d_Plan_planFound_25 : decode prog_4_method_3_code 25 = .ok (.invokestatic 54, 3) := by decide +kernel
theorem d_Plan_planFound_28 : decode prog_4_method_3_code 28 = .ok (.goto 43, 3) := by decide +kernel
theorem d_Plan_planFound_31 : decode prog_4_method_3_code 31 = .ok (.aload_n 0, 1) := by decide +kernel
theorem d_Plan_planFound_32 : decode prog_4_method_3_code 32 = .ok (.getfield 44, 3) := by decide +kernel
theorem d_Plan_planFound_35 : decode prog_4_method_3_code 35 = .ok (.iload_n 2, 1) := by decide +kernel
theorem d_Plan_planFound_36 : decode prog_4_method_3_code 36 = .ok (.invokevirtual 83, 3) := by decide +kernel
theorem d_Plan_planFound_39 : decode prog_4_method_3_code 39 = .ok (.istore_n 3, 1) := by decide +kernel
theorem d_Plan_planFound_40 : decode prog_4_method_3_code 40 = .ok (.aload_n 0, 1) := by decide +kernel
theorem d_Plan_planFound_41 : decode prog_4_method_3_code 41 = .ok (.iconst 0, 1) := by decide +kernel
theorem d_Plan_planFound_42 : decode prog_4_method_3_code 42 = .ok (.iload_n 1, 1) := by decide +kernel
theorem d_Plan_planFound_43 : decode prog_4_method_3_code 43 = .ok (.aload_n 0, 1) := by decide +kernel
theorem d_Plan_planFound_44 : decode prog_4_method_3_code 44 = .ok (.getfield 44, 3) := by decide +kernel
theorem d_Plan_planFound_47 : decode prog_4_method_3_code 47 = .ok (.iload_n 2, 1) := by decide +kernel
theorem d_Plan_planFound_48 : decode prog_4_method_3_code 48 = .ok (.invokevirtual 87, 3) := by decide +kernel
theorem d_Plan_planFound_51 : decode prog_4_method_3_code 51 = .ok (.iload_n 3, 1) := by decide +kernel
theorem d_Plan_planFound_52 : decode prog_4_method_3_code 52 = .ok (.invokevirtual 90, 3) := by decide +kernel
theorem d_Plan_planFound_55 : decode prog_4_method_3_code 55 = .ok (.aload_n 0, 1) := by decide +kernel
theorem d_Plan_planFound_56 : decode prog_4_method_3_code 56 = .ok (.getfield 18, 3) := by decide +kernel
theorem d_Plan_planFound_59 : decode prog_4_method_3_code 59 = .ok (.iload_n 1, 1) := by decide +kernel
theorem d_Plan_planFound_60 : decode prog_4_method_3_code 60 = .ok (.aload_n 0, 1) := by decide +kernel
theorem d_Plan_planFound_61 : decode prog_4_method_3_code 61 = .ok (.getfield 40, 3) := by decide +kernel
theorem d_Plan_planFound_64 : decode prog_4_method_3_code 64 = .ok (.iload_n 3, 1) := by decide +kernel
theorem d_Plan_planFound_65 : decode prog_4_method_3_code 65 = .ok (.invokevirtual 94, 3) := by decide +kernel
theorem d_Plan_planFound_68 : decode prog_4_method_3_code 68 = .ok (.invokestatic 54, 3) := by decide +kernel
theorem d_Plan_planFound_71 : decode prog_4_method_3_code 71 = .ok (.return_, 1) := by decide +kernel
theorem d_Plan_planWeighed_0 : decode prog_4_method_4_code 0 = .ok (.aload_n 0, 1) := by decide +kernel
theorem d_Plan_planWeighed_1 : decode prog_4_method_4_code 1 = .ok (.getfield 18, 3) := by decide +kernel
theorem d_Plan_planWeighed_4 : decode prog_4_method_4_code 4 = .ok (.iload_n 1, 1) := by decide +kernel
theorem d_Plan_planWeighed_5 : decode prog_4_method_4_code 5 = .ok (.invokestatic 97, 3) := by decide +kernel
theorem d_Plan_planWeighed_8 : decode prog_4_method_4_code 8 = .ok (.istore_n 2, 1) := by decide +kernel
theorem d_Plan_planWeighed_9 : decode prog_4_method_4_code 9 = .ok (.aload_n 0, 1) := by decide +kernel
theorem d_Plan_planWeighed_10 : decode prog_4_method_4_code 10 = .ok (.getfield 18, 3) := by decide +kernel
theorem d_Plan_planWeighed_13 : decode prog_4_method_4_code 13 = .ok (.iload_n 1, 1) := by decide +kernel
theorem d_Plan_planWeighed_14 : decode prog_4_method_4_code 14 = .ok (.iconst 1, 1) := by decide +kernel
theorem d_Plan_planWeighed_15 : decode prog_4_method_4_code 15 = .ok (.iadd, 1) := by decide +kernel
theorem d_Plan_planWeighed_16 : decode prog_4_method_4_code 16 = .ok (.invokestatic 97, 3) := by decide +kernel
theorem d_Plan_planWeighed_19 : decode prog_4_method_4_code 19 = .ok (.iload_n 2, 1) := by decide +kernel
theorem d_Plan_planWeighed_20 : decode prog_4_method_4_code 20 = .ok (.if_icmp .gt 17, 3) := by decide +kernel
theorem d_Plan_planWeighed_23 : decode prog_4_method_4_code 23 = .ok (.aload_n 0, 1) := by decide +kernel
theorem d_Plan_planWeighed_24 : decode prog_4_method_4_code 24 = .ok (.getfield 18, 3) := by decide +kernel
theorem d_Plan_planWeighed_27 : decode prog_4_method_4_code 27 = .ok (.iload_n 1, 1) := by decide +kernel
theorem d_Plan_planWeighed_28 : decode prog_4_method_4_code 28 = .ok (.iconst 2, 1) := by decide +kernel
theorem d_Plan_planWeighed_29 : decode prog_4_method_4_code 29 = .ok (.iadd, 1) := by decide +kernel
theorem d_Plan_planWeighed_30 : decode prog_4_method_4_code 30 = .ok (.invokestatic 97, 3) := by decide +kernel
theorem d_Plan_planWeighed_33 : decode prog_4_method_4_code 33 = .ok (.iload_n 2, 1) := by decide +kernel
theorem d_Plan_planWeighed_34 : decode prog_4_method_4_code 34 = .ok (.if_icmp .le 7, 3) := by decide +kernel
theorem d_Plan_planWeighed_37 : decode prog_4_method_4_code 37 = .ok (.iconst 1, 1) := by decide +kernel
theorem d_Plan_planWeighed_38 : decode prog_4_method_4_code 38 = .ok (.goto 4, 3) := by decide +kernel
theorem d_Plan_planWeighed_41 : decode prog_4_method_4_code 41 = .ok (.iconst 0, 1) := by decide +kernel
theorem d_Plan_planWeighed_42 : decode prog_4_method_4_code 42 = .ok (.istore_n 3, 1) := by decide +kernel
theorem d_Plan_planWeighed_43 : decode prog_4_method_4_code 43 = .ok (.iload_n 2, 1) := by decide +kernel
theorem d_Plan_planWeighed_44 : decode prog_4_method_4_code 44 = .ok (.ifCond .le 28, 3) := by decide +kernel
theorem d_Plan_planWeighed_47 : decode prog_4_method_4_code 47 = .ok (.iload_n 3, 1) := by decide +kernel
theorem d_Plan_planWeighed_48 : decode prog_4_method_4_code 48 = .ok (.ifCond .ne 24, 3) := by decide +kernel
theorem d_Plan_planWeighed_51 : decode prog_4_method_4_code 51 = .ok (.aload_n 0, 1) := by decide +kernel
theorem d_Plan_planWeighed_52 : decode prog_4_method_4_code 52 = .ok (.iconst 1, 1) := by decide +kernel
theorem d_Plan_planWeighed_53 : decode prog_4_method_4_code 53 = .ok (.iload_n 1, 1) := by decide +kernel
theorem d_Plan_planWeighed_54 : decode prog_4_method_4_code 54 = .ok (.aload_n 0, 1) := by decide +kernel
theorem d_Plan_planWeighed_55 : decode prog_4_method_4_code 55 = .ok (.iconst 0, 1) := by decide +kernel
theorem d_Plan_planWeighed_56 : decode prog_4_method_4_code 56 = .ok (.iload_n 1, 1) := by decide +kernel
theorem d_Plan_planWeighed_57 : decode prog_4_method_4_code 57 = .ok (.invokevirtual 101, 3) := by decide +kernel
theorem d_Plan_planWeighed_60 : decode prog_4_method_4_code 60 = .ok (.aload_n 0, 1) := by decide +kernel
theorem d_Plan_planWeighed_61 : decode prog_4_method_4_code 61 = .ok (.iconst 0, 1) := by decide +kernel
theorem d_Plan_planWeighed_62 : decode prog_4_method_4_code 62 = .ok (.iload_n 1, 1) := by decide +kernel
theorem d_Plan_planWeighed_63 : decode prog_4_method_4_code 63 = .ok (.invokevirtual 105, 3) := by decide +kernel
theorem d_Plan_planWeighed_66 : decode prog_4_method_4_code 66 = .ok (.invokevirtual 90, 3) := by decide +kernel
theorem d_Plan_planWeighed_69 : decode prog_4_method_4_code 69 = .ok (.goto 9, 3) := by decide +kernel
theorem d_Plan_planWeighed_72 : decode prog_4_method_4_code 72 = .ok (.aload_n 0, 1) := by decide +kernel
theorem d_Plan_planWeighed_73 : decode prog_4_method_4_code 73 = .ok (.iconst 1, 1) := by decide +kernel
theorem d_Plan_planWeighed_74 : decode prog_4_method_4_code 74 = .ok (.iload_n 1, 1) := by decide +kernel
theorem d_Plan_planWeighed_75 : decode prog_4_method_4_code 75 = .ok (.invokevirtual 79, 3) := by decide +kernel
theorem d_Plan_planWeighed_78 : decode prog_4_method_4_code 78 = .ok (.return_, 1) := by decide +kernel
theorem d_Plan_planCheapest_0 : decode prog_4_method_5_code 0 = .ok (.aload_n 0, 1) := by decide +kernel
theorem d_Plan_planCheapest_1 : decode prog_4_method_5_code 1 = .ok (.getfield 40, 3) := by decide +kernel
theorem d_Plan_planCheapest_4 : decode prog_4_method_5_code 4 = .ok (.iconst 3, 1) := by decide +kernel
theorem d_Plan_planCheapest_5 : decode prog_4_method_5_code 5 = .ok (.invokevirtual 108, 3) := by decide +kernel
theorem d_Plan_planCheapest_8 : decode prog_4_method_5_code 8 = .ok (.aload_n 0, 1) := by decide +kernel
theorem d_Plan_planCheapest_9 : decode prog_4_method_5_code 9 = .ok (.getfield 21, 3) := by decide +kernel
theorem d_Plan_planCheapest_12 : decode prog_4_method_5_code 12 = .ok (.iload_n 1, 1) := by decide +kernel
theorem d_Plan_planCheapest_13 : decode prog_4_method_5_code 13 = .ok (.iconst 1, 1) := by decide +kernel
theorem d_Plan_planCheapest_14 : decode prog_4_method_5_code 14 = .ok (.iadd, 1) := by decide +kernel
theorem d_Plan_planCheapest_15 : decode prog_4_method_5_code 15 = .ok (.invokestatic 97, 3) := by decide +kernel
theorem d_Plan_planCheapest_18 : decode prog_4_method_5_code 18 = .ok (.iadd, 1) := by decide +kernel
theorem d_Plan_planCheapest_19 : decode prog_4_method_5_code 19 = .ok (.istore_n 2, 1) := by decide +kernel
theorem d_Plan_planCheapest_20 : decode prog_4_method_5_code 20 = .ok (.aload_n 0, 1) := by decide +kernel
theorem d_Plan_planCheapest_21 : decode prog_4_method_5_code 21 = .ok (.iconst 2, 1) := by decide +kernel
theorem d_Plan_planCheapest_22 : decode prog_4_method_5_code 22 = .ok (.iload_n 1, 1) := by decide +kernel
theorem d_Plan_planCheapest_23 : decode prog_4_method_5_code 23 = .ok (.invokevirtual 79, 3) := by decide +kernel
theorem d_Plan_planCheapest_26 : decode prog_4_method_5_code 26 = .ok (.aload_n 0, 1) := by decide +kernel
theorem d_Plan_planCheapest_27 : decode prog_4_method_5_code 27 = .ok (.getfield 40, 3) := by decide +kernel
theorem d_Plan_planCheapest_30 : decode prog_4_method_5_code 30 = .ok (.iconst 1, 1) := by decide +kernel
theorem d_Plan_planCheapest_31 : decode prog_4_method_5_code 31 = .ok (.invokevirtual 108, 3) := by decide +kernel
theorem d_Plan_planCheapest_34 : decode prog_4_method_5_code 34 = .ok (.istore_n 3, 1) := by decide +kernel
theorem d_Plan_planCheapest_35 : decode prog_4_method_5_code 35 = .ok (.aload_n 0, 1) := by decide +kernel
theorem d_Plan_planCheapest_36 : decode prog_4_method_5_code 36 = .ok (.getfield 40, 3) := by decide +kernel
theorem d_Plan_planCheapest_39 : decode prog_4_method_5_code 39 = .ok (.iconst 4, 1) := by decide +kernel
theorem d_Plan_planCheapest_40 : decode prog_4_method_5_code 40 = .ok (.invokevirtual 108, 3) := by decide +kernel
theorem d_Plan_planCheapest_43 : decode prog_4_method_5_code 43 = .ok (.istore 4, 2) := by decide +kernel
theorem d_Plan_planCheapest_45 : decode prog_4_method_5_code 45 = .ok (.iconst 0, 1) := by decide +kernel
theorem d_Plan_planCheapest_46 : decode prog_4_method_5_code 46 = .ok (.istore 5, 2) := by decide +kernel
theorem d_Plan_planCheapest_48 : decode prog_4_method_5_code 48 = .ok (.iload 5, 2) := by decide +kernel
theorem d_Plan_planCheapest_50 : decode prog_4_method_5_code 50 = .ok (.aload_n 0, 1) := by decide +kernel
theorem d_Plan_planCheapest_51 : decode prog_4_method_5_code 51 = .ok (.getfield 44, 3) := by decide +kernel
theorem d_Plan_planCheapest_54 : decode prog_4_method_5_code 54 = .ok (.invokevirtual 111, 3) := by decide +kernel
theorem d_Plan_planCheapest_57 : decode prog_4_method_5_code 57 = .ok (.if_icmp .ge 90, 3) := by decide +kernel
theorem d_Plan_planCheapest_60 : decode prog_4_method_5_code 60 = .ok (.aload_n 0, 1) := by decide +kernel
theorem d_Plan_planCheapest_61 : decode prog_4_method_5_code 61 = .ok (.getfield 44, 3) := by decide +kernel
theorem d_Plan_planCheapest_64 : decode prog_4_method_5_code 64 = .ok (.iload 5, 2) := by decide +kernel
theorem d_Plan_planCheapest_66 : decode prog_4_method_5_code 66 = .ok (.invokevirtual 83, 3) := by decide +kernel
theorem d_Plan_planCheapest_69 : decode prog_4_method_5_code 69 = .ok (.istore 6, 2) := by decide +kernel
theorem d_Plan_planCheapest_71 : decode prog_4_method_5_code 71 = .ok (.iload 6, 2) := by decide +kernel
theorem d_Plan_planCheapest_73 : decode prog_4_method_5_code 73 = .ok (.iload_n 3, 1) := by decide +kernel
theorem d_Plan_planCheapest_74 : decode prog_4_method_5_code 74 = .ok (.if_icmp .lt 51, 3) := by decide +kernel
theorem d_Plan_planCheapest_77 : decode prog_4_method_5_code 77 = .ok (.iload 4, 2) := by decide +kernel
theorem d_Plan_planCheapest_79 : decode prog_4_method_5_code 79 = .ok (.aload_n 0, 1) := by decide +kernel
theorem d_Plan_planCheapest_80 : decode prog_4_method_5_code 80 = .ok (.getfield 21, 3) := by decide +kernel
theorem d_Plan_planCheapest_83 : decode prog_4_method_5_code 83 = .ok (.iload_n 1, 1) := by decide +kernel
theorem d_Plan_planCheapest_84 : decode prog_4_method_5_code 84 = .ok (.iload 6, 2) := by decide +kernel
theorem d_Plan_planCheapest_86 : decode prog_4_method_5_code 86 = .ok (.iadd, 1) := by decide +kernel
theorem d_Plan_planCheapest_87 : decode prog_4_method_5_code 87 = .ok (.invokestatic 97, 3) := by decide +kernel
theorem d_Plan_planCheapest_90 : decode prog_4_method_5_code 90 = .ok (.iadd, 1) := by decide +kernel
theorem d_Plan_planCheapest_91 : decode prog_4_method_5_code 91 = .ok (.istore 7, 2) := by decide +kernel
theorem d_Plan_planCheapest_93 : decode prog_4_method_5_code 93 = .ok (.iload 7, 2) := by decide +kernel
theorem d_Plan_planCheapest_95 : decode prog_4_method_5_code 95 = .ok (.iload_n 2, 1) := by decide +kernel
theorem d_Plan_planCheapest_96 : decode prog_4_method_5_code 96 = .ok (.if_icmp .ge 23, 3) := by decide +kernel
theorem d_Plan_planCheapest_99 : decode prog_4_method_5_code 99 = .ok (.iload 7, 2) := by decide +kernel
theorem d_Plan_planCheapest_101 : decode prog_4_method_5_code 101 = .ok (.istore_n 2, 1) := by decide +kernel
theorem d_Plan_planCheapest_102 : decode prog_4_method_5_code 102 = .ok (.aload_n 0, 1) := by decide +kernel
theorem d_Plan_planCheapest_103 : decode prog_4_method_5_code 103 = .ok (.iconst 2, 1) := by decide +kernel
theorem d_Plan_planCheapest_104 : decode prog_4_method_5_code 104 = .ok (.iload_n 1, 1) := by decide +kernel
theorem d_Plan_planCheapest_105 : decode prog_4_method_5_code 105 = .ok (.aload_n 0, 1) := by decide +kernel
theorem d_Plan_planCheapest_106 : decode prog_4_method_5_code 106 = .ok (.getfield 44, 3) := by decide +kernel
theorem d_Plan_planCheapest_109 : decode prog_4_method_5_code 109 = .ok (.iload 5, 2) := by decide +kernel
theorem d_Plan_planCheapest_111 : decode prog_4_method_5_code 111 = .ok (.invokevirtual 87, 3) := by decide +kernel
theorem d_Plan_planCheapest_114 : decode prog_4_method_5_code 114 = .ok (.iload 6, 2) := by decide +kernel
theorem d_Plan_planCheapest_116 : decode prog_4_method_5_code 116 = .ok (.invokevirtual 90, 3) := by decide +kernel
theorem d_Plan_planCheapest_119 : decode prog_4_method_5_code 119 = .ok (.iinc 6 (-1), 3) := by decide +kernel
theorem d_Plan_planCheapest_122 : decode prog_4_method_5_code 122 = .ok (.goto (-51), 3) := by decide +kernel
theorem d_Plan_planCheapest_125 : decode prog_4_method_5_code 125 = .ok (.iload_n 3, 1) := by decide +kernel
theorem d_Plan_planCheapest_126 : decode prog_4_method_5_code 126 = .ok (.aload_n 0, 1) := by decide +kernel
theorem d_Plan_planCheapest_127 : decode prog_4_method_5_code 127 = .ok (.getfield 44, 3) := by decide +kernel
theorem d_Plan_planCheapest_130 : decode prog_4_method_5_code 130 = .ok (.iload 5, 2) := by decide +kernel
theorem d_Plan_planCheapest_132 : decode prog_4_method_5_code 132 = .ok (.invokevirtual 83, 3) := by decide +kernel
theorem d_Plan_planCheapest_135 : decode prog_4_method_5_code 135 = .ok (.iconst 1, 1) := by decide +kernel
theorem d_Plan_planCheapest_136 : decode prog_4_method_5_code 136 = .ok (.iadd, 1) := by decide +kernel
theorem d_Plan_planCheapest_137 : decode prog_4_method_5_code 137 = .ok (.invokestatic 114, 3) := by decide +kernel
theorem d_Plan_planCheapest_140 : decode prog_4_method_5_code 140 = .ok (.istore_n 3, 1) := by decide +kernel
theorem d_Plan_planCheapest_141 : decode prog_4_method_5_code 141 = .ok (.iinc 5 1, 3) := by decide +kernel
theorem d_Plan_planCheapest_144 : decode prog_4_method_5_code 144 = .ok (.goto (-96), 3) := by decide +kernel
theorem d_Plan_planCheapest_147 : decode prog_4_method_5_code 147 = .ok (.aload_n 0, 1) := by decide +kernel
theorem d_Plan_planCheapest_148 : decode prog_4_method_5_code 148 = .ok (.getfield 21, 3) := by decide +kernel
theorem d_Plan_planCheapest_151 : decode prog_4_method_5_code 151 = .ok (.iload_n 1, 1) := by decide +kernel
theorem d_Plan_planCheapest_152 : decode prog_4_method_5_code 152 = .ok (.iload_n 2, 1) := by decide +kernel
theorem d_Plan_planCheapest_153 : decode prog_4_method_5_code 153 = .ok (.invokestatic 54, 3) := by decide +kernel
theorem d_Plan_planCheapest_156 : decode prog_4_method_5_code 156 = .ok (.return_, 1) := by decide +kernel
theorem d_Plan_planLetter_0 : decode prog_4_method_6_code 0 = .ok (.aload_n 0, 1) := by decide +kernel
theorem d_Plan_planLetter_1 : decode prog_4_method_6_code 1 = .ok (.iload_n 1, 1) := by decide +kernel
theorem d_Plan_planLetter_2 : decode prog_4_method_6_code 2 = .ok (.iload_n 2, 1) := by decide +kernel
theorem d_Plan_planLetter_3 : decode prog_4_method_6_code 3 = .ok (.iconst 0, 1) := by decide +kernel
theorem d_Plan_planLetter_4 : decode prog_4_method_6_code 4 = .ok (.iconst 1, 1) := by decide +kernel
theorem d_Plan_planLetter_5 : decode prog_4_method_6_code 5 = .ok (.invokevirtual 90, 3) := by decide +kernel
theorem d_Plan_planLetter_8 : decode prog_4_method_6_code 8 = .ok (.return_, 1) := by decide +kernel
theorem d_Plan_planPart_0 : decode prog_4_method_7_code 0 = .ok (.aload_n 0, 1) := by decide +kernel
theorem d_Plan_planPart_1 : decode prog_4_method_7_code 1 = .ok (.getfield 9, 3) := by decide +kernel
theorem d_Plan_planPart_4 : decode prog_4_method_7_code 4 = .ok (.iload_n 1, 1) := by decide +kernel
theorem d_Plan_planPart_5 : decode prog_4_method_7_code 5 = .ok (.bipush 60, 2) := by decide +kernel
theorem d_Plan_planPart_7 : decode prog_4_method_7_code 7 = .ok (.imul, 1) := by decide +kernel
theorem d_Plan_planPart_8 : decode prog_4_method_7_code 8 = .ok (.iload_n 2, 1) := by decide +kernel
theorem d_Plan_planPart_9 : decode prog_4_method_7_code 9 = .ok (.iadd, 1) := by decide +kernel
theorem d_Plan_planPart_10 : decode prog_4_method_7_code 10 = .ok (.iload_n 3, 1) := by decide +kernel
theorem d_Plan_planPart_11 : decode prog_4_method_7_code 11 = .ok (.invokestatic 54, 3) := by decide +kernel
theorem d_Plan_planPart_14 : decode prog_4_method_7_code 14 = .ok (.aload_n 0, 1) := by decide +kernel
theorem d_Plan_planPart_15 : decode prog_4_method_7_code 15 = .ok (.getfield 15, 3) := by decide +kernel
theorem d_Plan_planPart_18 : decode prog_4_method_7_code 18 = .ok (.iload_n 1, 1) := by decide +kernel
theorem d_Plan_planPart_19 : decode prog_4_method_7_code 19 = .ok (.bipush 60, 2) := by decide +kernel
theorem d_Plan_planPart_21 : decode prog_4_method_7_code 21 = .ok (.imul, 1) := by decide +kernel
theorem d_Plan_planPart_22 : decode prog_4_method_7_code 22 = .ok (.iload_n 2, 1) := by decide +kernel
theorem d_Plan_planPart_23 : decode prog_4_method_7_code 23 = .ok (.iadd, 1) := by decide +kernel
theorem d_Plan_planPart_24 : decode prog_4_method_7_code 24 = .ok (.iload 4, 2) := by decide +kernel
theorem d_Plan_planPart_26 : decode prog_4_method_7_code 26 = .ok (.invokestatic 54, 3) := by decide +kernel
theorem d_Plan_planPart_29 : decode prog_4_method_7_code 29 = .ok (.return_, 1) := by decide +kernel
theorem d_Plan_distanceAt_0 : decode prog_4_method_8_code 0 = .ok (.aload_n 0, 1) := by decide +kernel
theorem d_Plan_distanceAt_1 : decode prog_4_method_8_code 1 = .ok (.getfield 9, 3) := by decide +kernel
theorem d_Plan_distanceAt_4 : decode prog_4_method_8_code 4 = .ok (.iload_n 1, 1) := by decide +kernel
theorem d_Plan_distanceAt_5 : decode prog_4_method_8_code 5 = .ok (.bipush 60, 2) := by decide +kernel
theorem d_Plan_distanceAt_7 : decode prog_4_method_8_code 7 = .ok (.imul, 1) := by decide +kernel
theorem d_Plan_distanceAt_8 : decode prog_4_method_8_code 8 = .ok (.iload_n 2, 1) := by decide +kernel
theorem d_Plan_distanceAt_9 : decode prog_4_method_8_code 9 = .ok (.iadd, 1) := by decide +kernel
theorem d_Plan_distanceAt_10 : decode prog_4_method_8_code 10 = .ok (.invokestatic 97, 3) := by decide +kernel
theorem d_Plan_distanceAt_13 : decode prog_4_method_8_code 13 = .ok (.ireturn, 1) := by decide +kernel
theorem d_Plan_lengthAt_0 : decode prog_4_method_9_code 0 = .ok (.aload_n 0, 1) := by decide +kernel
theorem d_Plan_lengthAt_1 : decode prog_4_method_9_code 1 = .ok (.getfield 15, 3) := by decide +kernel
theorem d_Plan_lengthAt_4 : decode prog_4_method_9_code 4 = .ok (.iload_n 1, 1) := by decide +kernel
theorem d_Plan_lengthAt_5 : decode prog_4_method_9_code 5 = .ok (.bipush 60, 2) := by decide +kernel
theorem d_Plan_lengthAt_7 : decode prog_4_method_9_code 7 = .ok (.imul, 1) := by decide +kernel
theorem d_Plan_lengthAt_8 : decode prog_4_method_9_code 8 = .ok (.iload_n 2, 1) := by decide +kernel
theorem d_Plan_lengthAt_9 : decode prog_4_method_9_code 9 = .ok (.iadd, 1) := by decide +kernel
theorem d_Plan_lengthAt_10 : decode prog_4_method_9_code 10 = .ok (.invokestatic 97, 3) := by decide +kernel
theorem d_Plan_lengthAt_13 : decode prog_4_method_9_code 13 = .ok (.ireturn, 1) := by decide +kernel
theorem d_Plan_layOut_0 : decode prog_4_method_10_code 0 = .ok (.aload_n 0, 1) := by decide +kernel
theorem d_Plan_layOut_1 : decode prog_4_method_10_code 1 = .ok (.iconst 0, 1) := by decide +kernel
theorem d_Plan_layOut_2 : decode prog_4_method_10_code 2 = .ok (.putfield 27, 3) := by decide +kernel
theorem d_Plan_layOut_5 : decode prog_4_method_10_code 5 = .ok (.aload_n 0, 1) := by decide +kernel
theorem d_Plan_layOut_6 : decode prog_4_method_10_code 6 = .ok (.iconst 0, 1) := by decide +kernel
theorem d_Plan_layOut_7 : decode prog_4_method_10_code 7 = .ok (.putfield 31, 3) := by decide +kernel
theorem d_Plan_layOut_10 : decode prog_4_method_10_code 10 = .ok (.aload_n 0, 1) := by decide +kernel
theorem d_Plan_layOut_11 : decode prog_4_method_10_code 11 = .ok (.iconst 0, 1) := by decide +kernel
theorem d_Plan_layOut_12 : decode prog_4_method_10_code 12 = .ok (.putfield 34, 3) := by decide +kernel
theorem d_Plan_layOut_15 : decode prog_4_method_10_code 15 = .ok (.aload_n 0, 1) := by decide +kernel
theorem d_Plan_layOut_16 : decode prog_4_method_10_code 16 = .ok (.iconst 0, 1) := by decide +kernel
theorem d_Plan_layOut_17 : decode prog_4_method_10_code 17 = .ok (.putfield 37, 3) := by decide +kernel
theorem d_Plan_layOut_20 : decode prog_4_method_10_code 20 = .ok (.iconst 0, 1) := by decide +kernel
theorem d_Plan_layOut_21 : decode prog_4_method_10_code 21 = .ok (.istore_n 2, 1) := by decide +kernel
theorem d_Plan_layOut_22 : decode prog_4_method_10_code 22 = .ok (.iconst 0, 1) := by decide +kernel
theorem d_Plan_layOut_23 : decode prog_4_method_10_code 23 = .ok (.istore_n 3, 1) := by decide +kernel
theorem d_Plan_layOut_24 : decode prog_4_method_10_code 24 = .ok (.iload_n 3, 1) := by decide +kernel
theorem d_Plan_layOut_25 : decode prog_4_method_10_code 25 = .ok (.aload_n 0, 1) := by decide +kernel
theorem d_Plan_layOut_26 : decode prog_4_method_10_code 26 = .ok (.getfield 40, 3) := by decide +kernel
theorem d_Plan_layOut_29 : decode prog_4_method_10_code 29 = .ok (.invokevirtual 48, 3) := by decide +kernel
theorem d_Plan_layOut_32 : decode prog_4_method_10_code 32 = .ok (.if_icmp .ge 64, 3) := by decide +kernel
theorem d_Plan_layOut_35 : decode prog_4_method_10_code 35 = .ok (.iload_n 3, 1) := by decide +kernel
theorem d_Plan_layOut_36 : decode prog_4_method_10_code 36 = .ok (.iload_n 2, 1) := by decide +kernel
theorem d_Plan_layOut_37 : decode prog_4_method_10_code 37 = .ok (.if_icmp .ne 53, 3) := by decide +kernel
theorem d_Plan_layOut_40 : decode prog_4_method_10_code 40 = .ok (.aload_n 0, 1) := by decide +kernel
theorem d_Plan_layOut_41 : decode prog_4_method_10_code 41 = .ok (.getfield 24, 3) := by decide +kernel
theorem d_Plan_layOut_44 : decode prog_4_method_10_code 44 = .ok (.aload_n 0, 1) := by decide +kernel
theorem d_Plan_layOut_45 : decode prog_4_method_10_code 45 = .ok (.getfield 27, 3) := by decide +kernel
theorem d_Plan_layOut_48 : decode prog_4_method_10_code 48 = .ok (.iload_n 3, 1) := by decide +kernel
theorem d_Plan_layOut_49 : decode prog_4_method_10_code 49 = .ok (.invokestatic 54, 3) := by decide +kernel
theorem d_Plan_layOut_52 : decode prog_4_method_10_code 52 = .ok (.aload_n 0, 1) := by decide +kernel
theorem d_Plan_layOut_53 : decode prog_4_method_10_code 53 = .ok (.dup, 1) := by decide +kernel
theorem d_Plan_layOut_54 : decode prog_4_method_10_code 54 = .ok (.getfield 27, 3) := by decide +kernel
theorem d_Plan_layOut_57 : decode prog_4_method_10_code 57 = .ok (.iconst 1, 1) := by decide +kernel
theorem d_Plan_layOut_58 : decode prog_4_method_10_code 58 = .ok (.iadd, 1) := by decide +kernel
theorem d_Plan_layOut_59 : decode prog_4_method_10_code 59 = .ok (.putfield 27, 3) := by decide +kernel
theorem d_Plan_layOut_62 : decode prog_4_method_10_code 62 = .ok (.aload_n 0, 1) := by decide +kernel
theorem d_Plan_layOut_63 : decode prog_4_method_10_code 63 = .ok (.iload_n 1, 1) := by decide +kernel
theorem d_Plan_layOut_64 : decode prog_4_method_10_code 64 = .ok (.iload_n 3, 1) := by decide +kernel
theorem d_Plan_layOut_65 : decode prog_4_method_10_code 65 = .ok (.invokevirtual 101, 3) := by decide +kernel
theorem d_Plan_layOut_68 : decode prog_4_method_10_code 68 = .ok (.ifCond .eq 13, 3) := by decide +kernel
theorem d_Plan_layOut_71 : decode prog_4_method_10_code 71 = .ok (.aload_n 0, 1) := by decide +kernel
theorem d_Plan_layOut_72 : decode prog_4_method_10_code 72 = .ok (.aload_n 0, 1) := by decide +kernel
theorem d_Plan_layOut_73 : decode prog_4_method_10_code 73 = .ok (.iload_n 1, 1) := by decide +kernel
theorem d_Plan_layOut_74 : decode prog_4_method_10_code 74 = .ok (.iload_n 3, 1) := by decide +kernel
theorem d_Plan_layOut_75 : decode prog_4_method_10_code 75 = .ok (.invokevirtual 105, 3) := by decide +kernel
theorem d_Plan_layOut_78 : decode prog_4_method_10_code 78 = .ok (.invokevirtual 119, 3) := by decide +kernel
theorem d_Plan_layOut_81 : decode prog_4_method_10_code 81 = .ok (.iload_n 3, 1) := by decide +kernel
theorem d_Plan_layOut_82 : decode prog_4_method_10_code 82 = .ok (.aload_n 0, 1) := by decide +kernel
theorem d_Plan_layOut_83 : decode prog_4_method_10_code 83 = .ok (.iload_n 1, 1) := by decide +kernel
theorem d_Plan_layOut_84 : decode prog_4_method_10_code 84 = .ok (.iload_n 3, 1) := by decide +kernel
theorem d_Plan_layOut_85 : decode prog_4_method_10_code 85 = .ok (.invokevirtual 105, 3) := by decide +kernel
theorem d_Plan_layOut_88 : decode prog_4_method_10_code 88 = .ok (.iadd, 1) := by decide +kernel
theorem d_Plan_layOut_89 : decode prog_4_method_10_code 89 = .ok (.istore_n 2, 1) := by decide +kernel
theorem d_Plan_layOut_90 : decode prog_4_method_10_code 90 = .ok (.iinc 3 1, 3) := by decide +kernel
theorem d_Plan_layOut_93 : decode prog_4_method_10_code 93 = .ok (.goto (-69), 3) := by decide +kernel
theorem d_Plan_layOut_96 : decode prog_4_method_10_code 96 = .ok (.return_, 1) := by decide +kernel
theorem d_Plan_countCopy_0 : decode prog_4_method_11_code 0 = .ok (.aload_n 0, 1) := by decide +kernel
theorem d_Plan_countCopy_1 : decode prog_4_method_11_code 1 = .ok (.dup, 1) := by decide +kernel
theorem d_Plan_countCopy_2 : decode prog_4_method_11_code 2 = .ok (.getfield 31, 3) := by decide +kernel
theorem d_Plan_countCopy_5 : decode prog_4_method_11_code 5 = .ok (.iconst 1, 1) := by decide +kernel
theorem d_Plan_countCopy_6 : decode prog_4_method_11_code 6 = .ok (.iadd, 1) := by decide +kernel
theorem d_Plan_countCopy_7 : decode prog_4_method_11_code 7 = .ok (.putfield 31, 3) := by decide +kernel
theorem d_Plan_countCopy_10 : decode prog_4_method_11_code 10 = .ok (.aload_n 0, 1) := by decide +kernel
theorem d_Plan_countCopy_11 : decode prog_4_method_11_code 11 = .ok (.dup, 1) := by decide +kernel
theorem d_Plan_countCopy_12 : decode prog_4_method_11_code 12 = .ok (.getfield 34, 3) := by decide +kernel
theorem d_Plan_countCopy_15 : decode prog_4_method_11_code 15 = .ok (.iload_n 1, 1) := by decide +kernel
theorem d_Plan_countCopy_16 : decode prog_4_method_11_code 16 = .ok (.iadd, 1) := by decide +kernel
theorem d_Plan_countCopy_17 : decode prog_4_method_11_code 17 = .ok (.putfield 34, 3) := by decide +kernel
theorem d_Plan_countCopy_20 : decode prog_4_method_11_code 20 = .ok (.aload_n 0, 1) := by decide +kernel
theorem d_Plan_countCopy_21 : decode prog_4_method_11_code 21 = .ok (.aload_n 0, 1) := by decide +kernel
theorem d_Plan_countCopy_22 : decode prog_4_method_11_code 22 = .ok (.getfield 37, 3) := by decide +kernel
theorem d_Plan_countCopy_25 : decode prog_4_method_11_code 25 = .ok (.iload_n 1, 1) := by decide +kernel
theorem d_Plan_countCopy_26 : decode prog_4_method_11_code 26 = .ok (.invokestatic 114, 3) := by decide +kernel
theorem d_Plan_countCopy_29 : decode prog_4_method_11_code 29 = .ok (.putfield 37, 3) := by decide +kernel
theorem d_Plan_countCopy_32 : decode prog_4_method_11_code 32 = .ok (.return_, 1) := by decide +kernel
theorem d_Plan_parts_0 : decode prog_4_method_12_code 0 = .ok (.aload_n 0, 1) := by decide +kernel
theorem d_Plan_parts_1 : decode prog_4_method_12_code 1 = .ok (.getfield 27, 3) := by decide +kernel
theorem d_Plan_parts_4 : decode prog_4_method_12_code 4 = .ok (.ireturn, 1) := by decide +kernel
theorem d_Plan_copies_0 : decode prog_4_method_13_code 0 = .ok (.aload_n 0, 1) := by decide +kernel
theorem d_Plan_copies_1 : decode prog_4_method_13_code 1 = .ok (.getfield 31, 3) := by decide +kernel
theorem d_Plan_copies_4 : decode prog_4_method_13_code 4 = .ok (.ireturn, 1) := by decide +kernel
theorem d_Plan_copiedLetters_0 : decode prog_4_method_14_code 0 = .ok (.aload_n 0, 1) := by decide +kernel
theorem d_Plan_copiedLetters_1 : decode prog_4_method_14_code 1 = .ok (.getfield 34, 3) := by decide +kernel
theorem d_Plan_copiedLetters_4 : decode prog_4_method_14_code 4 = .ok (.ireturn, 1) := by decide +kernel
theorem d_Plan_longestCopy_0 : decode prog_4_method_15_code 0 = .ok (.aload_n 0, 1) := by decide +kernel
theorem d_Plan_longestCopy_1 : decode prog_4_method_15_code 1 = .ok (.getfield 37, 3) := by decide +kernel
theorem d_Plan_longestCopy_4 : decode prog_4_method_15_code 4 = .ok (.ireturn, 1) := by decide +kernel
theorem d_Plan_cost_0 : decode prog_4_method_16_code 0 = .ok (.aload_n 0, 1) := by decide +kernel
theorem d_Plan_cost_1 : decode prog_4_method_16_code 1 = .ok (.getfield 27, 3) := by decide +kernel
theorem d_Plan_cost_4 : decode prog_4_method_16_code 4 = .ok (.aload_n 0, 1) := by decide +kernel
theorem d_Plan_cost_5 : decode prog_4_method_16_code 5 = .ok (.getfield 31, 3) := by decide +kernel
theorem d_Plan_cost_8 : decode prog_4_method_16_code 8 = .ok (.isub, 1) := by decide +kernel
theorem d_Plan_cost_9 : decode prog_4_method_16_code 9 = .ok (.aload_n 0, 1) := by decide +kernel
theorem d_Plan_cost_10 : decode prog_4_method_16_code 10 = .ok (.getfield 40, 3) := by decide +kernel
theorem d_Plan_cost_13 : decode prog_4_method_16_code 13 = .ok (.iconst 3, 1) := by decide +kernel
theorem d_Plan_cost_14 : decode prog_4_method_16_code 14 = .ok (.invokevirtual 108, 3) := by decide +kernel
theorem d_Plan_cost_17 : decode prog_4_method_16_code 17 = .ok (.imul, 1) := by decide +kernel
theorem d_Plan_cost_18 : decode prog_4_method_16_code 18 = .ok (.aload_n 0, 1) := by decide +kernel
theorem d_Plan_cost_19 : decode prog_4_method_16_code 19 = .ok (.getfield 31, 3) := by decide +kernel
theorem d_Plan_cost_22 : decode prog_4_method_16_code 22 = .ok (.aload_n 0, 1) := by decide +kernel
theorem d_Plan_cost_23 : decode prog_4_method_16_code 23 = .ok (.getfield 40, 3) := by decide +kernel
theorem d_Plan_cost_26 : decode prog_4_method_16_code 26 = .ok (.iconst 4, 1) := by decide +kernel
theorem d_Plan_cost_27 : decode prog_4_method_16_code 27 = .ok (.invokevirtual 108, 3) := by decide +kernel
theorem d_Plan_cost_30 : decode prog_4_method_16_code 30 = .ok (.imul, 1) := by decide +kernel
theorem d_Plan_cost_31 : decode prog_4_method_16_code 31 = .ok (.iadd, 1) := by decide +kernel
theorem d_Plan_cost_32 : decode prog_4_method_16_code 32 = .ok (.ireturn, 1) := by decide +kernel
theorem d_Plan_beginOf_0 : decode prog_4_method_17_code 0 = .ok (.aload_n 0, 1) := by decide +kernel
theorem d_Plan_beginOf_1 : decode prog_4_method_17_code 1 = .ok (.getfield 24, 3) := by decide +kernel
theorem d_Plan_beginOf_4 : decode prog_4_method_17_code 4 = .ok (.iload_n 1, 1) := by decide +kernel
theorem d_Plan_beginOf_5 : decode prog_4_method_17_code 5 = .ok (.invokestatic 97, 3) := by decide +kernel
theorem d_Plan_beginOf_8 : decode prog_4_method_17_code 8 = .ok (.ireturn, 1) := by decide +kernel
theorem d_Plan_indexAt_0 : decode prog_4_method_18_code 0 = .ok (.iconst 0, 1) := by decide +kernel
theorem d_Plan_indexAt_1 : decode prog_4_method_18_code 1 = .ok (.istore_n 2, 1) := by decide +kernel
theorem d_Plan_indexAt_2 : decode prog_4_method_18_code 2 = .ok (.iload_n 2, 1) := by decide +kernel
theorem d_Plan_indexAt_3 : decode prog_4_method_18_code 3 = .ok (.iconst 1, 1) := by decide +kernel
theorem d_Plan_indexAt_4 : decode prog_4_method_18_code 4 = .ok (.iadd, 1) := by decide +kernel
theorem d_Plan_indexAt_5 : decode prog_4_method_18_code 5 = .ok (.aload_n 0, 1) := by decide +kernel
theorem d_Plan_indexAt_6 : decode prog_4_method_18_code 6 = .ok (.getfield 27, 3) := by decide +kernel
theorem d_Plan_indexAt_9 : decode prog_4_method_18_code 9 = .ok (.if_icmp .ge 20, 3) := by decide +kernel
theorem d_Plan_indexAt_12 : decode prog_4_method_18_code 12 = .ok (.aload_n 0, 1) := by decide +kernel
theorem d_Plan_indexAt_13 : decode prog_4_method_18_code 13 = .ok (.iload_n 2, 1) := by decide +kernel
theorem d_Plan_indexAt_14 : decode prog_4_method_18_code 14 = .ok (.iconst 1, 1) := by decide +kernel
theorem d_Plan_indexAt_15 : decode prog_4_method_18_code 15 = .ok (.iadd, 1) := by decide +kernel
theorem d_Plan_indexAt_16 : decode prog_4_method_18_code 16 = .ok (.invokevirtual 122, 3) := by decide +kernel
theorem d_Plan_indexAt_19 : decode prog_4_method_18_code 19 = .ok (.iload_n 1, 1) := by decide +kernel
theorem d_Plan_indexAt_20 : decode prog_4_method_18_code 20 = .ok (.if_icmp .gt 9, 3) := by decide +kernel
theorem d_Plan_indexAt_23 : decode prog_4_method_18_code 23 = .ok (.iinc 2 1, 3) := by decide +kernel
theorem d_Plan_indexAt_26 : decode prog_4_method_18_code 26 = .ok (.goto (-24), 3) := by decide +kernel
theorem d_Plan_indexAt_29 : decode prog_4_method_18_code 29 = .ok (.iload_n 2, 1) := by decide +kernel
theorem d_Plan_indexAt_30 : decode prog_4_method_18_code 30 = .ok (.ireturn, 1) := by decide +kernel
theorem d_Plan_firstUnlike_0 : decode prog_4_method_19_code 0 = .ok (.iconst 0, 1) := by decide +kernel
theorem d_Plan_firstUnlike_1 : decode prog_4_method_19_code 1 = .ok (.istore_n 3, 1) := by decide +kernel
theorem d_Plan_firstUnlike_2 : decode prog_4_method_19_code 2 = .ok (.iconst 0, 1) := by decide +kernel
theorem d_Plan_firstUnlike_3 : decode prog_4_method_19_code 3 = .ok (.istore 4, 2) := by decide +kernel
theorem d_Plan_firstUnlike_5 : decode prog_4_method_19_code 5 = .ok (.iload 4, 2) := by decide +kernel
theorem d_Plan_firstUnlike_7 : decode prog_4_method_19_code 7 = .ok (.aload_n 0, 1) := by decide +kernel
theorem d_Plan_firstUnlike_8 : decode prog_4_method_19_code 8 = .ok (.getfield 40, 3) := by decide +kernel
theorem d_Plan_firstUnlike_11 : decode prog_4_method_19_code 11 = .ok (.invokevirtual 48, 3) := by decide +kernel
theorem d_Plan_firstUnlike_14 : decode prog_4_method_19_code 14 = .ok (.if_icmp .ge 63, 3) := by decide +kernel
theorem d_Plan_firstUnlike_17 : decode prog_4_method_19_code 17 = .ok (.iload 4, 2) := by decide +kernel
theorem d_Plan_firstUnlike_19 : decode prog_4_method_19_code 19 = .ok (.iload_n 3, 1) := by decide +kernel
theorem d_Plan_firstUnlike_20 : decode prog_4_method_19_code 20 = .ok (.if_icmp .ne 51, 3) := by decide +kernel
theorem d_Plan_firstUnlike_23 : decode prog_4_method_19_code 23 = .ok (.aload_n 0, 1) := by decide +kernel
theorem d_Plan_firstUnlike_24 : decode prog_4_method_19_code 24 = .ok (.iload_n 1, 1) := by decide +kernel
theorem d_Plan_firstUnlike_25 : decode prog_4_method_19_code 25 = .ok (.iload 4, 2) := by decide +kernel
theorem d_Plan_firstUnlike_27 : decode prog_4_method_19_code 27 = .ok (.invokevirtual 101, 3) := by decide +kernel
theorem d_Plan_firstUnlike_30 : decode prog_4_method_19_code 30 = .ok (.aload_n 0, 1) := by decide +kernel
theorem d_Plan_firstUnlike_31 : decode prog_4_method_19_code 31 = .ok (.iload_n 2, 1) := by decide +kernel
theorem d_Plan_firstUnlike_32 : decode prog_4_method_19_code 32 = .ok (.iload 4, 2) := by decide +kernel
theorem d_Plan_firstUnlike_34 : decode prog_4_method_19_code 34 = .ok (.invokevirtual 101, 3) := by decide +kernel
theorem d_Plan_firstUnlike_37 : decode prog_4_method_19_code 37 = .ok (.if_icmp .ne 20, 3) := by decide +kernel
theorem d_Plan_firstUnlike_40 : decode prog_4_method_19_code 40 = .ok (.aload_n 0, 1) := by decide +kernel
theorem d_Plan_firstUnlike_41 : decode prog_4_method_19_code 41 = .ok (.iload_n 1, 1) := by decide +kernel
theorem d_Plan_firstUnlike_42 : decode prog_4_method_19_code 42 = .ok (.iload 4, 2) := by decide +kernel
theorem d_Plan_firstUnlike_44 : decode prog_4_method_19_code 44 = .ok (.invokevirtual 105, 3) := by decide +kernel
theorem d_Plan_firstUnlike_47 : decode prog_4_method_19_code 47 = .ok (.aload_n 0, 1) := by decide +kernel
theorem d_Plan_firstUnlike_48 : decode prog_4_method_19_code 48 = .ok (.iload_n 2, 1) := by decide +kernel
theorem d_Plan_firstUnlike_49 : decode prog_4_method_19_code 49 = .ok (.iload 4, 2) := by decide +kernel
theorem d_Plan_firstUnlike_51 : decode prog_4_method_19_code 51 = .ok (.invokevirtual 105, 3) := by decide +kernel
theorem d_Plan_firstUnlike_54 : decode prog_4_method_19_code 54 = .ok (.if_icmp .eq 6, 3) := by decide +kernel
theorem d_Plan_firstUnlike_57 : decode prog_4_method_19_code 57 = .ok (.iload 4, 2) := by decide +kernel
theorem d_Plan_firstUnlike_59 : decode prog_4_method_19_code 59 = .ok (.ireturn, 1) := by decide +kernel
theorem d_Plan_firstUnlike_60 : decode prog_4_method_19_code 60 = .ok (.iload 4, 2) := by decide +kernel
theorem d_Plan_firstUnlike_62 : decode prog_4_method_19_code 62 = .ok (.aload_n 0, 1) := by decide +kernel
theorem d_Plan_firstUnlike_63 : decode prog_4_method_19_code 63 = .ok (.iload_n 1, 1) := by decide +kernel
theorem d_Plan_firstUnlike_64 : decode prog_4_method_19_code 64 = .ok (.iload 4, 2) := by decide +kernel
theorem d_Plan_firstUnlike_66 : decode prog_4_method_19_code 66 = .ok (.invokevirtual 105, 3) := by decide +kernel
theorem d_Plan_firstUnlike_69 : decode prog_4_method_19_code 69 = .ok (.iadd, 1) := by decide +kernel
theorem d_Plan_firstUnlike_70 : decode prog_4_method_19_code 70 = .ok (.istore_n 3, 1) := by decide +kernel
theorem d_Plan_firstUnlike_71 : decode prog_4_method_19_code 71 = .ok (.iinc 4 1, 3) := by decide +kernel
theorem d_Plan_firstUnlike_74 : decode prog_4_method_19_code 74 = .ok (.goto (-69), 3) := by decide +kernel
theorem d_Plan_firstUnlike_77 : decode prog_4_method_19_code 77 = .ok (.iconst (-1), 1) := by decide +kernel
theorem d_Plan_firstUnlike_78 : decode prog_4_method_19_code 78 = .ok (.ireturn, 1) := by decide +kernel
theorem d_State_init_0 : decode prog_5_method_1_code 0 = .ok (.aload_n 0, 1) := by decide +kernel
theorem d_State_init_1 : decode prog_5_method_1_code 1 = .ok (.invokespecial 3, 3) := by decide +kernel
theorem d_State_init_4 : decode prog_5_method_1_code 4 = .ok (.aload_n 0, 1) := by decide +kernel
theorem d_State_init_5 : decode prog_5_method_1_code 5 = .ok (.bipush 60, 2) := by decide +kernel
theorem d_State_init_7 : decode prog_5_method_1_code 7 = .ok (.newarray .int, 2) := by decide +kernel
theorem d_State_init_9 : decode prog_5_method_1_code 9 = .ok (.putfield 9, 3) := by decide +kernel
theorem d_State_init_12 : decode prog_5_method_1_code 12 = .ok (.aload_n 0, 1) := by decide +kernel
theorem d_State_init_13 : decode prog_5_method_1_code 13 = .ok (.iconst 5, 1) := by decide +kernel
theorem d_State_init_14 : decode prog_5_method_1_code 14 = .ok (.newarray .int, 2) := by decide +kernel
theorem d_State_init_16 : decode prog_5_method_1_code 16 = .ok (.putfield 15, 3) := by decide +kernel
theorem d_State_init_19 : decode prog_5_method_1_code 19 = .ok (.aload_n 0, 1) := by decide +kernel
theorem d_State_init_20 : decode prog_5_method_1_code 20 = .ok (.iconst 0, 1) := by decide +kernel
theorem d_State_init_21 : decode prog_5_method_1_code 21 = .ok (.putfield 18, 3) := by decide +kernel
theorem d_State_init_24 : decode prog_5_method_1_code 24 = .ok (.iconst 0, 1) := by decide +kernel
theorem d_State_init_25 : decode prog_5_method_1_code 25 = .ok (.istore_n 1, 1) := by decide +kernel
theorem d_State_init_26 : decode prog_5_method_1_code 26 = .ok (.iload_n 1, 1) := by decide +kernel
theorem d_State_init_27 : decode prog_5_method_1_code 27 = .ok (.iconst 5, 1) := by decide +kernel
theorem d_State_init_28 : decode prog_5_method_1_code 28 = .ok (.if_icmp .ge 24, 3) := by decide +kernel
theorem d_State_init_31 : decode prog_5_method_1_code 31 = .ok (.aload_n 0, 1) := by decide +kernel
theorem d_State_init_32 : decode prog_5_method_1_code 32 = .ok (.getfield 15, 3) := by decide +kernel
theorem d_State_init_35 : decode prog_5_method_1_code 35 = .ok (.iload_n 1, 1) := by decide +kernel
theorem d_State_init_36 : decode prog_5_method_1_code 36 = .ok (.getstatic 22, 3) := by decide +kernel
theorem d_State_init_39 : decode prog_5_method_1_code 39 = .ok (.iload_n 1, 1) := by decide +kernel
theorem d_State_init_40 : decode prog_5_method_1_code 40 = .ok (.invokestatic 25, 3) := by decide +kernel
theorem d_State_init_43 : decode prog_5_method_1_code 43 = .ok (.invokestatic 29, 3) := by decide +kernel
theorem d_State_init_46 : decode prog_5_method_1_code 46 = .ok (.iinc 1 1, 3) := by decide +kernel
theorem d_State_init_49 : decode prog_5_method_1_code 49 = .ok (.goto (-23), 3) := by decide +kernel
theorem d_State_init_52 : decode prog_5_method_1_code 52 = .ok (.return_, 1) := by decide +kernel
theorem d_State_size_0 : decode prog_5_method_2_code 0 = .ok (.aload_n 0, 1) := by decide +kernel
theorem d_State_size_1 : decode prog_5_method_2_code 1 = .ok (.getfield 18, 3) := by decide +kernel
theorem d_State_size_4 : decode prog_5_method_2_code 4 = .ok (.ireturn, 1) := by decide +kernel
theorem d_State_hasPlace_0 : decode prog_5_method_3_code 0 = .ok (.iload_n 1, 1) := by decide +kernel
theorem d_State_hasPlace_1 : decode prog_5_method_3_code 1 = .ok (.ifCond .lt 15, 3) := by decide +kernel
theorem d_State_hasPlace_4 : decode prog_5_method_3_code 4 = .ok (.iload_n 1, 1) := by decide +kernel
theorem d_State_hasPlace_5 : decode prog_5_method_3_code 5 = .ok (.aload_n 0, 1) := by decide +kernel
theorem d_State_hasPlace_6 : decode prog_5_method_3_code 6 = .ok (.getfield 18, 3) := by decide +kernel
theorem d_State_hasPlace_9 : decode prog_5_method_3_code 9 = .ok (.if_icmp .ge 7, 3) := by decide +kernel
theorem d_State_hasPlace_12 : decode prog_5_method_3_code 12 = .ok (.iconst 1, 1) := by decide +kernel
theorem d_State_hasPlace_13 : decode prog_5_method_3_code 13 = .ok (.goto 4, 3) := by decide +kernel
theorem d_State_hasPlace_16 : decode prog_5_method_3_code 16 = .ok (.iconst 0, 1) := by decide +kernel
theorem d_State_hasPlace_17 : decode prog_5_method_3_code 17 = .ok (.ireturn, 1) := by decide +kernel
theorem d_State_letterAt_0 : decode prog_5_method_4_code 0 = .ok (.aload_n 0, 1) := by decide +kernel
theorem d_State_letterAt_1 : decode prog_5_method_4_code 1 = .ok (.getfield 9, 3) := by decide +kernel
theorem d_State_letterAt_4 : decode prog_5_method_4_code 4 = .ok (.iload_n 1, 1) := by decide +kernel
theorem d_State_letterAt_5 : decode prog_5_method_4_code 5 = .ok (.invokestatic 25, 3) := by decide +kernel
theorem d_State_letterAt_8 : decode prog_5_method_4_code 8 = .ok (.ireturn, 1) := by decide +kernel
theorem d_State_changeLetter_0 : decode prog_5_method_5_code 0 = .ok (.aload_n 0, 1) := by decide +kernel
theorem d_State_changeLetter_1 : decode prog_5_method_5_code 1 = .ok (.getfield 9, 3) := by decide +kernel
theorem d_State_changeLetter_4 : decode prog_5_method_5_code 4 = .ok (.iload_n 1, 1) := by decide +kernel
theorem d_State_changeLetter_5 : decode prog_5_method_5_code 5 = .ok (.iload_n 2, 1) := by decide +kernel
theorem d_State_changeLetter_6 : decode prog_5_method_5_code 6 = .ok (.invokestatic 29, 3) := by decide +kernel
theorem d_State_changeLetter_9 : decode prog_5_method_5_code 9 = .ok (.return_, 1) := by decide +kernel
theorem d_State_append_0 : decode prog_5_method_6_code 0 = .ok (.aload_n 0, 1) := by decide +kernel
theorem d_State_append_1 : decode prog_5_method_6_code 1 = .ok (.getfield 18, 3) := by decide +kernel
theorem d_State_append_4 : decode prog_5_method_6_code 4 = .ok (.bipush 60, 2) := by decide +kernel
theorem d_State_append_6 : decode prog_5_method_6_code 6 = .ok (.if_icmp .ge 25, 3) := by decide +kernel
theorem d_State_append_9 : decode prog_5_method_6_code 9 = .ok (.aload_n 0, 1) := by decide +kernel
theorem d_State_append_10 : decode prog_5_method_6_code 10 = .ok (.getfield 9, 3) := by decide +kernel
theorem d_State_append_13 : decode prog_5_method_6_code 13 = .ok (.aload_n 0, 1) := by decide +kernel
theorem d_State_append_14 : decode prog_5_method_6_code 14 = .ok (.getfield 18, 3) := by decide +kernel
theorem d_State_append_17 : decode prog_5_method_6_code 17 = .ok (.iload_n 1, 1) := by decide +kernel
theorem d_State_append_18 : decode prog_5_method_6_code 18 = .ok (.invokestatic 29, 3) := by decide +kernel
theorem d_State_append_21 : decode prog_5_method_6_code 21 = .ok (.aload_n 0, 1) := by decide +kernel
theorem d_State_append_22 : decode prog_5_method_6_code 22 = .ok (.dup, 1) := by decide +kernel
theorem d_State_append_23 : decode prog_5_method_6_code 23 = .ok (.getfield 18, 3) := by decide +kernel
theorem d_State_append_26 : decode prog_5_method_6_code 26 = .ok (.iconst 1, 1) := by decide +kernel
theorem d_State_append_27 : decode prog_5_method_6_code 27 = .ok (.iadd, 1) := by decide +kernel
theorem d_State_append_28 : decode prog_5_method_6_code 28 = .ok (.putfield 18, 3) := by decide +kernel
theorem d_State_append_31 : decode prog_5_method_6_code 31 = .ok (.return_, 1) := by decide +kernel
theorem d_State_appendCopy_0 : decode prog_5_method_7_code 0 = .ok (.iconst 0, 1) := by decide +kernel
theorem d_State_appendCopy_1 : decode prog_5_method_7_code 1 = .ok (.istore_n 3, 1) := by decide +kernel
theorem d_State_appendCopy_2 : decode prog_5_method_7_code 2 = .ok (.iload_n 3, 1) := by decide +kernel
theorem d_State_appendCopy_3 : decode prog_5_method_7_code 3 = .ok (.iload_n 2, 1) := by decide +kernel
theorem d_State_appendCopy_4 : decode prog_5_method_7_code 4 = .ok (.if_icmp .ge 23, 3) := by decide +kernel
theorem d_State_appendCopy_7 : decode prog_5_method_7_code 7 = .ok (.aload_n 0, 1) := by decide +kernel
theorem d_State_appendCopy_8 : decode prog_5_method_7_code 8 = .ok (.aload_n 0, 1) := by decide +kernel
theorem d_State_appendCopy_9 : decode prog_5_method_7_code 9 = .ok (.aload_n 0, 1) := by decide +kernel
theorem d_State_appendCopy_10 : decode prog_5_method_7_code 10 = .ok (.getfield 18, 3) := by decide +kernel
theorem d_State_appendCopy_13 : decode prog_5_method_7_code 13 = .ok (.iload_n 1, 1) := by decide +kernel
theorem d_State_appendCopy_14 : decode prog_5_method_7_code 14 = .ok (.isub, 1) := by decide +kernel
theorem d_State_appendCopy_15 : decode prog_5_method_7_code 15 = .ok (.invokevirtual 33, 3) := by decide +kernel
theorem d_State_appendCopy_18 : decode prog_5_method_7_code 18 = .ok (.invokevirtual 37, 3) := by decide +kernel
theorem d_State_appendCopy_21 : decode prog_5_method_7_code 21 = .ok (.iinc 3 1, 3) := by decide +kernel
theorem d_State_appendCopy_24 : decode prog_5_method_7_code 24 = .ok (.goto (-22), 3) := by decide +kernel
theorem d_State_appendCopy_27 : decode prog_5_method_7_code 27 = .ok (.return_, 1) := by decide +kernel
theorem d_State_shorten_0 : decode prog_5_method_8_code 0 = .ok (.aload_n 0, 1) := by decide +kernel
theorem d_State_shorten_1 : decode prog_5_method_8_code 1 = .ok (.iconst 0, 1) := by decide +kernel
theorem d_State_shorten_2 : decode prog_5_method_8_code 2 = .ok (.aload_n 0, 1) := by decide +kernel
theorem d_State_shorten_3 : decode prog_5_method_8_code 3 = .ok (.getfield 18, 3) := by decide +kernel
theorem d_State_shorten_6 : decode prog_5_method_8_code 6 = .ok (.iload_n 1, 1) := by decide +kernel
theorem d_State_shorten_7 : decode prog_5_method_8_code 7 = .ok (.isub, 1) := by decide +kernel
theorem d_State_shorten_8 : decode prog_5_method_8_code 8 = .ok (.invokestatic 41, 3) := by decide +kernel
theorem d_State_shorten_11 : decode prog_5_method_8_code 11 = .ok (.putfield 18, 3) := by decide +kernel
theorem d_State_shorten_14 : decode prog_5_method_8_code 14 = .ok (.return_, 1) := by decide +kernel
theorem d_State_setting_0 : decode prog_5_method_9_code 0 = .ok (.aload_n 0, 1) := by decide +kernel
theorem d_State_setting_1 : decode prog_5_method_9_code 1 = .ok (.getfield 15, 3) := by decide +kernel
theorem d_State_setting_4 : decode prog_5_method_9_code 4 = .ok (.iload_n 1, 1) := by decide +kernel
theorem d_State_setting_5 : decode prog_5_method_9_code 5 = .ok (.invokestatic 25, 3) := by decide +kernel
theorem d_State_setting_8 : decode prog_5_method_9_code 8 = .ok (.ireturn, 1) := by decide +kernel
theorem d_State_changeSetting_0 : decode prog_5_method_10_code 0 = .ok (.aload_n 0, 1) := by decide +kernel
theorem d_State_changeSetting_1 : decode prog_5_method_10_code 1 = .ok (.getfield 15, 3) := by decide +kernel
theorem d_State_changeSetting_4 : decode prog_5_method_10_code 4 = .ok (.iload_n 1, 1) := by decide +kernel
theorem d_State_changeSetting_5 : decode prog_5_method_10_code 5 = .ok (.iload_n 2, 1) := by decide +kernel
theorem d_State_changeSetting_6 : decode prog_5_method_10_code 6 = .ok (.invokestatic 29, 3) := by decide +kernel
theorem d_State_changeSetting_9 : decode prog_5_method_10_code 9 = .ok (.return_, 1) := by decide +kernel
theorem d_State_savingOf_0 : decode prog_5_method_11_code 0 = .ok (.iload_n 1, 1) := by decide +kernel
theorem d_State_savingOf_1 : decode prog_5_method_11_code 1 = .ok (.aload_n 0, 1) := by decide +kernel
theorem d_State_savingOf_2 : decode prog_5_method_11_code 2 = .ok (.iconst 3, 1) := by decide +kernel
theorem d_State_savingOf_3 : decode prog_5_method_11_code 3 = .ok (.invokevirtual 47, 3) := by decide +kernel
theorem d_State_savingOf_6 : decode prog_5_method_11_code 6 = .ok (.imul, 1) := by decide +kernel
theorem d_State_savingOf_7 : decode prog_5_method_11_code 7 = .ok (.aload_n 0, 1) := by decide +kernel
theorem d_State_savingOf_8 : decode prog_5_method_11_code 8 = .ok (.iconst 4, 1) := by decide +kernel
theorem d_State_savingOf_9 : decode prog_5_method_11_code 9 = .ok (.invokevirtual 47, 3) := by decide +kernel
theorem d_State_savingOf_12 : decode prog_5_method_11_code 12 = .ok (.isub, 1) := by decide +kernel
theorem d_State_savingOf_13 : decode prog_5_method_11_code 13 = .ok (.ireturn, 1) := by decide +kernel
theorem d_State_likeLength_0 : decode prog_5_method_12_code 0 = .ok (.iconst 0, 1) := by decide +kernel
theorem d_State_likeLength_1 : decode prog_5_method_12_code 1 = .ok (.istore_n 3, 1) := by decide +kernel
theorem d_State_likeLength_2 : decode prog_5_method_12_code 2 = .ok (.iload_n 2, 1) := by decide +kernel
theorem d_State_likeLength_3 : decode prog_5_method_12_code 3 = .ok (.iload_n 3, 1) := by decide +kernel
theorem d_State_likeLength_4 : decode prog_5_method_12_code 4 = .ok (.iadd, 1) := by decide +kernel
theorem d_State_likeLength_5 : decode prog_5_method_12_code 5 = .ok (.aload_n 0, 1) := by decide +kernel
theorem d_State_likeLength_6 : decode prog_5_method_12_code 6 = .ok (.getfield 18, 3) := by decide +kernel
theorem d_State_likeLength_9 : decode prog_5_method_12_code 9 = .ok (.if_icmp .ge 26, 3) := by decide +kernel
theorem d_State_likeLength_12 : decode prog_5_method_12_code 12 = .ok (.aload_n 0, 1) := by decide +kernel
theorem d_State_likeLength_13 : decode prog_5_method_12_code 13 = .ok (.iload_n 1, 1) := by decide +kernel
theorem d_State_likeLength_14 : decode prog_5_method_12_code 14 = .ok (.iload_n 3, 1) := by decide +kernel
theorem d_State_likeLength_15 : decode prog_5_method_12_code 15 = .ok (.iadd, 1) := by decide +kernel
theorem d_State_likeLength_16 : decode prog_5_method_12_code 16 = .ok (.invokevirtual 33, 3) := by decide +kernel
theorem d_State_likeLength_19 : decode prog_5_method_12_code 19 = .ok (.aload_n 0, 1) := by decide +kernel
theorem d_State_likeLength_20 : decode prog_5_method_12_code 20 = .ok (.iload_n 2, 1) := by decide +kernel
theorem d_State_likeLength_21 : decode prog_5_method_12_code 21 = .ok (.iload_n 3, 1) := by decide +kernel
theorem d_State_likeLength_22 : decode prog_5_method_12_code 22 = .ok (.iadd, 1) := by decide +kernel
theorem d_State_likeLength_23 : decode prog_5_method_12_code 23 = .ok (.invokevirtual 33, 3) := by decide +kernel
theorem d_State_likeLength_26 : decode prog_5_method_12_code 26 = .ok (.if_icmp .ne 9, 3) := by decide +kernel
theorem d_State_likeLength_29 : decode prog_5_method_12_code 29 = .ok (.iinc 3 1, 3) := by decide +kernel
theorem d_State_likeLength_32 : decode prog_5_method_12_code 32 = .ok (.goto (-30), 3) := by decide +kernel
theorem d_State_likeLength_35 : decode prog_5_method_12_code 35 = .ok (.iload_n 3, 1) := by decide +kernel
theorem d_State_likeLength_36 : decode prog_5_method_12_code 36 = .ok (.ireturn, 1) := by decide +kernel
theorem d_State_unlikeLetters_0 : decode prog_5_method_13_code 0 = .ok (.iconst 0, 1) := by decide +kernel
theorem d_State_unlikeLetters_1 : decode prog_5_method_13_code 1 = .ok (.istore_n 1, 1) := by decide +kernel
theorem d_State_unlikeLetters_2 : decode prog_5_method_13_code 2 = .ok (.iconst 0, 1) := by decide +kernel
theorem d_State_unlikeLetters_3 : decode prog_5_method_13_code 3 = .ok (.istore_n 2, 1) := by decide +kernel
theorem d_State_unlikeLetters_4 : decode prog_5_method_13_code 4 = .ok (.iload_n 2, 1) := by decide +kernel
theorem d_State_unlikeLetters_5 : decode prog_5_method_13_code 5 = .ok (.bipush 7, 2) := by decide +kernel
theorem d_State_unlikeLetters_7 : decode prog_5_method_13_code 7 = .ok (.if_icmp .gt 20, 3) := by decide +kernel
theorem d_State_unlikeLetters_10 : decode prog_5_method_13_code 10 = .ok (.aload_n 0, 1) := by decide +kernel
theorem d_State_unlikeLetters_11 : decode prog_5_method_13_code 11 = .ok (.iload_n 2, 1) := by decide +kernel
theorem d_State_unlikeLetters_12 : decode prog_5_method_13_code 12 = .ok (.invokevirtual 50, 3) := by decide +kernel
theorem d_State_unlikeLetters_15 : decode prog_5_method_13_code 15 = .ok (.ifCond .eq 6, 3) := by decide +kernel
theorem d_State_unlikeLetters_18 : decode prog_5_method_13_code 18 = .ok (.iinc 1 1, 3) := by decide +kernel
theorem d_State_unlikeLetters_21 : decode prog_5_method_13_code 21 = .ok (.iinc 2 1, 3) := by decide +kernel
theorem d_State_unlikeLetters_24 : decode prog_5_method_13_code 24 = .ok (.goto (-20), 3) := by decide +kernel
theorem d_State_unlikeLetters_27 : decode prog_5_method_13_code 27 = .ok (.iload_n 1, 1) := by decide +kernel
theorem d_State_unlikeLetters_28 : decode prog_5_method_13_code 28 = .ok (.ireturn, 1) := by decide +kernel
theorem d_State_holds_0 : decode prog_5_method_14_code 0 = .ok (.iconst 0, 1) := by decide +kernel
theorem d_State_holds_1 : decode prog_5_method_14_code 1 = .ok (.istore_n 2, 1) := by decide +kernel
theorem d_State_holds_2 : decode prog_5_method_14_code 2 = .ok (.iload_n 2, 1) := by decide +kernel
theorem d_State_holds_3 : decode prog_5_method_14_code 3 = .ok (.aload_n 0, 1) := by decide +kernel
theorem d_State_holds_4 : decode prog_5_method_14_code 4 = .ok (.getfield 18, 3) := by decide +kernel
theorem d_State_holds_7 : decode prog_5_method_14_code 7 = .ok (.if_icmp .ge 20, 3) := by decide +kernel
theorem d_State_holds_10 : decode prog_5_method_14_code 10 = .ok (.aload_n 0, 1) := by decide +kernel
theorem d_State_holds_11 : decode prog_5_method_14_code 11 = .ok (.iload_n 2, 1) := by decide +kernel
theorem d_State_holds_12 : decode prog_5_method_14_code 12 = .ok (.invokevirtual 33, 3) := by decide +kernel
theorem d_State_holds_15 : decode prog_5_method_14_code 15 = .ok (.iload_n 1, 1) := by decide +kernel
theorem d_State_holds_16 : decode prog_5_method_14_code 16 = .ok (.if_icmp .ne 5, 3) := by decide +kernel
theorem d_State_holds_19 : decode prog_5_method_14_code 19 = .ok (.iconst 1, 1) := by decide +kernel
theorem d_State_holds_20 : decode prog_5_method_14_code 20 = .ok (.ireturn, 1) := by decide +kernel
theorem d_State_holds_21 : decode prog_5_method_14_code 21 = .ok (.iinc 2 1, 3) := by decide +kernel
theorem d_State_holds_24 : decode prog_5_method_14_code 24 = .ok (.goto (-22), 3) := by decide +kernel
theorem d_State_holds_27 : decode prog_5_method_14_code 27 = .ok (.iconst 0, 1) := by decide +kernel
theorem d_State_holds_28 : decode prog_5_method_14_code 28 = .ok (.ireturn, 1) := by decide +kernel
theorem d_State_copyFrom_0 : decode prog_5_method_15_code 0 = .ok (.aload_n 0, 1) := by decide +kernel
theorem d_State_copyFrom_1 : decode prog_5_method_15_code 1 = .ok (.aload_n 1, 1) := by decide +kernel
theorem d_State_copyFrom_2 : decode prog_5_method_15_code 2 = .ok (.invokevirtual 54, 3) := by decide +kernel
theorem d_State_copyFrom_5 : decode prog_5_method_15_code 5 = .ok (.iconst 0, 1) := by decide +kernel
theorem d_State_copyFrom_6 : decode prog_5_method_15_code 6 = .ok (.istore_n 2, 1) := by decide +kernel
theorem d_State_copyFrom_7 : decode prog_5_method_15_code 7 = .ok (.iload_n 2, 1) := by decide +kernel
theorem d_State_copyFrom_8 : decode prog_5_method_15_code 8 = .ok (.iconst 5, 1) := by decide +kernel
theorem d_State_copyFrom_9 : decode prog_5_method_15_code 9 = .ok (.if_icmp .ge 19, 3) := by decide +kernel
theorem d_State_copyFrom_12 : decode prog_5_method_15_code 12 = .ok (.aload_n 0, 1) := by decide +kernel
theorem d_State_copyFrom_13 : decode prog_5_method_15_code 13 = .ok (.iload_n 2, 1) := by decide +kernel
theorem d_State_copyFrom_14 : decode prog_5_method_15_code 14 = .ok (.aload_n 1, 1) := by decide +kernel
theorem d_State_copyFrom_15 : decode prog_5_method_15_code 15 = .ok (.iload_n 2, 1) := by decide +kernel
theorem d_State_copyFrom_16 : decode prog_5_method_15_code 16 = .ok (.invokevirtual 47, 3) := by decide +kernel
theorem d_State_copyFrom_19 : decode prog_5_method_15_code 19 = .ok (.invokevirtual 58, 3) := by decide +kernel
theorem d_State_copyFrom_22 : decode prog_5_method_15_code 22 = .ok (.iinc 2 1, 3) := by decide +kernel
theorem d_State_copyFrom_25 : decode prog_5_method_15_code 25 = .ok (.goto (-18), 3) := by decide +kernel
theorem d_State_copyFrom_28 : decode prog_5_method_15_code 28 = .ok (.return_, 1) := by decide +kernel
theorem d_State_copyRowFrom_0 : decode prog_5_method_16_code 0 = .ok (.aload_n 0, 1) := by decide +kernel
theorem d_State_copyRowFrom_1 : decode prog_5_method_16_code 1 = .ok (.aload_n 1, 1) := by decide +kernel
theorem d_State_copyRowFrom_2 : decode prog_5_method_16_code 2 = .ok (.invokevirtual 62, 3) := by decide +kernel
theorem d_State_copyRowFrom_5 : decode prog_5_method_16_code 5 = .ok (.putfield 18, 3) := by decide +kernel
theorem d_State_copyRowFrom_8 : decode prog_5_method_16_code 8 = .ok (.iconst 0, 1) := by decide +kernel
theorem d_State_copyRowFrom_9 : decode prog_5_method_16_code 9 = .ok (.istore_n 2, 1) := by decide +kernel
theorem d_State_copyRowFrom_10 : decode prog_5_method_16_code 10 = .ok (.iload_n 2, 1) := by decide +kernel
theorem d_State_copyRowFrom_11 : decode prog_5_method_16_code 11 = .ok (.aload_n 0, 1) := by decide +kernel
theorem d_State_copyRowFrom_12 : decode prog_5_method_16_code 12 = .ok (.getfield 18, 3) := by decide +kernel
theorem d_State_copyRowFrom_15 : decode prog_5_method_16_code 15 = .ok (.if_icmp .ge 19, 3) := by decide +kernel
theorem d_State_copyRowFrom_18 : decode prog_5_method_16_code 18 = .ok (.aload_n 0, 1) := by decide +kernel
theorem d_State_copyRowFrom_19 : decode prog_5_method_16_code 19 = .ok (.iload_n 2, 1) := by decide +kernel
theorem d_State_copyRowFrom_20 : decode prog_5_method_16_code 20 = .ok (.aload_n 1, 1) := by decide +kernel
theorem d_State_copyRowFrom_21 : decode prog_5_method_16_code 21 = .ok (.iload_n 2, 1) := by decide +kernel
theorem d_State_copyRowFrom_22 : decode prog_5_method_16_code 22 = .ok (.invokevirtual 33, 3) := by decide +kernel
theorem d_State_copyRowFrom_25 : decode prog_5_method_16_code 25 = .ok (.invokevirtual 65, 3) := by decide +kernel
theorem d_State_copyRowFrom_28 : decode prog_5_method_16_code 28 = .ok (.iinc 2 1, 3) := by decide +kernel
theorem d_State_copyRowFrom_31 : decode prog_5_method_16_code 31 = .ok (.goto (-21), 3) := by decide +kernel
theorem d_State_copyRowFrom_34 : decode prog_5_method_16_code 34 = .ok (.return_, 1) := by decide +kernel
theorem d_Stretch_init_0 : decode prog_6_method_1_code 0 = .ok (.aload_n 0, 1) := by decide +kernel
theorem d_Stretch_init_1 : decode prog_6_method_1_code 1 = .ok (.invokespecial 1, 3) := by decide +kernel
theorem d_Stretch_init_4 : decode prog_6_method_1_code 4 = .ok (.aload_n 0, 1) := by decide +kernel
theorem d_Stretch_init_5 : decode prog_6_method_1_code 5 = .ok (.iconst 0, 1) := by decide +kernel
theorem d_Stretch_init_6 : decode prog_6_method_1_code 6 = .ok (.putfield 7, 3) := by decide +kernel
theorem d_Stretch_init_9 : decode prog_6_method_1_code 9 = .ok (.aload_n 0, 1) := by decide +kernel
theorem d_Stretch_init_10 : decode prog_6_method_1_code 10 = .ok (.iconst 0, 1) := by decide +kernel
theorem d_Stretch_init_11 : decode prog_6_method_1_code 11 = .ok (.putfield 13, 3) := by decide +kernel
theorem d_Stretch_init_14 : decode prog_6_method_1_code 14 = .ok (.aload_n 0, 1) := by decide +kernel
theorem d_Stretch_init_15 : decode prog_6_method_1_code 15 = .ok (.iconst 0, 1) := by decide +kernel
theorem d_Stretch_init_16 : decode prog_6_method_1_code 16 = .ok (.putfield 16, 3) := by decide +kernel
theorem d_Stretch_init_19 : decode prog_6_method_1_code 19 = .ok (.return_, 1) := by decide +kernel
theorem d_Stretch_findLongest_0 : decode prog_6_method_2_code 0 = .ok (.aload_n 0, 1) := by decide +kernel
theorem d_Stretch_findLongest_1 : decode prog_6_method_2_code 1 = .ok (.iconst 0, 1) := by decide +kernel
theorem d_Stretch_findLongest_2 : decode prog_6_method_2_code 2 = .ok (.putfield 7, 3) := by decide +kernel
theorem d_Stretch_findLongest_5 : decode prog_6_method_2_code 5 = .ok (.iconst 1, 1) := by decide +kernel
theorem d_Stretch_findLongest_6 : decode prog_6_method_2_code 6 = .ok (.istore_n 2, 1) := by decide +kernel
theorem d_Stretch_findLongest_7 : decode prog_6_method_2_code 7 = .ok (.iload_n 2, 1) := by decide +kernel
theorem d_Stretch_findLongest_8 : decode prog_6_method_2_code 8 = .ok (.aload_n 0, 1) := by decide +kernel
theorem d_Stretch_findLongest_9 : decode prog_6_method_2_code 9 = .ok (.getfield 7, 3) := by decide +kernel
theorem d_Stretch_findLongest_12 : decode prog_6_method_2_code 12 = .ok (.iadd, 1) := by decide +kernel
theorem d_Stretch_findLongest_13 : decode prog_6_method_2_code 13 = .ok (.aload_n 1, 1) := by decide +kernel
theorem d_Stretch_findLongest_14 : decode prog_6_method_2_code 14 = .ok (.invokevirtual 19, 3) := by decide +kernel
theorem d_Stretch_findLongest_17 : decode prog_6_method_2_code 17 = .ok (.if_icmp .ge 55, 3) := by decide +kernel
theorem d_Stretch_findLongest_20 : decode prog_6_method_2_code 20 = .ok (.iconst 0, 1) := by decide +kernel
theorem d_Stretch_findLongest_21 : decode prog_6_method_2_code 21 = .ok (.istore_n 3, 1) := by decide +kernel
theorem d_Stretch_findLongest_22 : decode prog_6_method_2_code 22 = .ok (.iload_n 3, 1) := by decide +kernel
theorem d_Stretch_findLongest_23 : decode prog_6_method_2_code 23 = .ok (.iload_n 2, 1) := by decide +kernel
theorem d_Stretch_findLongest_24 : decode prog_6_method_2_code 24 = .ok (.if_icmp .ge 42, 3) := by decide +kernel
theorem d_Stretch_findLongest_27 : decode prog_6_method_2_code 27 = .ok (.aload_n 1, 1) := by decide +kernel
theorem d_Stretch_findLongest_28 : decode prog_6_method_2_code 28 = .ok (.iload_n 3, 1) := by decide +kernel
theorem d_Stretch_findLongest_29 : decode prog_6_method_2_code 29 = .ok (.iload_n 2, 1) := by decide +kernel
theorem d_Stretch_findLongest_30 : decode prog_6_method_2_code 30 = .ok (.invokevirtual 25, 3) := by decide +kernel
theorem d_Stretch_findLongest_33 : decode prog_6_method_2_code 33 = .ok (.istore 4, 2) := by decide +kernel
theorem d_Stretch_findLongest_35 : decode prog_6_method_2_code 35 = .ok (.iload 4, 2) := by decide +kernel
theorem d_Stretch_findLongest_37 : decode prog_6_method_2_code 37 = .ok (.aload_n 0, 1) := by decide +kernel
theorem d_Stretch_findLongest_38 : decode prog_6_method_2_code 38 = .ok (.getfield 7, 3) := by decide +kernel
theorem d_Stretch_findLongest_41 : decode prog_6_method_2_code 41 = .ok (.if_icmp .le 19, 3) := by decide +kernel
theorem d_Stretch_findLongest_44 : decode prog_6_method_2_code 44 = .ok (.aload_n 0, 1) := by decide +kernel
theorem d_Stretch_findLongest_45 : decode prog_6_method_2_code 45 = .ok (.iload 4, 2) := by decide +kernel
theorem d_Stretch_findLongest_47 : decode prog_6_method_2_code 47 = .ok (.putfield 7, 3) := by decide +kernel
theorem d_Stretch_findLongest_50 : decode prog_6_method_2_code 50 = .ok (.aload_n 0, 1) := by decide +kernel
theorem d_Stretch_findLongest_51 : decode prog_6_method_2_code 51 = .ok (.iload_n 3, 1) := by decide +kernel
theorem d_Stretch_findLongest_52 : decode prog_6_method_2_code 52 = .ok (.putfield 13, 3) := by decide +kernel
theorem d_Stretch_findLongest_55 : decode prog_6_method_2_code 55 = .ok (.aload_n 0, 1) := by decide +kernel
theorem d_Stretch_findLongest_56 : decode prog_6_method_2_code 56 = .ok (.iload_n 2, 1) := by decide +kernel
theorem d_Stretch_findLongest_57 : decode prog_6_method_2_code 57 = .ok (.putfield 16, 3) := by decide +kernel
theorem d_Stretch_findLongest_60 : decode prog_6_method_2_code 60 = .ok (.iinc 3 1, 3) := by decide +kernel
theorem d_Stretch_findLongest_63 : decode prog_6_method_2_code 63 = .ok (.goto (-41), 3) := by decide +kernel
theorem d_Stretch_findLongest_66 : decode prog_6_method_2_code 66 = .ok (.iinc 2 1, 3) := by decide +kernel
theorem d_Stretch_findLongest_69 : decode prog_6_method_2_code 69 = .ok (.goto (-62), 3) := by decide +kernel
theorem d_Stretch_findLongest_72 : decode prog_6_method_2_code 72 = .ok (.return_, 1) := by decide +kernel
theorem d_Stretch_length_0 : decode prog_6_method_3_code 0 = .ok (.aload_n 0, 1) := by decide +kernel
theorem d_Stretch_length_1 : decode prog_6_method_3_code 1 = .ok (.getfield 7, 3) := by decide +kernel
theorem d_Stretch_length_4 : decode prog_6_method_3_code 4 = .ok (.ireturn, 1) := by decide +kernel
theorem d_Stretch_former_0 : decode prog_6_method_4_code 0 = .ok (.aload_n 0, 1) := by decide +kernel
theorem d_Stretch_former_1 : decode prog_6_method_4_code 1 = .ok (.getfield 13, 3) := by decide +kernel
theorem d_Stretch_former_4 : decode prog_6_method_4_code 4 = .ok (.ireturn, 1) := by decide +kernel
theorem d_Stretch_latter_0 : decode prog_6_method_5_code 0 = .ok (.aload_n 0, 1) := by decide +kernel
theorem d_Stretch_latter_1 : decode prog_6_method_5_code 1 = .ok (.getfield 16, 3) := by decide +kernel
theorem d_Stretch_latter_4 : decode prog_6_method_5_code 4 = .ok (.ireturn, 1) := by decide +kernel
theorem d_Text_init_0 : decode prog_7_method_1_code 0 = .ok (.aload_n 0, 1) := by decide +kernel
theorem d_Text_init_1 : decode prog_7_method_1_code 1 = .ok (.invokespecial 3, 3) := by decide +kernel
theorem d_Text_init_4 : decode prog_7_method_1_code 4 = .ok (.aload_n 0, 1) := by decide +kernel
theorem d_Text_init_5 : decode prog_7_method_1_code 5 = .ok (.bipush 120, 2) := by decide +kernel
theorem d_Text_init_7 : decode prog_7_method_1_code 7 = .ok (.newarray .int, 2) := by decide +kernel
theorem d_Text_init_9 : decode prog_7_method_1_code 9 = .ok (.putfield 9, 3) := by decide +kernel
theorem d_Text_init_12 : decode prog_7_method_1_code 12 = .ok (.aload_n 0, 1) := by decide +kernel
theorem d_Text_init_13 : decode prog_7_method_1_code 13 = .ok (.iconst 0, 1) := by decide +kernel
theorem d_Text_init_14 : decode prog_7_method_1_code 14 = .ok (.putfield 15, 3) := by decide +kernel
theorem d_Text_init_17 : decode prog_7_method_1_code 17 = .ok (.return_, 1) := by decide +kernel
theorem d_Text_size_0 : decode prog_7_method_2_code 0 = .ok (.aload_n 0, 1) := by decide +kernel
theorem d_Text_size_1 : decode prog_7_method_2_code 1 = .ok (.getfield 15, 3) := by decide +kernel
theorem d_Text_size_4 : decode prog_7_method_2_code 4 = .ok (.ireturn, 1) := by decide +kernel
theorem d_Text_characterAt_0 : decode prog_7_method_3_code 0 = .ok (.iload_n 1, 1) := by decide +kernel
theorem d_Text_characterAt_1 : decode prog_7_method_3_code 1 = .ok (.aload_n 0, 1) := by decide +kernel
theorem d_Text_characterAt_2 : decode prog_7_method_3_code 2 = .ok (.getfield 15, 3) := by decide +kernel
theorem d_Text_characterAt_5 : decode prog_7_method_3_code 5 = .ok (.if_icmp .ge 14, 3) := by decide +kernel
theorem d_Text_characterAt_8 : decode prog_7_method_3_code 8 = .ok (.aload_n 0, 1) := by decide +kernel
theorem d_Text_characterAt_9 : decode prog_7_method_3_code 9 = .ok (.getfield 9, 3) := by decide +kernel
theorem d_Text_characterAt_12 : decode prog_7_method_3_code 12 = .ok (.iload_n 1, 1) := by decide +kernel
theorem d_Text_characterAt_13 : decode prog_7_method_3_code 13 = .ok (.invokestatic 19, 3) := by decide +kernel
theorem d_Text_characterAt_16 : decode prog_7_method_3_code 16 = .ok (.goto 4, 3) := by decide +kernel
theorem d_Text_characterAt_19 : decode prog_7_method_3_code 19 = .ok (.iconst (-1), 1) := by decide +kernel
theorem d_Text_characterAt_20 : decode prog_7_method_3_code 20 = .ok (.ireturn, 1) := by decide +kernel
theorem d_Text_empty_0 : decode prog_7_method_4_code 0 = .ok (.aload_n 0, 1) := by decide +kernel
theorem d_Text_empty_1 : decode prog_7_method_4_code 1 = .ok (.iconst 0, 1) := by decide +kernel
theorem d_Text_empty_2 : decode prog_7_method_4_code 2 = .ok (.putfield 15, 3) := by decide +kernel
theorem d_Text_empty_5 : decode prog_7_method_4_code 5 = .ok (.return_, 1) := by decide +kernel
theorem d_Text_append_0 : decode prog_7_method_5_code 0 = .ok (.aload_n 0, 1) := by decide +kernel
theorem d_Text_append_1 : decode prog_7_method_5_code 1 = .ok (.getfield 15, 3) := by decide +kernel
theorem d_Text_append_4 : decode prog_7_method_5_code 4 = .ok (.bipush 120, 2) := by decide +kernel
theorem d_Text_append_6 : decode prog_7_method_5_code 6 = .ok (.if_icmp .ge 25, 3) := by decide +kernel
theorem d_Text_append_9 : decode prog_7_method_5_code 9 = .ok (.aload_n 0, 1) := by decide +kernel
theorem d_Text_append_10 : decode prog_7_method_5_code 10 = .ok (.getfield 9, 3) := by decide +kernel
theorem d_Text_append_13 : decode prog_7_method_5_code 13 = .ok (.aload_n 0, 1) := by decide +kernel
theorem d_Text_append_14 : decode prog_7_method_5_code 14 = .ok (.getfield 15, 3) := by decide +kernel
theorem d_Text_append_17 : decode prog_7_method_5_code 17 = .ok (.iload_n 1, 1) := by decide +kernel
theorem d_Text_append_18 : decode prog_7_method_5_code 18 = .ok (.invokestatic 23, 3) := by decide +kernel
theorem d_Text_append_21 : decode prog_7_method_5_code 21 = .ok (.aload_n 0, 1) := by decide +kernel
theorem d_Text_append_22 : decode prog_7_method_5_code 22 = .ok (.dup, 1) := by decide +kernel
theorem d_Text_append_23 : decode prog_7_method_5_code 23 = .ok (.getfield 15, 3) := by decide +kernel
theorem d_Text_append_26 : decode prog_7_method_5_code 26 = .ok (.iconst 1, 1) := by decide +kernel
theorem d_Text_append_27 : decode prog_7_method_5_code 27 = .ok (.iadd, 1) := by decide +kernel
theorem d_Text_append_28 : decode prog_7_method_5_code 28 = .ok (.putfield 15, 3) := by decide +kernel
theorem d_Text_append_31 : decode prog_7_method_5_code 31 = .ok (.return_, 1) := by decide +kernel
theorem d_Text_appendCopy_0 : decode prog_7_method_6_code 0 = .ok (.aload_n 0, 1) := by decide +kernel
theorem d_Text_appendCopy_1 : decode prog_7_method_6_code 1 = .ok (.bipush 40, 2) := by decide +kernel
theorem d_Text_appendCopy_3 : decode prog_7_method_6_code 3 = .ok (.invokevirtual 27, 3) := by decide +kernel
theorem d_Text_appendCopy_6 : decode prog_7_method_6_code 6 = .ok (.aload_n 0, 1) := by decide +kernel
theorem d_Text_appendCopy_7 : decode prog_7_method_6_code 7 = .ok (.iload_n 1, 1) := by decide +kernel
theorem d_Text_appendCopy_8 : decode prog_7_method_6_code 8 = .ok (.invokevirtual 31, 3) := by decide +kernel
theorem d_Text_appendCopy_11 : decode prog_7_method_6_code 11 = .ok (.aload_n 0, 1) := by decide +kernel
theorem d_Text_appendCopy_12 : decode prog_7_method_6_code 12 = .ok (.bipush 44, 2) := by decide +kernel
theorem d_Text_appendCopy_14 : decode prog_7_method_6_code 14 = .ok (.invokevirtual 27, 3) := by decide +kernel
theorem d_Text_appendCopy_17 : decode prog_7_method_6_code 17 = .ok (.aload_n 0, 1) := by decide +kernel
theorem d_Text_appendCopy_18 : decode prog_7_method_6_code 18 = .ok (.iload_n 2, 1) := by decide +kernel
theorem d_Text_appendCopy_19 : decode prog_7_method_6_code 19 = .ok (.invokevirtual 31, 3) := by decide +kernel
theorem d_Text_appendCopy_22 : decode prog_7_method_6_code 22 = .ok (.aload_n 0, 1) := by decide +kernel
theorem d_Text_appendCopy_23 : decode prog_7_method_6_code 23 = .ok (.bipush 41, 2) := by decide +kernel
theorem d_Text_appendCopy_25 : decode prog_7_method_6_code 25 = .ok (.invokevirtual 27, 3) := by decide +kernel
theorem d_Text_appendCopy_28 : decode prog_7_method_6_code 28 = .ok (.return_, 1) := by decide +kernel
theorem d_Text_appendNumber_0 : decode prog_7_method_7_code 0 = .ok (.iload_n 1, 1) := by decide +kernel
theorem d_Text_appendNumber_1 : decode prog_7_method_7_code 1 = .ok (.bipush 10, 2) := by decide +kernel
theorem d_Text_appendNumber_3 : decode prog_7_method_7_code 3 = .ok (.if_icmp .lt 14, 3) := by decide +kernel
theorem d_Text_appendNumber_6 : decode prog_7_method_7_code 6 = .ok (.aload_n 0, 1) := by decide +kernel
theorem d_Text_appendNumber_7 : decode prog_7_method_7_code 7 = .ok (.bipush 48, 2) := by decide +kernel
theorem d_Text_appendNumber_9 : decode prog_7_method_7_code 9 = .ok (.iload_n 1, 1) := by decide +kernel
theorem d_Text_appendNumber_10 : decode prog_7_method_7_code 10 = .ok (.bipush 10, 2) := by decide +kernel
theorem d_Text_appendNumber_12 : decode prog_7_method_7_code 12 = .ok (.idiv, 1) := by decide +kernel
theorem d_Text_appendNumber_13 : decode prog_7_method_7_code 13 = .ok (.iadd, 1) := by decide +kernel
theorem d_Text_appendNumber_14 : decode prog_7_method_7_code 14 = .ok (.invokevirtual 27, 3) := by decide +kernel
theorem d_Text_appendNumber_17 : decode prog_7_method_7_code 17 = .ok (.aload_n 0, 1) := by decide +kernel
theorem d_Text_appendNumber_18 : decode prog_7_method_7_code 18 = .ok (.bipush 48, 2) := by decide +kernel
theorem d_Text_appendNumber_20 : decode prog_7_method_7_code 20 = .ok (.iload_n 1, 1) := by decide +kernel
theorem d_Text_appendNumber_21 : decode prog_7_method_7_code 21 = .ok (.bipush 10, 2) := by decide +kernel
theorem d_Text_appendNumber_23 : decode prog_7_method_7_code 23 = .ok (.irem, 1) := by decide +kernel
theorem d_Text_appendNumber_24 : decode prog_7_method_7_code 24 = .ok (.iadd, 1) := by decide +kernel
theorem d_Text_appendNumber_25 : decode prog_7_method_7_code 25 = .ok (.invokevirtual 27, 3) := by decide +kernel
theorem d_Text_appendNumber_28 : decode prog_7_method_7_code 28 = .ok (.return_, 1) := by decide +kernel
theorem d_Text_charactersOfCopy_0 : decode prog_7_method_8_code 0 = .ok (.iconst 3, 1) := by decide +kernel
theorem d_Text_charactersOfCopy_1 : decode prog_7_method_8_code 1 = .ok (.istore_n 2, 1) := by decide +kernel
theorem d_Text_charactersOfCopy_2 : decode prog_7_method_8_code 2 = .ok (.iload_n 2, 1) := by decide +kernel
theorem d_Text_charactersOfCopy_3 : decode prog_7_method_8_code 3 = .ok (.iload_n 0, 1) := by decide +kernel
theorem d_Text_charactersOfCopy_4 : decode prog_7_method_8_code 4 = .ok (.invokestatic 34, 3) := by decide +kernel
theorem d_Text_charactersOfCopy_7 : decode prog_7_method_8_code 7 = .ok (.iadd, 1) := by decide +kernel
theorem d_Text_charactersOfCopy_8 : decode prog_7_method_8_code 8 = .ok (.iload_n 1, 1) := by decide +kernel
theorem d_Text_charactersOfCopy_9 : decode prog_7_method_8_code 9 = .ok (.invokestatic 34, 3) := by decide +kernel
theorem d_Text_charactersOfCopy_12 : decode prog_7_method_8_code 12 = .ok (.iadd, 1) := by decide +kernel
theorem d_Text_charactersOfCopy_13 : decode prog_7_method_8_code 13 = .ok (.ireturn, 1) := by decide +kernel
theorem d_Text_digitsOf_0 : decode prog_7_method_9_code 0 = .ok (.iload_n 0, 1) := by decide +kernel
theorem d_Text_digitsOf_1 : decode prog_7_method_9_code 1 = .ok (.bipush 10, 2) := by decide +kernel
theorem d_Text_digitsOf_3 : decode prog_7_method_9_code 3 = .ok (.if_icmp .lt 7, 3) := by decide +kernel
theorem d_Text_digitsOf_6 : decode prog_7_method_9_code 6 = .ok (.iconst 2, 1) := by decide +kernel
theorem d_Text_digitsOf_7 : decode prog_7_method_9_code 7 = .ok (.goto 4, 3) := by decide +kernel
theorem d_Text_digitsOf_10 : decode prog_7_method_9_code 10 = .ok (.iconst 1, 1) := by decide +kernel
theorem d_Text_digitsOf_11 : decode prog_7_method_9_code 11 = .ok (.ireturn, 1) := by decide +kernel
theorem d_Reader_init_0 : decode prog_8_method_1_code 0 = .ok (.aload_n 0, 1) := by decide +kernel
theorem d_Reader_init_1 : decode prog_8_method_1_code 1 = .ok (.invokespecial 3, 3) := by decide +kernel
theorem d_Reader_init_4 : decode prog_8_method_1_code 4 = .ok (.aload_n 0, 1) := by decide +kernel
theorem d_Reader_init_5 : decode prog_8_method_1_code 5 = .ok (.new 9, 3) := by decide +kernel
theorem d_Reader_init_8 : decode prog_8_method_1_code 8 = .ok (.dup, 1) := by decide +kernel
theorem d_Reader_init_9 : decode prog_8_method_1_code 9 = .ok (.invokespecial 11, 3) := by decide +kernel
theorem d_Reader_init_12 : decode prog_8_method_1_code 12 = .ok (.putfield 12, 3) := by decide +kernel
theorem d_Reader_init_15 : decode prog_8_method_1_code 15 = .ok (.aload_n 0, 1) := by decide +kernel
theorem d_Reader_init_16 : decode prog_8_method_1_code 16 = .ok (.iconst 0, 1) := by decide +kernel
theorem d_Reader_init_17 : decode prog_8_method_1_code 17 = .ok (.putfield 18, 3) := by decide +kernel
theorem d_Reader_init_20 : decode prog_8_method_1_code 20 = .ok (.aload_n 0, 1) := by decide +kernel
theorem d_Reader_init_21 : decode prog_8_method_1_code 21 = .ok (.iconst 0, 1) := by decide +kernel
theorem d_Reader_init_22 : decode prog_8_method_1_code 22 = .ok (.putfield 22, 3) := by decide +kernel
theorem d_Reader_init_25 : decode prog_8_method_1_code 25 = .ok (.aload_n 0, 1) := by decide +kernel
theorem d_Reader_init_26 : decode prog_8_method_1_code 26 = .ok (.iconst 0, 1) := by decide +kernel
theorem d_Reader_init_27 : decode prog_8_method_1_code 27 = .ok (.putfield 25, 3) := by decide +kernel
theorem d_Reader_init_30 : decode prog_8_method_1_code 30 = .ok (.aload_n 0, 1) := by decide +kernel
theorem d_Reader_init_31 : decode prog_8_method_1_code 31 = .ok (.aload_n 1, 1) := by decide +kernel
theorem d_Reader_init_32 : decode prog_8_method_1_code 32 = .ok (.putfield 28, 3) := by decide +kernel
theorem d_Reader_init_35 : decode prog_8_method_1_code 35 = .ok (.aload_n 0, 1) := by decide +kernel
theorem d_Reader_init_36 : decode prog_8_method_1_code 36 = .ok (.aload_n 2, 1) := by decide +kernel
theorem d_Reader_init_37 : decode prog_8_method_1_code 37 = .ok (.putfield 32, 3) := by decide +kernel
theorem d_Reader_init_40 : decode prog_8_method_1_code 40 = .ok (.return_, 1) := by decide +kernel
theorem d_Reader_readThrough_0 : decode prog_8_method_2_code 0 = .ok (.aload_n 0, 1) := by decide +kernel
theorem d_Reader_readThrough_1 : decode prog_8_method_2_code 1 = .ok (.getfield 12, 3) := by decide +kernel
theorem d_Reader_readThrough_4 : decode prog_8_method_2_code 4 = .ok (.aload_n 0, 1) := by decide +kernel
theorem d_Reader_readThrough_5 : decode prog_8_method_2_code 5 = .ok (.getfield 12, 3) := by decide +kernel
theorem d_Reader_readThrough_8 : decode prog_8_method_2_code 8 = .ok (.invokevirtual 35, 3) := by decide +kernel
theorem d_Reader_readThrough_11 : decode prog_8_method_2_code 11 = .ok (.invokevirtual 39, 3) := by decide +kernel
theorem d_Reader_readThrough_14 : decode prog_8_method_2_code 14 = .ok (.aload_n 0, 1) := by decide +kernel
theorem d_Reader_readThrough_15 : decode prog_8_method_2_code 15 = .ok (.iconst 0, 1) := by decide +kernel
theorem d_Reader_readThrough_16 : decode prog_8_method_2_code 16 = .ok (.putfield 18, 3) := by decide +kernel
theorem d_Reader_readThrough_19 : decode prog_8_method_2_code 19 = .ok (.aload_n 0, 1) := by decide +kernel
theorem d_Reader_readThrough_20 : decode prog_8_method_2_code 20 = .ok (.iconst 0, 1) := by decide +kernel
theorem d_Reader_readThrough_21 : decode prog_8_method_2_code 21 = .ok (.putfield 25, 3) := by decide +kernel
theorem d_Reader_readThrough_24 : decode prog_8_method_2_code 24 = .ok (.iconst 0, 1) := by decide +kernel
theorem d_Reader_readThrough_25 : decode prog_8_method_2_code 25 = .ok (.istore_n 1, 1) := by decide +kernel
theorem d_Reader_readThrough_26 : decode prog_8_method_2_code 26 = .ok (.iload_n 1, 1) := by decide +kernel
theorem d_Reader_readThrough_27 : decode prog_8_method_2_code 27 = .ok (.bipush 120, 2) := by decide +kernel
theorem d_Reader_readThrough_29 : decode prog_8_method_2_code 29 = .ok (.if_icmp .ge 63, 3) := by decide +kernel
theorem d_Reader_readThrough_32 : decode prog_8_method_2_code 32 = .ok (.aload_n 0, 1) := by decide +kernel
theorem d_Reader_readThrough_33 : decode prog_8_method_2_code 33 = .ok (.getfield 18, 3) := by decide +kernel
theorem d_Reader_readThrough_36 : decode prog_8_method_2_code 36 = .ok (.aload_n 0, 1) := by decide +kernel
theorem d_Reader_readThrough_37 : decode prog_8_method_2_code 37 = .ok (.getfield 28, 3) := by decide +kernel
theorem d_Reader_readThrough_40 : decode prog_8_method_2_code 40 = .ok (.invokevirtual 43, 3) := by decide +kernel
theorem d_Reader_readThrough_43 : decode prog_8_method_2_code 43 = .ok (.if_icmp .ge 49, 3) := by decide +kernel
theorem d_Reader_readThrough_46 : decode prog_8_method_2_code 46 = .ok (.aload_n 0, 1) := by decide +kernel
theorem d_Reader_readThrough_47 : decode prog_8_method_2_code 47 = .ok (.invokevirtual 46, 3) := by decide +kernel
theorem d_Reader_readThrough_50 : decode prog_8_method_2_code 50 = .ok (.ifCond .ne 42, 3) := by decide +kernel
theorem d_Reader_readThrough_53 : decode prog_8_method_2_code 53 = .ok (.aload_n 0, 1) := by decide +kernel
theorem d_Reader_readThrough_54 : decode prog_8_method_2_code 54 = .ok (.getfield 28, 3) := by decide +kernel
theorem d_Reader_readThrough_57 : decode prog_8_method_2_code 57 = .ok (.aload_n 0, 1) := by decide +kernel
theorem d_Reader_readThrough_58 : decode prog_8_method_2_code 58 = .ok (.getfield 18, 3) := by decide +kernel
theorem d_Reader_readThrough_61 : decode prog_8_method_2_code 61 = .ok (.invokevirtual 50, 3) := by decide +kernel
theorem d_Reader_readThrough_64 : decode prog_8_method_2_code 64 = .ok (.istore_n 2, 1) := by decide +kernel
theorem d_Reader_readThrough_65 : decode prog_8_method_2_code 65 = .ok (.iload_n 2, 1) := by decide +kernel
theorem d_Reader_readThrough_66 : decode prog_8_method_2_code 66 = .ok (.bipush 40, 2) := by decide +kernel
theorem d_Reader_readThrough_68 : decode prog_8_method_2_code 68 = .ok (.if_icmp .ne 10, 3) := by decide +kernel
theorem d_Reader_readThrough_71 : decode prog_8_method_2_code 71 = .ok (.aload_n 0, 1) := by decide +kernel
theorem d_Reader_readThrough_72 : decode prog_8_method_2_code 72 = .ok (.invokevirtual 54, 3) := by decide +kernel
theorem d_Reader_readThrough_75 : decode prog_8_method_2_code 75 = .ok (.goto 11, 3) := by decide +kernel
theorem d_Reader_readThrough_78 : decode prog_8_method_2_code 78 = .ok (.aload_n 0, 1) := by decide +kernel
theorem d_Reader_readThrough_79 : decode prog_8_method_2_code 79 = .ok (.iload_n 2, 1) := by decide +kernel
theorem d_Reader_readThrough_80 : decode prog_8_method_2_code 80 = .ok (.bipush 97, 2) := by decide +kernel
theorem d_Reader_readThrough_82 : decode prog_8_method_2_code 82 = .ok (.isub, 1) := by decide +kernel
theorem d_Reader_readThrough_83 : decode prog_8_method_2_code 83 = .ok (.invokevirtual 57, 3) := by decide +kernel
theorem d_Reader_readThrough_86 : decode prog_8_method_2_code 86 = .ok (.iinc 1 1, 3) := by decide +kernel
theorem d_Reader_readThrough_89 : decode prog_8_method_2_code 89 = .ok (.goto (-63), 3) := by decide +kernel
theorem d_Reader_readThrough_92 : decode prog_8_method_2_code 92 = .ok (.return_, 1) := by decide +kernel
theorem d_Reader_hasFault_0 : decode prog_8_method_3_code 0 = .ok (.aload_n 0, 1) := by decide +kernel
theorem d_Reader_hasFault_1 : decode prog_8_method_3_code 1 = .ok (.getfield 25, 3) := by decide +kernel
theorem d_Reader_hasFault_4 : decode prog_8_method_3_code 4 = .ok (.ifCond .eq 7, 3) := by decide +kernel
theorem d_Reader_hasFault_7 : decode prog_8_method_3_code 7 = .ok (.iconst 1, 1) := by decide +kernel
theorem d_Reader_hasFault_8 : decode prog_8_method_3_code 8 = .ok (.goto 4, 3) := by decide +kernel
theorem d_Reader_hasFault_11 : decode prog_8_method_3_code 11 = .ok (.iconst 0, 1) := by decide +kernel
theorem d_Reader_hasFault_12 : decode prog_8_method_3_code 12 = .ok (.ireturn, 1) := by decide +kernel
theorem d_Reader_faultPlace_0 : decode prog_8_method_4_code 0 = .ok (.aload_n 0, 1) := by decide +kernel
theorem d_Reader_faultPlace_1 : decode prog_8_method_4_code 1 = .ok (.getfield 22, 3) := by decide +kernel
theorem d_Reader_faultPlace_4 : decode prog_8_method_4_code 4 = .ok (.ireturn, 1) := by decide +kernel
theorem d_Reader_faultReason_0 : decode prog_8_method_5_code 0 = .ok (.aload_n 0, 1) := by decide +kernel
theorem d_Reader_faultReason_1 : decode prog_8_method_5_code 1 = .ok (.getfield 25, 3) := by decide +kernel
theorem d_Reader_faultReason_4 : decode prog_8_method_5_code 4 = .ok (.ireturn, 1) := by decide +kernel
theorem d_Reader_told_0 : decode prog_8_method_6_code 0 = .ok (.aload_n 0, 1) := by decide +kernel
theorem d_Reader_told_1 : decode prog_8_method_6_code 1 = .ok (.getfield 12, 3) := by decide +kernel
theorem d_Reader_told_4 : decode prog_8_method_6_code 4 = .ok (.areturn, 1) := by decide +kernel
theorem d_Reader_takeLetter_0 : decode prog_8_method_7_code 0 = .ok (.iload_n 1, 1) := by decide +kernel
theorem d_Reader_takeLetter_1 : decode prog_8_method_7_code 1 = .ok (.invokestatic 60, 3) := by decide +kernel
theorem d_Reader_takeLetter_4 : decode prog_8_method_7_code 4 = .ok (.ifCond .ne 15, 3) := by decide +kernel
theorem d_Reader_takeLetter_7 : decode prog_8_method_7_code 7 = .ok (.aload_n 0, 1) := by decide +kernel
theorem d_Reader_takeLetter_8 : decode prog_8_method_7_code 8 = .ok (.aload_n 0, 1) := by decide +kernel
theorem d_Reader_takeLetter_9 : decode prog_8_method_7_code 9 = .ok (.getfield 18, 3) := by decide +kernel
theorem d_Reader_takeLetter_12 : decode prog_8_method_7_code 12 = .ok (.iconst 1, 1) := by decide +kernel
theorem d_Reader_takeLetter_13 : decode prog_8_method_7_code 13 = .ok (.invokevirtual 64, 3) := by decide +kernel
theorem d_Reader_takeLetter_16 : decode prog_8_method_7_code 16 = .ok (.goto 45, 3) := by decide +kernel
theorem d_Reader_takeLetter_19 : decode prog_8_method_7_code 19 = .ok (.aload_n 0, 1) := by decide +kernel
theorem d_Reader_takeLetter_20 : decode prog_8_method_7_code 20 = .ok (.getfield 12, 3) := by decide +kernel
theorem d_Reader_takeLetter_23 : decode prog_8_method_7_code 23 = .ok (.invokevirtual 35, 3) := by decide +kernel
theorem d_Reader_takeLetter_26 : decode prog_8_method_7_code 26 = .ok (.bipush 60, 2) := by decide +kernel
theorem d_Reader_takeLetter_28 : decode prog_8_method_7_code 28 = .ok (.if_icmp .lt 15, 3) := by decide +kernel
theorem d_Reader_takeLetter_31 : decode prog_8_method_7_code 31 = .ok (.aload_n 0, 1) := by decide +kernel
theorem d_Reader_takeLetter_32 : decode prog_8_method_7_code 32 = .ok (.aload_n 0, 1) := by decide +kernel
theorem d_Reader_takeLetter_33 : decode prog_8_method_7_code 33 = .ok (.getfield 18, 3) := by decide +kernel
theorem d_Reader_takeLetter_36 : decode prog_8_method_7_code 36 = .ok (.iconst 4, 1) := by decide +kernel
theorem d_Reader_takeLetter_37 : decode prog_8_method_7_code 37 = .ok (.invokevirtual 64, 3) := by decide +kernel
theorem d_Reader_takeLetter_40 : decode prog_8_method_7_code 40 = .ok (.goto 21, 3) := by decide +kernel
theorem d_Reader_takeLetter_43 : decode prog_8_method_7_code 43 = .ok (.aload_n 0, 1) := by decide +kernel
theorem d_Reader_takeLetter_44 : decode prog_8_method_7_code 44 = .ok (.getfield 12, 3) := by decide +kernel
theorem d_Reader_takeLetter_47 : decode prog_8_method_7_code 47 = .ok (.iload_n 1, 1) := by decide +kernel
theorem d_Reader_takeLetter_48 : decode prog_8_method_7_code 48 = .ok (.invokevirtual 68, 3) := by decide +kernel
theorem d_Reader_takeLetter_51 : decode prog_8_method_7_code 51 = .ok (.aload_n 0, 1) := by decide +kernel
theorem d_Reader_takeLetter_52 : decode prog_8_method_7_code 52 = .ok (.dup, 1) := by decide +kernel
theorem d_Reader_takeLetter_53 : decode prog_8_method_7_code 53 = .ok (.getfield 18, 3) := by decide +kernel
theorem d_Reader_takeLetter_56 : decode prog_8_method_7_code 56 = .ok (.iconst 1, 1) := by decide +kernel
theorem d_Reader_takeLetter_57 : decode prog_8_method_7_code 57 = .ok (.iadd, 1) := by decide +kernel
theorem d_Reader_takeLetter_58 : decode prog_8_method_7_code 58 = .ok (.putfield 18, 3) := by decide +kernel
theorem d_Reader_takeLetter_61 : decode prog_8_method_7_code 61 = .ok (.return_, 1) := by decide +kernel
theorem d_Reader_takeCopy_0 : decode prog_8_method_8_code 0 = .ok (.aload_n 0, 1) := by decide +kernel
theorem d_Reader_takeCopy_1 : decode prog_8_method_8_code 1 = .ok (.getfield 18, 3) := by decide +kernel
theorem d_Reader_takeCopy_4 : decode prog_8_method_8_code 4 = .ok (.istore_n 1, 1) := by decide +kernel
theorem d_Reader_takeCopy_5 : decode prog_8_method_8_code 5 = .ok (.aload_n 0, 1) := by decide +kernel
theorem d_Reader_takeCopy_6 : decode prog_8_method_8_code 6 = .ok (.dup, 1) := by decide +kernel
theorem d_Reader_takeCopy_7 : decode prog_8_method_8_code 7 = .ok (.getfield 18, 3) := by decide +kernel
theorem d_Reader_takeCopy_10 : decode prog_8_method_8_code 10 = .ok (.iconst 1, 1) := by decide +kernel
theorem d_Reader_takeCopy_11 : decode prog_8_method_8_code 11 = .ok (.iadd, 1) := by decide +kernel
theorem d_Reader_takeCopy_12 : decode prog_8_method_8_code 12 = .ok (.putfield 18, 3) := by decide +kernel
theorem d_Reader_takeCopy_15 : decode prog_8_method_8_code 15 = .ok (.aload_n 0, 1) := by decide +kernel
theorem d_Reader_takeCopy_16 : decode prog_8_method_8_code 16 = .ok (.invokevirtual 71, 3) := by decide +kernel
theorem d_Reader_takeCopy_19 : decode prog_8_method_8_code 19 = .ok (.istore_n 2, 1) := by decide +kernel
theorem d_Reader_takeCopy_20 : decode prog_8_method_8_code 20 = .ok (.aload_n 0, 1) := by decide +kernel
theorem d_Reader_takeCopy_21 : decode prog_8_method_8_code 21 = .ok (.bipush 44, 2) := by decide +kernel
theorem d_Reader_takeCopy_23 : decode prog_8_method_8_code 23 = .ok (.invokevirtual 74, 3) := by decide +kernel
theorem d_Reader_takeCopy_26 : decode prog_8_method_8_code 26 = .ok (.aload_n 0, 1) := by decide +kernel
theorem d_Reader_takeCopy_27 : decode prog_8_method_8_code 27 = .ok (.invokevirtual 71, 3) := by decide +kernel
theorem d_Reader_takeCopy_30 : decode prog_8_method_8_code 30 = .ok (.istore_n 3, 1) := by decide +kernel
theorem d_Reader_takeCopy_31 : decode prog_8_method_8_code 31 = .ok (.aload_n 0, 1) := by decide +kernel
theorem d_Reader_takeCopy_32 : decode prog_8_method_8_code 32 = .ok (.bipush 41, 2) := by decide +kernel
theorem d_Reader_takeCopy_34 : decode prog_8_method_8_code 34 = .ok (.invokevirtual 74, 3) := by decide +kernel
theorem d_Reader_takeCopy_37 : decode prog_8_method_8_code 37 = .ok (.aload_n 0, 1) := by decide +kernel
theorem d_Reader_takeCopy_38 : decode prog_8_method_8_code 38 = .ok (.invokevirtual 46, 3) := by decide +kernel
theorem d_Reader_takeCopy_41 : decode prog_8_method_8_code 41 = .ok (.ifCond .eq 4, 3) := by decide +kernel
theorem d_Reader_takeCopy_44 : decode prog_8_method_8_code 44 = .ok (.return_, 1) := by decide +kernel
theorem d_Reader_takeCopy_45 : decode prog_8_method_8_code 45 = .ok (.aload_n 0, 1) := by decide +kernel
theorem d_Reader_takeCopy_46 : decode prog_8_method_8_code 46 = .ok (.iload_n 2, 1) := by decide +kernel
theorem d_Reader_takeCopy_47 : decode prog_8_method_8_code 47 = .ok (.iload_n 3, 1) := by decide +kernel
theorem d_Reader_takeCopy_48 : decode prog_8_method_8_code 48 = .ok (.invokevirtual 77, 3) := by decide +kernel
theorem d_Reader_takeCopy_51 : decode prog_8_method_8_code 51 = .ok (.istore 4, 2) := by decide +kernel
theorem d_Reader_takeCopy_53 : decode prog_8_method_8_code 53 = .ok (.iload 4, 2) := by decide +kernel
theorem d_Reader_takeCopy_55 : decode prog_8_method_8_code 55 = .ok (.ifCond .eq 13, 3) := by decide +kernel
theorem d_Reader_takeCopy_58 : decode prog_8_method_8_code 58 = .ok (.aload_n 0, 1) := by decide +kernel
theorem d_Reader_takeCopy_59 : decode prog_8_method_8_code 59 = .ok (.iload_n 1, 1) := by decide +kernel
theorem d_Reader_takeCopy_60 : decode prog_8_method_8_code 60 = .ok (.iload 4, 2) := by decide +kernel
theorem d_Reader_takeCopy_62 : decode prog_8_method_8_code 62 = .ok (.invokevirtual 64, 3) := by decide +kernel
theorem d_Reader_takeCopy_65 : decode prog_8_method_8_code 65 = .ok (.goto 12, 3) := by decide +kernel
theorem d_Reader_takeCopy_68 : decode prog_8_method_8_code 68 = .ok (.aload_n 0, 1) := by decide +kernel
theorem d_Reader_takeCopy_69 : decode prog_8_method_8_code 69 = .ok (.getfield 12, 3) := by decide +kernel
theorem d_Reader_takeCopy_72 : decode prog_8_method_8_code 72 = .ok (.iload_n 2, 1) := by decide +kernel
theorem d_Reader_takeCopy_73 : decode prog_8_method_8_code 73 = .ok (.iload_n 3, 1) := by decide +kernel
theorem d_Reader_takeCopy_74 : decode prog_8_method_8_code 74 = .ok (.invokevirtual 81, 3) := by decide +kernel
theorem d_Reader_takeCopy_77 : decode prog_8_method_8_code 77 = .ok (.return_, 1) := by decide +kernel
theorem d_Reader_reasonAgainst_0 : decode prog_8_method_9_code 0 = .ok (.iload_n 1, 1) := by decide +kernel
theorem d_Reader_reasonAgainst_1 : decode prog_8_method_9_code 1 = .ok (.iconst 1, 1) := by decide +kernel
theorem d_Reader_reasonAgainst_2 : decode prog_8_method_9_code 2 = .ok (.aload_n 0, 1) := by decide +kernel
theorem d_Reader_reasonAgainst_3 : decode prog_8_method_9_code 3 = .ok (.getfield 32, 3) := by decide +kernel
theorem d_Reader_reasonAgainst_6 : decode prog_8_method_9_code 6 = .ok (.iconst 0, 1) := by decide +kernel
theorem d_Reader_reasonAgainst_7 : decode prog_8_method_9_code 7 = .ok (.invokevirtual 84, 3) := by decide +kernel
theorem d_Reader_reasonAgainst_10 : decode prog_8_method_9_code 10 = .ok (.aload_n 0, 1) := by decide +kernel
theorem d_Reader_reasonAgainst_11 : decode prog_8_method_9_code 11 = .ok (.getfield 12, 3) := by decide +kernel
theorem d_Reader_reasonAgainst_14 : decode prog_8_method_9_code 14 = .ok (.invokevirtual 35, 3) := by decide +kernel
theorem d_Reader_reasonAgainst_17 : decode prog_8_method_9_code 17 = .ok (.invokestatic 87, 3) := by decide +kernel
theorem d_Reader_reasonAgainst_20 : decode prog_8_method_9_code 20 = .ok (.invokestatic 92, 3) := by decide +kernel
theorem d_Reader_reasonAgainst_23 : decode prog_8_method_9_code 23 = .ok (.ifCond .ne 5, 3) := by decide +kernel
theorem d_Reader_reasonAgainst_26 : decode prog_8_method_9_code 26 = .ok (.iconst 2, 1) := by decide +kernel
theorem d_Reader_reasonAgainst_27 : decode prog_8_method_9_code 27 = .ok (.ireturn, 1) := by decide +kernel
theorem d_Reader_reasonAgainst_28 : decode prog_8_method_9_code 28 = .ok (.iload_n 2, 1) := by decide +kernel
theorem d_Reader_reasonAgainst_29 : decode prog_8_method_9_code 29 = .ok (.aload_n 0, 1) := by decide +kernel
theorem d_Reader_reasonAgainst_30 : decode prog_8_method_9_code 30 = .ok (.getfield 32, 3) := by decide +kernel
theorem d_Reader_reasonAgainst_33 : decode prog_8_method_9_code 33 = .ok (.iconst 1, 1) := by decide +kernel
theorem d_Reader_reasonAgainst_34 : decode prog_8_method_9_code 34 = .ok (.invokevirtual 84, 3) := by decide +kernel
theorem d_Reader_reasonAgainst_37 : decode prog_8_method_9_code 37 = .ok (.bipush 20, 2) := by decide +kernel
theorem d_Reader_reasonAgainst_39 : decode prog_8_method_9_code 39 = .ok (.invokestatic 92, 3) := by decide +kernel
theorem d_Reader_reasonAgainst_42 : decode prog_8_method_9_code 42 = .ok (.ifCond .ne 5, 3) := by decide +kernel
theorem d_Reader_reasonAgainst_45 : decode prog_8_method_9_code 45 = .ok (.iconst 3, 1) := by decide +kernel
theorem d_Reader_reasonAgainst_46 : decode prog_8_method_9_code 46 = .ok (.ireturn, 1) := by decide +kernel
theorem d_Reader_reasonAgainst_47 : decode prog_8_method_9_code 47 = .ok (.aload_n 0, 1) := by decide +kernel
theorem d_Reader_reasonAgainst_48 : decode prog_8_method_9_code 48 = .ok (.getfield 12, 3) := by decide +kernel
theorem d_Reader_reasonAgainst_51 : decode prog_8_method_9_code 51 = .ok (.invokevirtual 35, 3) := by decide +kernel
theorem d_Reader_reasonAgainst_54 : decode prog_8_method_9_code 54 = .ok (.iload_n 2, 1) := by decide +kernel
theorem d_Reader_reasonAgainst_55 : decode prog_8_method_9_code 55 = .ok (.iadd, 1) := by decide +kernel
theorem d_Reader_reasonAgainst_56 : decode prog_8_method_9_code 56 = .ok (.bipush 60, 2) := by decide +kernel
theorem d_Reader_reasonAgainst_58 : decode prog_8_method_9_code 58 = .ok (.if_icmp .le 7, 3) := by decide +kernel
theorem d_Reader_reasonAgainst_61 : decode prog_8_method_9_code 61 = .ok (.iconst 4, 1) := by decide +kernel
theorem d_Reader_reasonAgainst_62 : decode prog_8_method_9_code 62 = .ok (.goto 4, 3) := by decide +kernel
theorem d_Reader_reasonAgainst_65 : decode prog_8_method_9_code 65 = .ok (.iconst 0, 1) := by decide +kernel
theorem d_Reader_reasonAgainst_66 : decode prog_8_method_9_code 66 = .ok (.ireturn, 1) := by decide +kernel
theorem d_Reader_takeNumber_0 : decode prog_8_method_10_code 0 = .ok (.aload_n 0, 1) := by decide +kernel
theorem d_Reader_takeNumber_1 : decode prog_8_method_10_code 1 = .ok (.invokevirtual 46, 3) := by decide +kernel
theorem d_Reader_takeNumber_4 : decode prog_8_method_10_code 4 = .ok (.ifCond .eq 5, 3) := by decide +kernel
theorem d_Reader_takeNumber_7 : decode prog_8_method_10_code 7 = .ok (.iconst (-1), 1) := by decide +kernel
theorem d_Reader_takeNumber_8 : decode prog_8_method_10_code 8 = .ok (.ireturn, 1) := by decide +kernel
theorem d_Reader_takeNumber_9 : decode prog_8_method_10_code 9 = .ok (.aload_n 0, 1) := by decide +kernel
theorem d_Reader_takeNumber_10 : decode prog_8_method_10_code 10 = .ok (.aload_n 0, 1) := by decide +kernel
theorem d_Reader_takeNumber_11 : decode prog_8_method_10_code 11 = .ok (.getfield 18, 3) := by decide +kernel
theorem d_Reader_takeNumber_14 : decode prog_8_method_10_code 14 = .ok (.invokevirtual 96, 3) := by decide +kernel
theorem d_Reader_takeNumber_17 : decode prog_8_method_10_code 17 = .ok (.istore_n 1, 1) := by decide +kernel
theorem d_Reader_takeNumber_18 : decode prog_8_method_10_code 18 = .ok (.iload_n 1, 1) := by decide +kernel
theorem d_Reader_takeNumber_19 : decode prog_8_method_10_code 19 = .ok (.iconst (-1), 1) := by decide +kernel
theorem d_Reader_takeNumber_20 : decode prog_8_method_10_code 20 = .ok (.if_icmp .ne 14, 3) := by decide +kernel
theorem d_Reader_takeNumber_23 : decode prog_8_method_10_code 23 = .ok (.aload_n 0, 1) := by decide +kernel
theorem d_Reader_takeNumber_24 : decode prog_8_method_10_code 24 = .ok (.aload_n 0, 1) := by decide +kernel
theorem d_Reader_takeNumber_25 : decode prog_8_method_10_code 25 = .ok (.getfield 18, 3) := by decide +kernel
theorem d_Reader_takeNumber_28 : decode prog_8_method_10_code 28 = .ok (.iconst 1, 1) := by decide +kernel
theorem d_Reader_takeNumber_29 : decode prog_8_method_10_code 29 = .ok (.invokevirtual 64, 3) := by decide +kernel
theorem d_Reader_takeNumber_32 : decode prog_8_method_10_code 32 = .ok (.iconst (-1), 1) := by decide +kernel
theorem d_Reader_takeNumber_33 : decode prog_8_method_10_code 33 = .ok (.ireturn, 1) := by decide +kernel
theorem d_Reader_takeNumber_34 : decode prog_8_method_10_code 34 = .ok (.aload_n 0, 1) := by decide +kernel
theorem d_Reader_takeNumber_35 : decode prog_8_method_10_code 35 = .ok (.dup, 1) := by decide +kernel
theorem d_Reader_takeNumber_36 : decode prog_8_method_10_code 36 = .ok (.getfield 18, 3) := by decide +kernel
theorem d_Reader_takeNumber_39 : decode prog_8_method_10_code 39 = .ok (.iconst 1, 1) := by decide +kernel
theorem d_Reader_takeNumber_40 : decode prog_8_method_10_code 40 = .ok (.iadd, 1) := by decide +kernel
theorem d_Reader_takeNumber_41 : decode prog_8_method_10_code 41 = .ok (.putfield 18, 3) := by decide +kernel
theorem d_Reader_takeNumber_44 : decode prog_8_method_10_code 44 = .ok (.aload_n 0, 1) := by decide +kernel
theorem d_Reader_takeNumber_45 : decode prog_8_method_10_code 45 = .ok (.aload_n 0, 1) := by decide +kernel
theorem d_Reader_takeNumber_46 : decode prog_8_method_10_code 46 = .ok (.getfield 18, 3) := by decide +kernel
theorem d_Reader_takeNumber_49 : decode prog_8_method_10_code 49 = .ok (.invokevirtual 96, 3) := by decide +kernel
theorem d_Reader_takeNumber_52 : decode prog_8_method_10_code 52 = .ok (.istore_n 2, 1) := by decide +kernel
theorem d_Reader_takeNumber_53 : decode prog_8_method_10_code 53 = .ok (.iload_n 1, 1) := by decide +kernel
theorem d_Reader_takeNumber_54 : decode prog_8_method_10_code 54 = .ok (.ifCond .eq 8, 3) := by decide +kernel
theorem d_Reader_takeNumber_57 : decode prog_8_method_10_code 57 = .ok (.iload_n 2, 1) := by decide +kernel
theorem d_Reader_takeNumber_58 : decode prog_8_method_10_code 58 = .ok (.iconst (-1), 1) := by decide +kernel
theorem d_Reader_takeNumber_59 : decode prog_8_method_10_code 59 = .ok (.if_icmp .ne 5, 3) := by decide +kernel
theorem d_Reader_takeNumber_62 : decode prog_8_method_10_code 62 = .ok (.iload_n 1, 1) := by decide +kernel
theorem d_Reader_takeNumber_63 : decode prog_8_method_10_code 63 = .ok (.ireturn, 1) := by decide +kernel
theorem d_Reader_takeNumber_64 : decode prog_8_method_10_code 64 = .ok (.aload_n 0, 1) := by decide +kernel
theorem d_Reader_takeNumber_65 : decode prog_8_method_10_code 65 = .ok (.dup, 1) := by decide +kernel
theorem d_Reader_takeNumber_66 : decode prog_8_method_10_code 66 = .ok (.getfield 18, 3) := by decide +kernel
theorem d_Reader_takeNumber_69 : decode prog_8_method_10_code 69 = .ok (.iconst 1, 1) := by decide +kernel
theorem d_Reader_takeNumber_70 : decode prog_8_method_10_code 70 = .ok (.iadd, 1) := by decide +kernel
theorem d_Reader_takeNumber_71 : decode prog_8_method_10_code 71 = .ok (.putfield 18, 3) := by decide +kernel
theorem d_Reader_takeNumber_74 : decode prog_8_method_10_code 74 = .ok (.iload_n 1, 1) := by decide +kernel
theorem d_Reader_takeNumber_75 : decode prog_8_method_10_code 75 = .ok (.bipush 10, 2) := by decide +kernel
theorem d_Reader_takeNumber_77 : decode prog_8_method_10_code 77 = .ok (.imul, 1) := by decide +kernel
theorem d_Reader_takeNumber_78 : decode prog_8_method_10_code 78 = .ok (.iload_n 2, 1) := by decide +kernel
theorem d_Reader_takeNumber_79 : decode prog_8_method_10_code 79 = .ok (.iadd, 1) := by decide +kernel
theorem d_Reader_takeNumber_80 : decode prog_8_method_10_code 80 = .ok (.ireturn, 1) := by decide +kernel
theorem d_Reader_digitAt_0 : decode prog_8_method_11_code 0 = .ok (.aload_n 0, 1) := by decide +kernel
theorem d_Reader_digitAt_1 : decode prog_8_method_11_code 1 = .ok (.getfield 28, 3) := by decide +kernel
theorem d_Reader_digitAt_4 : decode prog_8_method_11_code 4 = .ok (.iload_n 1, 1) := by decide +kernel
theorem d_Reader_digitAt_5 : decode prog_8_method_11_code 5 = .ok (.invokevirtual 50, 3) := by decide +kernel
theorem d_Reader_digitAt_8 : decode prog_8_method_11_code 8 = .ok (.istore_n 2, 1) := by decide +kernel
theorem d_Reader_digitAt_9 : decode prog_8_method_11_code 9 = .ok (.iload_n 2, 1) := by decide +kernel
theorem d_Reader_digitAt_10 : decode prog_8_method_11_code 10 = .ok (.bipush 48, 2) := by decide +kernel
theorem d_Reader_digitAt_12 : decode prog_8_method_11_code 12 = .ok (.bipush 57, 2) := by decide +kernel
theorem d_Reader_digitAt_14 : decode prog_8_method_11_code 14 = .ok (.invokestatic 92, 3) := by decide +kernel
theorem d_Reader_digitAt_17 : decode prog_8_method_11_code 17 = .ok (.ifCond .eq 10, 3) := by decide +kernel
theorem d_Reader_digitAt_20 : decode prog_8_method_11_code 20 = .ok (.iload_n 2, 1) := by decide +kernel
theorem d_Reader_digitAt_21 : decode prog_8_method_11_code 21 = .ok (.bipush 48, 2) := by decide +kernel
theorem d_Reader_digitAt_23 : decode prog_8_method_11_code 23 = .ok (.isub, 1) := by decide +kernel
theorem d_Reader_digitAt_24 : decode prog_8_method_11_code 24 = .ok (.goto 4, 3) := by decide +kernel
theorem d_Reader_digitAt_27 : decode prog_8_method_11_code 27 = .ok (.iconst (-1), 1) := by decide +kernel
theorem d_Reader_digitAt_28 : decode prog_8_method_11_code 28 = .ok (.ireturn, 1) := by decide +kernel
theorem d_Reader_takeSign_0 : decode prog_8_method_12_code 0 = .ok (.aload_n 0, 1) := by decide +kernel
theorem d_Reader_takeSign_1 : decode prog_8_method_12_code 1 = .ok (.invokevirtual 46, 3) := by decide +kernel
theorem d_Reader_takeSign_4 : decode prog_8_method_12_code 4 = .ok (.ifCond .eq 4, 3) := by decide +kernel
theorem d_Reader_takeSign_7 : decode prog_8_method_12_code 7 = .ok (.return_, 1) := by decide +kernel
theorem d_Reader_takeSign_8 : decode prog_8_method_12_code 8 = .ok (.aload_n 0, 1) := by decide +kernel
theorem d_Reader_takeSign_9 : decode prog_8_method_12_code 9 = .ok (.getfield 28, 3) := by decide +kernel
theorem d_Reader_takeSign_12 : decode prog_8_method_12_code 12 = .ok (.aload_n 0, 1) := by decide +kernel
theorem d_Reader_takeSign_13 : decode prog_8_method_12_code 13 = .ok (.getfield 18, 3) := by decide +kernel
theorem d_Reader_takeSign_16 : decode prog_8_method_12_code 16 = .ok (.invokevirtual 50, 3) := by decide +kernel
theorem d_Reader_takeSign_19 : decode prog_8_method_12_code 19 = .ok (.iload_n 1, 1) := by decide +kernel
theorem d_Reader_takeSign_20 : decode prog_8_method_12_code 20 = .ok (.if_icmp .ne 16, 3) := by decide +kernel
theorem d_Reader_takeSign_23 : decode prog_8_method_12_code 23 = .ok (.aload_n 0, 1) := by decide +kernel
theorem d_Reader_takeSign_24 : decode prog_8_method_12_code 24 = .ok (.dup, 1) := by decide +kernel
theorem d_Reader_takeSign_25 : decode prog_8_method_12_code 25 = .ok (.getfield 18, 3) := by decide +kernel
theorem d_Reader_takeSign_28 : decode prog_8_method_12_code 28 = .ok (.iconst 1, 1) := by decide +kernel
theorem d_Reader_takeSign_29 : decode prog_8_method_12_code 29 = .ok (.iadd, 1) := by decide +kernel
theorem d_Reader_takeSign_30 : decode prog_8_method_12_code 30 = .ok (.putfield 18, 3) := by decide +kernel
theorem d_Reader_takeSign_33 : decode prog_8_method_12_code 33 = .ok (.goto 12, 3) := by decide +kernel
theorem d_Reader_takeSign_36 : decode prog_8_method_12_code 36 = .ok (.aload_n 0, 1) := by decide +kernel
theorem d_Reader_takeSign_37 : decode prog_8_method_12_code 37 = .ok (.aload_n 0, 1) := by decide +kernel
theorem d_Reader_takeSign_38 : decode prog_8_method_12_code 38 = .ok (.getfield 18, 3) := by decide +kernel
theorem d_Reader_takeSign_41 : decode prog_8_method_12_code 41 = .ok (.iconst 1, 1) := by decide +kernel
theorem d_Reader_takeSign_42 : decode prog_8_method_12_code 42 = .ok (.invokevirtual 64, 3) := by decide +kernel
theorem d_Reader_takeSign_45 : decode prog_8_method_12_code 45 = .ok (.return_, 1) := by decide +kernel
theorem d_Reader_blame_0 : decode prog_8_method_13_code 0 = .ok (.aload_n 0, 1) := by decide +kernel
theorem d_Reader_blame_1 : decode prog_8_method_13_code 1 = .ok (.iload_n 1, 1) := by decide +kernel
theorem d_Reader_blame_2 : decode prog_8_method_13_code 2 = .ok (.putfield 22, 3) := by decide +kernel
theorem d_Reader_blame_5 : decode prog_8_method_13_code 5 = .ok (.aload_n 0, 1) := by decide +kernel
theorem d_Reader_blame_6 : decode prog_8_method_13_code 6 = .ok (.iload_n 2, 1) := by decide +kernel
theorem d_Reader_blame_7 : decode prog_8_method_13_code 7 = .ok (.putfield 25, 3) := by decide +kernel
theorem d_Reader_blame_10 : decode prog_8_method_13_code 10 = .ok (.return_, 1) := by decide +kernel
theorem d_law_0 : decode code 0 = .ok (.new 7, 3) := by decide +kernel
theorem d_law_3 : decode code 3 = .ok (.dup, 1) := by decide +kernel
theorem d_law_4 : decode code 4 = .ok (.invokespecial 9, 3) := by decide +kernel
theorem d_law_7 : decode code 7 = .ok (.astore_n 1, 1) := by decide +kernel
theorem d_law_8 : decode code 8 = .ok (.new 10, 3) := by decide +kernel
theorem d_law_11 : decode code 11 = .ok (.dup, 1) := by decide +kernel
theorem d_law_12 : decode code 12 = .ok (.invokespecial 12, 3) := by decide +kernel
theorem d_law_15 : decode code 15 = .ok (.astore_n 2, 1) := by decide +kernel
theorem d_law_16 : decode code 16 = .ok (.iconst 0, 1) := by decide +kernel
theorem d_law_17 : decode code 17 = .ok (.istore_n 3, 1) := by decide +kernel
theorem d_law_18 : decode code 18 = .ok (.iload_n 3, 1) := by decide +kernel
theorem d_law_19 : decode code 19 = .ok (.aload_n 0, 1) := by decide +kernel
theorem d_law_20 : decode code 20 = .ok (.arraylength, 1) := by decide +kernel
theorem d_law_21 : decode code 21 = .ok (.iconst 4, 1) := by decide +kernel
theorem d_law_22 : decode code 22 = .ok (.isub, 1) := by decide +kernel
theorem d_law_23 : decode code 23 = .ok (.if_icmp .gt 695, 3) := by decide +kernel
theorem d_law_26 : decode code 26 = .ok (.aload_n 0, 1) := by decide +kernel
theorem d_law_27 : decode code 27 = .ok (.iload_n 3, 1) := by decide +kernel
theorem d_law_28 : decode code 28 = .ok (.iaload, 1) := by decide +kernel
theorem d_law_29 : decode code 29 = .ok (.bipush 31, 2) := by decide +kernel
theorem d_law_31 : decode code 31 = .ok (.iand, 1) := by decide +kernel
theorem d_law_32 : decode code 32 = .ok (.tableswitch 680 0 21 #[104, 127, 150, 183, 216, 239, 282, 315, 358, 401, 434, 467, 500, 523, 546, 559, 572, 585, 608, 621, 644, 667], 104) := by decide +kernel
theorem d_law_136 : decode code 136 = .ok (.aload_n 1, 1) := by decide +kernel
theorem d_law_137 : decode code 137 = .ok (.aload_n 0, 1) := by decide +kernel
theorem d_law_138 : decode code 138 = .ok (.iload_n 3, 1) := by decide +kernel
theorem d_law_139 : decode code 139 = .ok (.iconst 1, 1) := by decide +kernel
theorem d_law_140 : decode code 140 = .ok (.iadd, 1) := by decide +kernel
theorem d_law_141 : decode code 141 = .ok (.iaload, 1) := by decide +kernel
theorem d_law_142 : decode code 142 = .ok (.invokevirtual 13, 3) := by decide +kernel
theorem d_law_145 : decode code 145 = .ok (.aload_n 2, 1) := by decide +kernel
theorem d_law_146 : decode code 146 = .ok (.aload_n 0, 1) := by decide +kernel
theorem d_law_147 : decode code 147 = .ok (.iload_n 3, 1) := by decide +kernel
theorem d_law_148 : decode code 148 = .ok (.iconst 1, 1) := by decide +kernel
theorem d_law_149 : decode code 149 = .ok (.iadd, 1) := by decide +kernel
theorem d_law_150 : decode code 150 = .ok (.iaload, 1) := by decide +kernel
theorem d_law_151 : decode code 151 = .ok (.invokevirtual 17, 3) := by decide +kernel
theorem d_law_154 : decode code 154 = .ok (.if_icmp .eq 558, 3) := by decide +kernel
theorem d_law_157 : decode code 157 = .ok (.iconst 0, 1) := by decide +kernel
theorem d_law_158 : decode code 158 = .ok (.ireturn, 1) := by decide +kernel
theorem d_law_159 : decode code 159 = .ok (.aload_n 1, 1) := by decide +kernel
theorem d_law_160 : decode code 160 = .ok (.aload_n 0, 1) := by decide +kernel
theorem d_law_161 : decode code 161 = .ok (.iload_n 3, 1) := by decide +kernel
theorem d_law_162 : decode code 162 = .ok (.iconst 1, 1) := by decide +kernel
theorem d_law_163 : decode code 163 = .ok (.iadd, 1) := by decide +kernel
theorem d_law_164 : decode code 164 = .ok (.iaload, 1) := by decide +kernel
theorem d_law_165 : decode code 165 = .ok (.invokevirtual 18, 3) := by decide +kernel
theorem d_law_168 : decode code 168 = .ok (.aload_n 2, 1) := by decide +kernel
theorem d_law_169 : decode code 169 = .ok (.aload_n 0, 1) := by decide +kernel
theorem d_law_170 : decode code 170 = .ok (.iload_n 3, 1) := by decide +kernel
theorem d_law_171 : decode code 171 = .ok (.iconst 1, 1) := by decide +kernel
theorem d_law_172 : decode code 172 = .ok (.iadd, 1) := by decide +kernel
theorem d_law_173 : decode code 173 = .ok (.iaload, 1) := by decide +kernel
theorem d_law_174 : decode code 174 = .ok (.invokevirtual 21, 3) := by decide +kernel
theorem d_law_177 : decode code 177 = .ok (.if_icmp .eq 535, 3) := by decide +kernel
theorem d_law_180 : decode code 180 = .ok (.iconst 0, 1) := by decide +kernel
theorem d_law_181 : decode code 181 = .ok (.ireturn, 1) := by decide +kernel
theorem d_law_182 : decode code 182 = .ok (.aload_n 1, 1) := by decide +kernel
theorem d_law_183 : decode code 183 = .ok (.aload_n 0, 1) := by decide +kernel
theorem d_law_184 : decode code 184 = .ok (.iload_n 3, 1) := by decide +kernel
theorem d_law_185 : decode code 185 = .ok (.iconst 1, 1) := by decide +kernel
theorem d_law_186 : decode code 186 = .ok (.iadd, 1) := by decide +kernel
theorem d_law_187 : decode code 187 = .ok (.iaload, 1) := by decide +kernel
theorem d_law_188 : decode code 188 = .ok (.aload_n 0, 1) := by decide +kernel
theorem d_law_189 : decode code 189 = .ok (.iload_n 3, 1) := by decide +kernel
theorem d_law_190 : decode code 190 = .ok (.iconst 2, 1) := by decide +kernel
theorem d_law_191 : decode code 191 = .ok (.iadd, 1) := by decide +kernel
theorem d_law_192 : decode code 192 = .ok (.iaload, 1) := by decide +kernel
theorem d_law_193 : decode code 193 = .ok (.invokevirtual 22, 3) := by decide +kernel
theorem d_law_196 : decode code 196 = .ok (.aload_n 2, 1) := by decide +kernel
theorem d_law_197 : decode code 197 = .ok (.aload_n 0, 1) := by decide +kernel
theorem d_law_198 : decode code 198 = .ok (.iload_n 3, 1) := by decide +kernel
theorem d_law_199 : decode code 199 = .ok (.iconst 1, 1) := by decide +kernel
theorem d_law_200 : decode code 200 = .ok (.iadd, 1) := by decide +kernel
theorem d_law_201 : decode code 201 = .ok (.iaload, 1) := by decide +kernel
theorem d_law_202 : decode code 202 = .ok (.aload_n 0, 1) := by decide +kernel
theorem d_law_203 : decode code 203 = .ok (.iload_n 3, 1) := by decide +kernel
theorem d_law_204 : decode code 204 = .ok (.iconst 2, 1) := by decide +kernel
theorem d_law_205 : decode code 205 = .ok (.iadd, 1) := by decide +kernel
theorem d_law_206 : decode code 206 = .ok (.iaload, 1) := by decide +kernel
theorem d_law_207 : decode code 207 = .ok (.invokevirtual 26, 3) := by decide +kernel
theorem d_law_210 : decode code 210 = .ok (.if_icmp .eq 502, 3) := by decide +kernel
theorem d_law_213 : decode code 213 = .ok (.iconst 0, 1) := by decide +kernel
theorem d_law_214 : decode code 214 = .ok (.ireturn, 1) := by decide +kernel
theorem d_law_215 : decode code 215 = .ok (.aload_n 1, 1) := by decide +kernel
theorem d_law_216 : decode code 216 = .ok (.aload_n 0, 1) := by decide +kernel
theorem d_law_217 : decode code 217 = .ok (.iload_n 3, 1) := by decide +kernel
theorem d_law_218 : decode code 218 = .ok (.iconst 1, 1) := by decide +kernel
theorem d_law_219 : decode code 219 = .ok (.iadd, 1) := by decide +kernel
theorem d_law_220 : decode code 220 = .ok (.iaload, 1) := by decide +kernel
theorem d_law_221 : decode code 221 = .ok (.aload_n 0, 1) := by decide +kernel
theorem d_law_222 : decode code 222 = .ok (.iload_n 3, 1) := by decide +kernel
theorem d_law_223 : decode code 223 = .ok (.iconst 2, 1) := by decide +kernel
theorem d_law_224 : decode code 224 = .ok (.iadd, 1) := by decide +kernel
theorem d_law_225 : decode code 225 = .ok (.iaload, 1) := by decide +kernel
theorem d_law_226 : decode code 226 = .ok (.invokevirtual 27, 3) := by decide +kernel
theorem d_law_229 : decode code 229 = .ok (.aload_n 2, 1) := by decide +kernel
theorem d_law_230 : decode code 230 = .ok (.aload_n 0, 1) := by decide +kernel
theorem d_law_231 : decode code 231 = .ok (.iload_n 3, 1) := by decide +kernel
theorem d_law_232 : decode code 232 = .ok (.iconst 1, 1) := by decide +kernel
theorem d_law_233 : decode code 233 = .ok (.iadd, 1) := by decide +kernel
theorem d_law_234 : decode code 234 = .ok (.iaload, 1) := by decide +kernel
theorem d_law_235 : decode code 235 = .ok (.aload_n 0, 1) := by decide +kernel
theorem d_law_236 : decode code 236 = .ok (.iload_n 3, 1) := by decide +kernel
theorem d_law_237 : decode code 237 = .ok (.iconst 2, 1) := by decide +kernel
theorem d_law_238 : decode code 238 = .ok (.iadd, 1) := by decide +kernel
theorem d_law_239 : decode code 239 = .ok (.iaload, 1) := by decide +kernel
theorem d_law_240 : decode code 240 = .ok (.invokevirtual 30, 3) := by decide +kernel
theorem d_law_243 : decode code 243 = .ok (.if_icmp .eq 469, 3) := by decide +kernel
theorem d_law_246 : decode code 246 = .ok (.iconst 0, 1) := by decide +kernel
theorem d_law_247 : decode code 247 = .ok (.ireturn, 1) := by decide +kernel
theorem d_law_248 : decode code 248 = .ok (.aload_n 1, 1) := by decide +kernel
theorem d_law_249 : decode code 249 = .ok (.aload_n 0, 1) := by decide +kernel
theorem d_law_250 : decode code 250 = .ok (.iload_n 3, 1) := by decide +kernel
theorem d_law_251 : decode code 251 = .ok (.iconst 1, 1) := by decide +kernel
theorem d_law_252 : decode code 252 = .ok (.iadd, 1) := by decide +kernel
theorem d_law_253 : decode code 253 = .ok (.iaload, 1) := by decide +kernel
theorem d_law_254 : decode code 254 = .ok (.invokevirtual 31, 3) := by decide +kernel
theorem d_law_257 : decode code 257 = .ok (.aload_n 2, 1) := by decide +kernel
theorem d_law_258 : decode code 258 = .ok (.aload_n 0, 1) := by decide +kernel
theorem d_law_259 : decode code 259 = .ok (.iload_n 3, 1) := by decide +kernel
theorem d_law_260 : decode code 260 = .ok (.iconst 1, 1) := by decide +kernel
theorem d_law_261 : decode code 261 = .ok (.iadd, 1) := by decide +kernel
theorem d_law_262 : decode code 262 = .ok (.iaload, 1) := by decide +kernel
theorem d_law_263 : decode code 263 = .ok (.invokevirtual 34, 3) := by decide +kernel
theorem d_law_266 : decode code 266 = .ok (.if_icmp .eq 446, 3) := by decide +kernel
theorem d_law_269 : decode code 269 = .ok (.iconst 0, 1) := by decide +kernel
theorem d_law_270 : decode code 270 = .ok (.ireturn, 1) := by decide +kernel
theorem d_law_271 : decode code 271 = .ok (.aload_n 1, 1) := by decide +kernel
theorem d_law_272 : decode code 272 = .ok (.aload_n 0, 1) := by decide +kernel
theorem d_law_273 : decode code 273 = .ok (.iload_n 3, 1) := by decide +kernel
theorem d_law_274 : decode code 274 = .ok (.iconst 1, 1) := by decide +kernel
theorem d_law_275 : decode code 275 = .ok (.iadd, 1) := by decide +kernel
theorem d_law_276 : decode code 276 = .ok (.iaload, 1) := by decide +kernel
theorem d_law_277 : decode code 277 = .ok (.aload_n 0, 1) := by decide +kernel
theorem d_law_278 : decode code 278 = .ok (.iload_n 3, 1) := by decide +kernel
theorem d_law_279 : decode code 279 = .ok (.iconst 2, 1) := by decide +kernel
theorem d_law_280 : decode code 280 = .ok (.iadd, 1) := by decide +kernel
theorem d_law_281 : decode code 281 = .ok (.iaload, 1) := by decide +kernel
theorem d_law_282 : decode code 282 = .ok (.aload_n 0, 1) := by decide +kernel
theorem d_law_283 : decode code 283 = .ok (.iload_n 3, 1) := by decide +kernel
theorem d_law_284 : decode code 284 = .ok (.iconst 3, 1) := by decide +kernel
theorem d_law_285 : decode code 285 = .ok (.iadd, 1) := by decide +kernel
theorem d_law_286 : decode code 286 = .ok (.iaload, 1) := by decide +kernel
theorem d_law_287 : decode code 287 = .ok (.invokevirtual 35, 3) := by decide +kernel
theorem d_law_290 : decode code 290 = .ok (.aload_n 2, 1) := by decide +kernel
theorem d_law_291 : decode code 291 = .ok (.aload_n 0, 1) := by decide +kernel
theorem d_law_292 : decode code 292 = .ok (.iload_n 3, 1) := by decide +kernel
theorem d_law_293 : decode code 293 = .ok (.iconst 1, 1) := by decide +kernel
theorem d_law_294 : decode code 294 = .ok (.iadd, 1) := by decide +kernel
theorem d_law_295 : decode code 295 = .ok (.iaload, 1) := by decide +kernel
theorem d_law_296 : decode code 296 = .ok (.aload_n 0, 1) := by decide +kernel
theorem d_law_297 : decode code 297 = .ok (.iload_n 3, 1) := by decide +kernel
theorem d_law_298 : decode code 298 = .ok (.iconst 2, 1) := by decide +kernel
theorem d_law_299 : decode code 299 = .ok (.iadd, 1) := by decide +kernel
theorem d_law_300 : decode code 300 = .ok (.iaload, 1) := by decide +kernel
theorem d_law_301 : decode code 301 = .ok (.aload_n 0, 1) := by decide +kernel
theorem d_law_302 : decode code 302 = .ok (.iload_n 3, 1) := by decide +kernel
theorem d_law_303 : decode code 303 = .ok (.iconst 3, 1) := by decide +kernel
theorem d_law_304 : decode code 304 = .ok (.iadd, 1) := by decide +kernel
theorem d_law_305 : decode code 305 = .ok (.iaload, 1) := by decide +kernel
theorem d_law_306 : decode code 306 = .ok (.invokevirtual 39, 3) := by decide +kernel
theorem d_law_309 : decode code 309 = .ok (.if_icmp .eq 403, 3) := by decide +kernel
theorem d_law_312 : decode code 312 = .ok (.iconst 0, 1) := by decide +kernel
theorem d_law_313 : decode code 313 = .ok (.ireturn, 1) := by decide +kernel
theorem d_law_314 : decode code 314 = .ok (.aload_n 1, 1) := by decide +kernel
theorem d_law_315 : decode code 315 = .ok (.aload_n 0, 1) := by decide +kernel
theorem d_law_316 : decode code 316 = .ok (.iload_n 3, 1) := by decide +kernel
theorem d_law_317 : decode code 317 = .ok (.iconst 1, 1) := by decide +kernel
theorem d_law_318 : decode code 318 = .ok (.iadd, 1) := by decide +kernel
theorem d_law_319 : decode code 319 = .ok (.iaload, 1) := by decide +kernel
theorem d_law_320 : decode code 320 = .ok (.aload_n 0, 1) := by decide +kernel
theorem d_law_321 : decode code 321 = .ok (.iload_n 3, 1) := by decide +kernel
theorem d_law_322 : decode code 322 = .ok (.iconst 2, 1) := by decide +kernel
theorem d_law_323 : decode code 323 = .ok (.iadd, 1) := by decide +kernel
theorem d_law_324 : decode code 324 = .ok (.iaload, 1) := by decide +kernel
theorem d_law_325 : decode code 325 = .ok (.invokevirtual 40, 3) := by decide +kernel
theorem d_law_328 : decode code 328 = .ok (.aload_n 2, 1) := by decide +kernel
theorem d_law_329 : decode code 329 = .ok (.aload_n 0, 1) := by decide +kernel
theorem d_law_330 : decode code 330 = .ok (.iload_n 3, 1) := by decide +kernel
theorem d_law_331 : decode code 331 = .ok (.iconst 1, 1) := by decide +kernel
theorem d_law_332 : decode code 332 = .ok (.iadd, 1) := by decide +kernel
theorem d_law_333 : decode code 333 = .ok (.iaload, 1) := by decide +kernel
theorem d_law_334 : decode code 334 = .ok (.aload_n 0, 1) := by decide +kernel
theorem d_law_335 : decode code 335 = .ok (.iload_n 3, 1) := by decide +kernel
theorem d_law_336 : decode code 336 = .ok (.iconst 2, 1) := by decide +kernel
theorem d_law_337 : decode code 337 = .ok (.iadd, 1) := by decide +kernel
theorem d_law_338 : decode code 338 = .ok (.iaload, 1) := by decide +kernel
theorem d_law_339 : decode code 339 = .ok (.invokevirtual 43, 3) := by decide +kernel
theorem d_law_342 : decode code 342 = .ok (.if_icmp .eq 370, 3) := by decide +kernel
theorem d_law_345 : decode code 345 = .ok (.iconst 0, 1) := by decide +kernel
theorem d_law_346 : decode code 346 = .ok (.ireturn, 1) := by decide +kernel
theorem d_law_347 : decode code 347 = .ok (.aload_n 1, 1) := by decide +kernel
theorem d_law_348 : decode code 348 = .ok (.aload_n 0, 1) := by decide +kernel
theorem d_law_349 : decode code 349 = .ok (.iload_n 3, 1) := by decide +kernel
theorem d_law_350 : decode code 350 = .ok (.iconst 1, 1) := by decide +kernel
theorem d_law_351 : decode code 351 = .ok (.iadd, 1) := by decide +kernel
theorem d_law_352 : decode code 352 = .ok (.iaload, 1) := by decide +kernel
theorem d_law_353 : decode code 353 = .ok (.aload_n 0, 1) := by decide +kernel
theorem d_law_354 : decode code 354 = .ok (.iload_n 3, 1) := by decide +kernel
theorem d_law_355 : decode code 355 = .ok (.iconst 2, 1) := by decide +kernel
theorem d_law_356 : decode code 356 = .ok (.iadd, 1) := by decide +kernel
theorem d_law_357 : decode code 357 = .ok (.iaload, 1) := by decide +kernel
theorem d_law_358 : decode code 358 = .ok (.aload_n 0, 1) := by decide +kernel
theorem d_law_359 : decode code 359 = .ok (.iload_n 3, 1) := by decide +kernel
theorem d_law_360 : decode code 360 = .ok (.iconst 3, 1) := by decide +kernel
theorem d_law_361 : decode code 361 = .ok (.iadd, 1) := by decide +kernel
theorem d_law_362 : decode code 362 = .ok (.iaload, 1) := by decide +kernel
theorem d_law_363 : decode code 363 = .ok (.invokevirtual 44, 3) := by decide +kernel
theorem d_law_366 : decode code 366 = .ok (.aload_n 2, 1) := by decide +kernel
theorem d_law_367 : decode code 367 = .ok (.aload_n 0, 1) := by decide +kernel
theorem d_law_368 : decode code 368 = .ok (.iload_n 3, 1) := by decide +kernel
theorem d_law_369 : decode code 369 = .ok (.iconst 1, 1) := by decide +kernel
theorem d_law_370 : decode code 370 = .ok (.iadd, 1) := by decide +kernel
theorem d_law_371 : decode code 371 = .ok (.iaload, 1) := by decide +kernel
theorem d_law_372 : decode code 372 = .ok (.aload_n 0, 1) := by decide +kernel
theorem d_law_373 : decode code 373 = .ok (.iload_n 3, 1) := by decide +kernel
theorem d_law_374 : decode code 374 = .ok (.iconst 2, 1) := by decide +kernel
theorem d_law_375 : decode code 375 = .ok (.iadd, 1) := by decide +kernel
theorem d_law_376 : decode code 376 = .ok (.iaload, 1) := by decide +kernel
theorem d_law_377 : decode code 377 = .ok (.aload_n 0, 1) := by decide +kernel
theorem d_law_378 : decode code 378 = .ok (.iload_n 3, 1) := by decide +kernel
theorem d_law_379 : decode code 379 = .ok (.iconst 3, 1) := by decide +kernel
theorem d_law_380 : decode code 380 = .ok (.iadd, 1) := by decide +kernel
theorem d_law_381 : decode code 381 = .ok (.iaload, 1) := by decide +kernel
theorem d_law_382 : decode code 382 = .ok (.invokevirtual 47, 3) := by decide +kernel
theorem d_law_385 : decode code 385 = .ok (.if_icmp .eq 327, 3) := by decide +kernel
theorem d_law_388 : decode code 388 = .ok (.iconst 0, 1) := by decide +kernel
theorem d_law_389 : decode code 389 = .ok (.ireturn, 1) := by decide +kernel
theorem d_law_390 : decode code 390 = .ok (.aload_n 1, 1) := by decide +kernel
theorem d_law_391 : decode code 391 = .ok (.aload_n 0, 1) := by decide +kernel
theorem d_law_392 : decode code 392 = .ok (.iload_n 3, 1) := by decide +kernel
theorem d_law_393 : decode code 393 = .ok (.iconst 1, 1) := by decide +kernel
theorem d_law_394 : decode code 394 = .ok (.iadd, 1) := by decide +kernel
theorem d_law_395 : decode code 395 = .ok (.iaload, 1) := by decide +kernel
theorem d_law_396 : decode code 396 = .ok (.aload_n 0, 1) := by decide +kernel
theorem d_law_397 : decode code 397 = .ok (.iload_n 3, 1) := by decide +kernel
theorem d_law_398 : decode code 398 = .ok (.iconst 2, 1) := by decide +kernel
theorem d_law_399 : decode code 399 = .ok (.iadd, 1) := by decide +kernel
theorem d_law_400 : decode code 400 = .ok (.iaload, 1) := by decide +kernel
theorem d_law_401 : decode code 401 = .ok (.aload_n 0, 1) := by decide +kernel
theorem d_law_402 : decode code 402 = .ok (.iload_n 3, 1) := by decide +kernel
theorem d_law_403 : decode code 403 = .ok (.iconst 3, 1) := by decide +kernel
theorem d_law_404 : decode code 404 = .ok (.iadd, 1) := by decide +kernel
theorem d_law_405 : decode code 405 = .ok (.iaload, 1) := by decide +kernel
theorem d_law_406 : decode code 406 = .ok (.invokevirtual 48, 3) := by decide +kernel
theorem d_law_409 : decode code 409 = .ok (.aload_n 2, 1) := by decide +kernel
theorem d_law_410 : decode code 410 = .ok (.aload_n 0, 1) := by decide +kernel
theorem d_law_411 : decode code 411 = .ok (.iload_n 3, 1) := by decide +kernel
theorem d_law_412 : decode code 412 = .ok (.iconst 1, 1) := by decide +kernel
theorem d_law_413 : decode code 413 = .ok (.iadd, 1) := by decide +kernel
theorem d_law_414 : decode code 414 = .ok (.iaload, 1) := by decide +kernel
theorem d_law_415 : decode code 415 = .ok (.aload_n 0, 1) := by decide +kernel
theorem d_law_416 : decode code 416 = .ok (.iload_n 3, 1) := by decide +kernel
theorem d_law_417 : decode code 417 = .ok (.iconst 2, 1) := by decide +kernel
theorem d_law_418 : decode code 418 = .ok (.iadd, 1) := by decide +kernel
theorem d_law_419 : decode code 419 = .ok (.iaload, 1) := by decide +kernel
theorem d_law_420 : decode code 420 = .ok (.aload_n 0, 1) := by decide +kernel
theorem d_law_421 : decode code 421 = .ok (.iload_n 3, 1) := by decide +kernel
theorem d_law_422 : decode code 422 = .ok (.iconst 3, 1) := by decide +kernel
theorem d_law_423 : decode code 423 = .ok (.iadd, 1) := by decide +kernel
theorem d_law_424 : decode code 424 = .ok (.iaload, 1) := by decide +kernel
theorem d_law_425 : decode code 425 = .ok (.invokevirtual 51, 3) := by decide +kernel
theorem d_law_428 : decode code 428 = .ok (.if_icmp .eq 284, 3) := by decide +kernel
theorem d_law_431 : decode code 431 = .ok (.iconst 0, 1) := by decide +kernel
theorem d_law_432 : decode code 432 = .ok (.ireturn, 1) := by decide +kernel
theorem d_law_433 : decode code 433 = .ok (.aload_n 1, 1) := by decide +kernel
theorem d_law_434 : decode code 434 = .ok (.aload_n 0, 1) := by decide +kernel
theorem d_law_435 : decode code 435 = .ok (.iload_n 3, 1) := by decide +kernel
theorem d_law_436 : decode code 436 = .ok (.iconst 1, 1) := by decide +kernel
theorem d_law_437 : decode code 437 = .ok (.iadd, 1) := by decide +kernel
theorem d_law_438 : decode code 438 = .ok (.iaload, 1) := by decide +kernel
theorem d_law_439 : decode code 439 = .ok (.aload_n 0, 1) := by decide +kernel
theorem d_law_440 : decode code 440 = .ok (.iload_n 3, 1) := by decide +kernel
theorem d_law_441 : decode code 441 = .ok (.iconst 2, 1) := by decide +kernel
theorem d_law_442 : decode code 442 = .ok (.iadd, 1) := by decide +kernel
theorem d_law_443 : decode code 443 = .ok (.iaload, 1) := by decide +kernel
theorem d_law_444 : decode code 444 = .ok (.invokevirtual 52, 3) := by decide +kernel
theorem d_law_447 : decode code 447 = .ok (.aload_n 2, 1) := by decide +kernel
theorem d_law_448 : decode code 448 = .ok (.aload_n 0, 1) := by decide +kernel
theorem d_law_449 : decode code 449 = .ok (.iload_n 3, 1) := by decide +kernel
theorem d_law_450 : decode code 450 = .ok (.iconst 1, 1) := by decide +kernel
theorem d_law_451 : decode code 451 = .ok (.iadd, 1) := by decide +kernel
theorem d_law_452 : decode code 452 = .ok (.iaload, 1) := by decide +kernel
theorem d_law_453 : decode code 453 = .ok (.aload_n 0, 1) := by decide +kernel
theorem d_law_454 : decode code 454 = .ok (.iload_n 3, 1) := by decide +kernel
theorem d_law_455 : decode code 455 = .ok (.iconst 2, 1) := by decide +kernel
theorem d_law_456 : decode code 456 = .ok (.iadd, 1) := by decide +kernel
theorem d_law_457 : decode code 457 = .ok (.iaload, 1) := by decide +kernel
theorem d_law_458 : decode code 458 = .ok (.invokevirtual 55, 3) := by decide +kernel
theorem d_law_461 : decode code 461 = .ok (.if_icmp .eq 251, 3) := by decide +kernel
theorem d_law_464 : decode code 464 = .ok (.iconst 0, 1) := by decide +kernel
theorem d_law_465 : decode code 465 = .ok (.ireturn, 1) := by decide +kernel
theorem d_law_466 : decode code 466 = .ok (.aload_n 1, 1) := by decide +kernel
theorem d_law_467 : decode code 467 = .ok (.aload_n 0, 1) := by decide +kernel
theorem d_law_468 : decode code 468 = .ok (.iload_n 3, 1) := by decide +kernel
theorem d_law_469 : decode code 469 = .ok (.iconst 1, 1) := by decide +kernel
theorem d_law_470 : decode code 470 = .ok (.iadd, 1) := by decide +kernel
theorem d_law_471 : decode code 471 = .ok (.iaload, 1) := by decide +kernel
theorem d_law_472 : decode code 472 = .ok (.aload_n 0, 1) := by decide +kernel
theorem d_law_473 : decode code 473 = .ok (.iload_n 3, 1) := by decide +kernel
theorem d_law_474 : decode code 474 = .ok (.iconst 2, 1) := by decide +kernel
theorem d_law_475 : decode code 475 = .ok (.iadd, 1) := by decide +kernel
theorem d_law_476 : decode code 476 = .ok (.iaload, 1) := by decide +kernel
theorem d_law_477 : decode code 477 = .ok (.invokevirtual 56, 3) := by decide +kernel
theorem d_law_480 : decode code 480 = .ok (.aload_n 2, 1) := by decide +kernel
theorem d_law_481 : decode code 481 = .ok (.aload_n 0, 1) := by decide +kernel
theorem d_law_482 : decode code 482 = .ok (.iload_n 3, 1) := by decide +kernel
theorem d_law_483 : decode code 483 = .ok (.iconst 1, 1) := by decide +kernel
theorem d_law_484 : decode code 484 = .ok (.iadd, 1) := by decide +kernel
theorem d_law_485 : decode code 485 = .ok (.iaload, 1) := by decide +kernel
theorem d_law_486 : decode code 486 = .ok (.aload_n 0, 1) := by decide +kernel
theorem d_law_487 : decode code 487 = .ok (.iload_n 3, 1) := by decide +kernel
theorem d_law_488 : decode code 488 = .ok (.iconst 2, 1) := by decide +kernel
theorem d_law_489 : decode code 489 = .ok (.iadd, 1) := by decide +kernel
theorem d_law_490 : decode code 490 = .ok (.iaload, 1) := by decide +kernel
theorem d_law_491 : decode code 491 = .ok (.invokevirtual 59, 3) := by decide +kernel
theorem d_law_494 : decode code 494 = .ok (.if_icmp .eq 218, 3) := by decide +kernel
theorem d_law_497 : decode code 497 = .ok (.iconst 0, 1) := by decide +kernel
theorem d_law_498 : decode code 498 = .ok (.ireturn, 1) := by decide +kernel
theorem d_law_499 : decode code 499 = .ok (.aload_n 1, 1) := by decide +kernel
theorem d_law_500 : decode code 500 = .ok (.aload_n 0, 1) := by decide +kernel
theorem d_law_501 : decode code 501 = .ok (.iload_n 3, 1) := by decide +kernel
theorem d_law_502 : decode code 502 = .ok (.iconst 1, 1) := by decide +kernel
theorem d_law_503 : decode code 503 = .ok (.iadd, 1) := by decide +kernel
theorem d_law_504 : decode code 504 = .ok (.iaload, 1) := by decide +kernel
theorem d_law_505 : decode code 505 = .ok (.aload_n 0, 1) := by decide +kernel
theorem d_law_506 : decode code 506 = .ok (.iload_n 3, 1) := by decide +kernel
theorem d_law_507 : decode code 507 = .ok (.iconst 2, 1) := by decide +kernel
theorem d_law_508 : decode code 508 = .ok (.iadd, 1) := by decide +kernel
theorem d_law_509 : decode code 509 = .ok (.iaload, 1) := by decide +kernel
theorem d_law_510 : decode code 510 = .ok (.invokevirtual 60, 3) := by decide +kernel
theorem d_law_513 : decode code 513 = .ok (.aload_n 2, 1) := by decide +kernel
theorem d_law_514 : decode code 514 = .ok (.aload_n 0, 1) := by decide +kernel
theorem d_law_515 : decode code 515 = .ok (.iload_n 3, 1) := by decide +kernel
theorem d_law_516 : decode code 516 = .ok (.iconst 1, 1) := by decide +kernel
theorem d_law_517 : decode code 517 = .ok (.iadd, 1) := by decide +kernel
theorem d_law_518 : decode code 518 = .ok (.iaload, 1) := by decide +kernel
theorem d_law_519 : decode code 519 = .ok (.aload_n 0, 1) := by decide +kernel
theorem d_law_520 : decode code 520 = .ok (.iload_n 3, 1) := by decide +kernel
theorem d_law_521 : decode code 521 = .ok (.iconst 2, 1) := by decide +kernel
theorem d_law_522 : decode code 522 = .ok (.iadd, 1) := by decide +kernel
theorem d_law_523 : decode code 523 = .ok (.iaload, 1) := by decide +kernel
theorem d_law_524 : decode code 524 = .ok (.invokevirtual 63, 3) := by decide +kernel
theorem d_law_527 : decode code 527 = .ok (.if_icmp .eq 185, 3) := by decide +kernel
theorem d_law_530 : decode code 530 = .ok (.iconst 0, 1) := by decide +kernel
theorem d_law_531 : decode code 531 = .ok (.ireturn, 1) := by decide +kernel
theorem d_law_532 : decode code 532 = .ok (.aload_n 1, 1) := by decide +kernel
theorem d_law_533 : decode code 533 = .ok (.aload_n 0, 1) := by decide +kernel
theorem d_law_534 : decode code 534 = .ok (.iload_n 3, 1) := by decide +kernel
theorem d_law_535 : decode code 535 = .ok (.iconst 1, 1) := by decide +kernel
theorem d_law_536 : decode code 536 = .ok (.iadd, 1) := by decide +kernel
theorem d_law_537 : decode code 537 = .ok (.iaload, 1) := by decide +kernel
theorem d_law_538 : decode code 538 = .ok (.invokevirtual 64, 3) := by decide +kernel
theorem d_law_541 : decode code 541 = .ok (.aload_n 2, 1) := by decide +kernel
theorem d_law_542 : decode code 542 = .ok (.aload_n 0, 1) := by decide +kernel
theorem d_law_543 : decode code 543 = .ok (.iload_n 3, 1) := by decide +kernel
theorem d_law_544 : decode code 544 = .ok (.iconst 1, 1) := by decide +kernel
theorem d_law_545 : decode code 545 = .ok (.iadd, 1) := by decide +kernel
theorem d_law_546 : decode code 546 = .ok (.iaload, 1) := by decide +kernel
theorem d_law_547 : decode code 547 = .ok (.invokevirtual 67, 3) := by decide +kernel
theorem d_law_550 : decode code 550 = .ok (.if_icmp .eq 162, 3) := by decide +kernel
theorem d_law_553 : decode code 553 = .ok (.iconst 0, 1) := by decide +kernel
theorem d_law_554 : decode code 554 = .ok (.ireturn, 1) := by decide +kernel
theorem d_law_555 : decode code 555 = .ok (.aload_n 1, 1) := by decide +kernel
theorem d_law_556 : decode code 556 = .ok (.aload_n 0, 1) := by decide +kernel
theorem d_law_557 : decode code 557 = .ok (.iload_n 3, 1) := by decide +kernel
theorem d_law_558 : decode code 558 = .ok (.iconst 1, 1) := by decide +kernel
theorem d_law_559 : decode code 559 = .ok (.iadd, 1) := by decide +kernel
theorem d_law_560 : decode code 560 = .ok (.iaload, 1) := by decide +kernel
theorem d_law_561 : decode code 561 = .ok (.invokevirtual 68, 3) := by decide +kernel
theorem d_law_564 : decode code 564 = .ok (.aload_n 2, 1) := by decide +kernel
theorem d_law_565 : decode code 565 = .ok (.aload_n 0, 1) := by decide +kernel
theorem d_law_566 : decode code 566 = .ok (.iload_n 3, 1) := by decide +kernel
theorem d_law_567 : decode code 567 = .ok (.iconst 1, 1) := by decide +kernel
theorem d_law_568 : decode code 568 = .ok (.iadd, 1) := by decide +kernel
theorem d_law_569 : decode code 569 = .ok (.iaload, 1) := by decide +kernel
theorem d_law_570 : decode code 570 = .ok (.invokevirtual 71, 3) := by decide +kernel
theorem d_law_573 : decode code 573 = .ok (.if_icmp .eq 139, 3) := by decide +kernel
theorem d_law_576 : decode code 576 = .ok (.iconst 0, 1) := by decide +kernel
theorem d_law_577 : decode code 577 = .ok (.ireturn, 1) := by decide +kernel
theorem d_law_578 : decode code 578 = .ok (.aload_n 1, 1) := by decide +kernel
theorem d_law_579 : decode code 579 = .ok (.invokevirtual 72, 3) := by decide +kernel
theorem d_law_582 : decode code 582 = .ok (.aload_n 2, 1) := by decide +kernel
theorem d_law_583 : decode code 583 = .ok (.invokevirtual 76, 3) := by decide +kernel
theorem d_law_586 : decode code 586 = .ok (.if_icmp .eq 126, 3) := by decide +kernel
theorem d_law_589 : decode code 589 = .ok (.iconst 0, 1) := by decide +kernel
theorem d_law_590 : decode code 590 = .ok (.ireturn, 1) := by decide +kernel
theorem d_law_591 : decode code 591 = .ok (.aload_n 1, 1) := by decide +kernel
theorem d_law_592 : decode code 592 = .ok (.invokevirtual 77, 3) := by decide +kernel
theorem d_law_595 : decode code 595 = .ok (.aload_n 2, 1) := by decide +kernel
theorem d_law_596 : decode code 596 = .ok (.invokevirtual 80, 3) := by decide +kernel
theorem d_law_599 : decode code 599 = .ok (.if_icmp .eq 113, 3) := by decide +kernel
theorem d_law_602 : decode code 602 = .ok (.iconst 0, 1) := by decide +kernel
theorem d_law_603 : decode code 603 = .ok (.ireturn, 1) := by decide +kernel
theorem d_law_604 : decode code 604 = .ok (.aload_n 1, 1) := by decide +kernel
theorem d_law_605 : decode code 605 = .ok (.invokevirtual 81, 3) := by decide +kernel
theorem d_law_608 : decode code 608 = .ok (.aload_n 2, 1) := by decide +kernel
theorem d_law_609 : decode code 609 = .ok (.invokevirtual 84, 3) := by decide +kernel
theorem d_law_612 : decode code 612 = .ok (.if_icmp .eq 100, 3) := by decide +kernel
theorem d_law_615 : decode code 615 = .ok (.iconst 0, 1) := by decide +kernel
theorem d_law_616 : decode code 616 = .ok (.ireturn, 1) := by decide +kernel
theorem d_law_617 : decode code 617 = .ok (.aload_n 1, 1) := by decide +kernel
theorem d_law_618 : decode code 618 = .ok (.aload_n 0, 1) := by decide +kernel
theorem d_law_619 : decode code 619 = .ok (.iload_n 3, 1) := by decide +kernel
theorem d_law_620 : decode code 620 = .ok (.iconst 1, 1) := by decide +kernel
theorem d_law_621 : decode code 621 = .ok (.iadd, 1) := by decide +kernel
theorem d_law_622 : decode code 622 = .ok (.iaload, 1) := by decide +kernel
theorem d_law_623 : decode code 623 = .ok (.invokevirtual 85, 3) := by decide +kernel
theorem d_law_626 : decode code 626 = .ok (.aload_n 2, 1) := by decide +kernel
theorem d_law_627 : decode code 627 = .ok (.aload_n 0, 1) := by decide +kernel
theorem d_law_628 : decode code 628 = .ok (.iload_n 3, 1) := by decide +kernel
theorem d_law_629 : decode code 629 = .ok (.iconst 1, 1) := by decide +kernel
theorem d_law_630 : decode code 630 = .ok (.iadd, 1) := by decide +kernel
theorem d_law_631 : decode code 631 = .ok (.iaload, 1) := by decide +kernel
theorem d_law_632 : decode code 632 = .ok (.invokevirtual 88, 3) := by decide +kernel
theorem d_law_635 : decode code 635 = .ok (.if_icmp .eq 77, 3) := by decide +kernel
theorem d_law_638 : decode code 638 = .ok (.iconst 0, 1) := by decide +kernel
theorem d_law_639 : decode code 639 = .ok (.ireturn, 1) := by decide +kernel
theorem d_law_640 : decode code 640 = .ok (.aload_n 1, 1) := by decide +kernel
theorem d_law_641 : decode code 641 = .ok (.invokevirtual 89, 3) := by decide +kernel
theorem d_law_644 : decode code 644 = .ok (.aload_n 2, 1) := by decide +kernel
theorem d_law_645 : decode code 645 = .ok (.invokevirtual 92, 3) := by decide +kernel
theorem d_law_648 : decode code 648 = .ok (.if_icmp .eq 64, 3) := by decide +kernel
theorem d_law_651 : decode code 651 = .ok (.iconst 0, 1) := by decide +kernel
theorem d_law_652 : decode code 652 = .ok (.ireturn, 1) := by decide +kernel
theorem d_law_653 : decode code 653 = .ok (.aload_n 1, 1) := by decide +kernel
theorem d_law_654 : decode code 654 = .ok (.aload_n 0, 1) := by decide +kernel
theorem d_law_655 : decode code 655 = .ok (.iload_n 3, 1) := by decide +kernel
theorem d_law_656 : decode code 656 = .ok (.iconst 1, 1) := by decide +kernel
theorem d_law_657 : decode code 657 = .ok (.iadd, 1) := by decide +kernel
theorem d_law_658 : decode code 658 = .ok (.iaload, 1) := by decide +kernel
theorem d_law_659 : decode code 659 = .ok (.invokevirtual 93, 3) := by decide +kernel
theorem d_law_662 : decode code 662 = .ok (.aload_n 2, 1) := by decide +kernel
theorem d_law_663 : decode code 663 = .ok (.aload_n 0, 1) := by decide +kernel
theorem d_law_664 : decode code 664 = .ok (.iload_n 3, 1) := by decide +kernel
theorem d_law_665 : decode code 665 = .ok (.iconst 1, 1) := by decide +kernel
theorem d_law_666 : decode code 666 = .ok (.iadd, 1) := by decide +kernel
theorem d_law_667 : decode code 667 = .ok (.iaload, 1) := by decide +kernel
theorem d_law_668 : decode code 668 = .ok (.invokevirtual 96, 3) := by decide +kernel
theorem d_law_671 : decode code 671 = .ok (.if_icmp .eq 41, 3) := by decide +kernel
theorem d_law_674 : decode code 674 = .ok (.iconst 0, 1) := by decide +kernel
theorem d_law_675 : decode code 675 = .ok (.ireturn, 1) := by decide +kernel
theorem d_law_676 : decode code 676 = .ok (.aload_n 1, 1) := by decide +kernel
theorem d_law_677 : decode code 677 = .ok (.aload_n 0, 1) := by decide +kernel
theorem d_law_678 : decode code 678 = .ok (.iload_n 3, 1) := by decide +kernel
theorem d_law_679 : decode code 679 = .ok (.iconst 1, 1) := by decide +kernel
theorem d_law_680 : decode code 680 = .ok (.iadd, 1) := by decide +kernel
theorem d_law_681 : decode code 681 = .ok (.iaload, 1) := by decide +kernel
theorem d_law_682 : decode code 682 = .ok (.invokevirtual 97, 3) := by decide +kernel
theorem d_law_685 : decode code 685 = .ok (.aload_n 2, 1) := by decide +kernel
theorem d_law_686 : decode code 686 = .ok (.aload_n 0, 1) := by decide +kernel
theorem d_law_687 : decode code 687 = .ok (.iload_n 3, 1) := by decide +kernel
theorem d_law_688 : decode code 688 = .ok (.iconst 1, 1) := by decide +kernel
theorem d_law_689 : decode code 689 = .ok (.iadd, 1) := by decide +kernel
theorem d_law_690 : decode code 690 = .ok (.iaload, 1) := by decide +kernel
theorem d_law_691 : decode code 691 = .ok (.invokevirtual 100, 3) := by decide +kernel
theorem d_law_694 : decode code 694 = .ok (.if_icmp .eq 18, 3) := by decide +kernel
theorem d_law_697 : decode code 697 = .ok (.iconst 0, 1) := by decide +kernel
theorem d_law_698 : decode code 698 = .ok (.ireturn, 1) := by decide +kernel
theorem d_law_699 : decode code 699 = .ok (.aload_n 1, 1) := by decide +kernel
theorem d_law_700 : decode code 700 = .ok (.invokevirtual 101, 3) := by decide +kernel
theorem d_law_703 : decode code 703 = .ok (.aload_n 2, 1) := by decide +kernel
theorem d_law_704 : decode code 704 = .ok (.invokevirtual 104, 3) := by decide +kernel
theorem d_law_707 : decode code 707 = .ok (.if_icmp .eq 5, 3) := by decide +kernel
theorem d_law_710 : decode code 710 = .ok (.iconst 0, 1) := by decide +kernel
theorem d_law_711 : decode code 711 = .ok (.ireturn, 1) := by decide +kernel
theorem d_law_712 : decode code 712 = .ok (.iinc 3 4, 3) := by decide +kernel
theorem d_law_715 : decode code 715 = .ok (.goto (-697), 3) := by decide +kernel
theorem d_law_718 : decode code 718 = .ok (.iconst 1, 1) := by decide +kernel
theorem d_law_719 : decode code 719 = .ok (.ireturn, 1) := by decide +kernel
end
section
/-! WHAT THE DOCUMENT SAYS, in whole numbers: n letters x 0, x 1 .., the settings g 0 .. g 4 -/
/-- how many letters from place n - k on are the same as those d places ahead -/
def lkF (n : Int) (x : Int → Int) (d : Int) : Nat → Int
  | 0 => 0
  | k + 1 => if x (n - (k + 1)) = x (n - (k + 1) - d) then lkF n x d k + 1 else 0
def lk (n : Int) (x : Int → Int) (p d : Int) : Int := lkF n x d (n - p).toNat
theorem lk_end {n : Int} {x : Int → Int} {p d : Int} (h : n ≤ p) : lk n x p d = 0 := by
  unfold lk
  rw [show (n - p).toNat = 0 by omega]
  rfl
theorem lk_step {n : Int} {x : Int → Int} {p d : Int} (h : p < n) : lk n x p d = if x p = x (p - d) then lk n x (p + 1) d + 1 else 0 := by
  unfold lk
  obtain ⟨k, hk⟩ : ∃ k : Nat, n - p = k + 1 := ⟨(n - p - 1).toNat, by omega⟩
  rw [show (n - p).toNat = k + 1 by omega, show (n - (p + 1)).toNat = k by omega]
  show (if x (n - (k + 1)) = x (n - (k + 1) - d) then lkF n x d k + 1 else 0) = _
  rw [show n - ((k : Int) + 1) = p by omega]
theorem lkF_bound (n : Int) (x : Int → Int) (d : Int) (k : Nat) : 0 ≤ lkF n x d k ∧ lkF n x d k ≤ k := by
  induction k with
  | zero => exact ⟨Int.le_refl _, Int.le_refl _⟩
  | succ k ih =>
    unfold lkF
    split <;> omega
theorem lk_nonneg (n : Int) (x : Int → Int) (p d : Int) : 0 ≤ lk n x p d := (lkF_bound n x d _).1
theorem lk_le {n : Int} {x : Int → Int} {p d : Int} (h : p ≤ n) : lk n x p d ≤ n - p := by
  have := (lkF_bound n x d (n - p).toNat).2
  unfold lk
  omega
theorem lk_eq {n : Int} {x : Int → Int} {p d : Int} (h : p < n) (he : x p = x (p - d)) : lk n x p d = lk n x (p + 1) d + 1 := by rw [lk_step h, if_pos he]
theorem lk_ne {n : Int} {x : Int → Int} {p d : Int} (h : p < n) (he : x p ≠ x (p - d)) : lk n x p d = 0 := by rw [lk_step h, if_neg he]
def b2i (b : Bool) : Int := if b = true then 1 else 0
/-- whether letter v is among the first k -/
def hasF (x : Int → Int) (v : Int) : Nat → Bool
  | 0 => false
  | k + 1 => hasF x v k || decide (x k = v)
theorem hasF_iff (x : Int → Int) (v : Int) (k : Nat) : hasF x v k = true ↔ ∃ j : Int, 0 ≤ j ∧ j < k ∧ x j = v := by
  induction k with
  | zero => exact ⟨fun h => absurd (show false = true from h) (by decide), fun ⟨j, h1, h2, _⟩ => absurd h2 (by omega)⟩
  | succ k ih =>
    unfold hasF
    rw [Bool.or_eq_true, ih, decide_eq_true_eq]
    constructor
    · rintro (⟨j, h1, h2, h3⟩ | h)
      · exact ⟨j, h1, by omega, h3⟩
      · exact ⟨k, by omega, by omega, h⟩
    · rintro ⟨j, h1, h2, h3⟩
      by_cases hj : j = k
      · subst hj; exact Or.inr h3
      · exact Or.inl ⟨j, h1, by omega, h3⟩
/-- how many of the letters below v are among the first k -/
def unlV (x : Int → Int) (k : Nat) : Nat → Int
  | 0 => 0
  | v + 1 => unlV x k v + b2i (hasF x v k)
def unl (n : Int) (x : Int → Int) : Int := unlV x n.toNat 8
theorem b2i_01 (b : Bool) : b2i b = 0 ∨ b2i b = 1 := by cases b <;> simp [b2i]
theorem unlV_bound (x : Int → Int) (k v : Nat) : 0 ≤ unlV x k v ∧ unlV x k v ≤ v := by
  induction v with
  | zero => exact ⟨Int.le_refl _, Int.le_refl _⟩
  | succ v ih =>
    unfold unlV
    have := b2i_01 (hasF x v k)
    omega
/-- the State at the cells k, k + 1, k + 2 holds n letters x and the settings g -/
def Sv (M : mI) (k : Nat) (n : Int) (x g : Int → Int) : Prop := M k 2 = n ∧ 0 ≤ n ∧ n ≤ 60 ∧ (∀ j, 0 ≤ j → j < n → M (k + 1) j = x j) ∧ ∀ j, 0 ≤ j → j < 5 → M (k + 2) j = g j
theorem Sv.to {M M' : mI} {k : Nat} {n : Int} {x g : Int → Int} (h : Sv M k n x g) (h0 : M' k = M k) (h1 : M' (k + 1) = M (k + 1)) (h2 : M' (k + 2) = M (k + 2)) : Sv M' k n x g := by
  obtain ⟨a, b, c, d, e⟩ := h
  exact ⟨by rw [h0]; exact a, b, c, fun j u v => by rw [h1]; exact d j u v, fun j u v => by rw [h2]; exact e j u v⟩
theorem St.kl {k : Nat} (h : St k) : k + 1 < 51 := by have := h.2.2.2.2.2; omega
theorem St.kg {k : Nat} (h : St k) : k + 2 < 51 := h.2.2.2.2.2
end
section
theorem c_WC_isIn {Γ : gX} {l : Launch} {M : mI} {a b c : Int} (ha : iR a) (hb : iR b) (hc : iR c) {R : mR} {K : Nat} : Cn Γ l i_WC_isIn R K [vI a, vI b, vI c] M (pI (fun r M' => r = (if b ≤ a ∧ a ≤ c then 1 else 0) ∧ M' = M)) := by
  refine cn_intro (L := [some (vI a), some (vI b), some (vI c)]) yo_WC_isIn.1 rfl (Nat.le_of_ble_eq_true rfl) rfl (fun X hX hR => ?_)
  refine g_iload_n hX d_WC_isIn_0 rfl ?_
  refine g_iload_n hX d_WC_isIn_1 rfl ?_
  refine g_icmp_lt 14 hX d_WC_isIn_2 (by decide) (by omega) (by omega) (fun h_2 => ?_) (fun h_2 => ?_)
  · refine g_iconst hX d_WC_isIn_14 ?_
    refine g_zret hX hR d_WC_isIn_15 (by omega) ?_
    exact ⟨by first | rw [if_pos (by omega)] | rw [if_neg (by omega)], rfl⟩
  · refine g_iload_n hX d_WC_isIn_5 rfl ?_
    refine g_iload_n hX d_WC_isIn_6 rfl ?_
    refine g_icmp_gt 14 hX d_WC_isIn_7 (by decide) (by omega) (by omega) (fun h_7 => ?_) (fun h_7 => ?_)
    · refine g_iconst hX d_WC_isIn_14 ?_
      refine g_zret hX hR d_WC_isIn_15 (by omega) ?_
      exact ⟨by first | rw [if_pos (by omega)] | rw [if_neg (by omega)], rfl⟩
    · refine g_iconst hX d_WC_isIn_10 ?_
      refine g_goto 15 hX d_WC_isIn_11 (by decide) ?_
      refine g_zret hX hR d_WC_isIn_15 (by omega) ?_
      exact ⟨by first | rw [if_pos (by omega)] | rw [if_neg (by omega)], rfl⟩
theorem c_WC_isLetter {Γ : gX} {l : Launch} {M : mI} {a : Int} (ha : iR a) : Cn Γ l i_WC_isLetter R0 51 [vI a] M (pI (fun r M' => r = (if 0 ≤ a ∧ a ≤ 7 then 1 else 0) ∧ M' = M)) := by
  refine cn_intro (L := [some (vI a)]) yo_WC_isLetter.1 rfl (Nat.le_of_ble_eq_true rfl) rfl (fun X hX hR => ?_)
  refine g_iload_n hX d_WC_isLetter_0 rfl ?_
  refine g_iconst hX d_WC_isLetter_1 ?_
  refine g_bipush hX d_WC_isLetter_2 rfl ?_
  refine g_callS hX yo_WC_isIn q_219 d_WC_isLetter_4 (c_WC_isIn ha (by omega) (by omega)) rfl rfl (by decide) (Nat.le_of_ble_eq_true rfl) ⟨Nat.zero_le _, Nat.zero_le _⟩ (k_int fun r_4 M_4 ir_4 hp_4 => ?_)
  obtain ⟨er_4, eM_4⟩ := hp_4; replace er_4 := er_4.symm; replace eM_4 := eM_4.symm; subst er_4; subst eM_4
  refine g_zret hX hR d_WC_isLetter_7 (by split <;> omega) ?_
  exact ⟨rfl, rfl⟩
theorem c_WC_isWay {Γ : gX} {l : Launch} {M : mI} {a : Int} (ha : iR a) : Cn Γ l i_WC_isWay R0 51 [vI a] M (pI (fun r M' => r = (if 0 ≤ a ∧ a ≤ 2 then 1 else 0) ∧ M' = M)) := by
  refine cn_intro (L := [some (vI a)]) yo_WC_isWay.1 rfl (Nat.le_of_ble_eq_true rfl) rfl (fun X hX hR => ?_)
  refine g_iload_n hX d_WC_isWay_0 rfl ?_
  refine g_iconst hX d_WC_isWay_1 ?_
  refine g_iconst hX d_WC_isWay_2 ?_
  refine g_callS hX yo_WC_isIn q_219 d_WC_isWay_3 (c_WC_isIn ha (by omega) (by omega)) rfl rfl (by decide) (Nat.le_of_ble_eq_true rfl) ⟨Nat.zero_le _, Nat.zero_le _⟩ (k_int fun r_3 M_3 ir_3 hp_3 => ?_)
  obtain ⟨er_3, eM_3⟩ := hp_3; replace er_3 := er_3.symm; replace eM_3 := eM_3.symm; subst er_3; subst eM_3
  refine g_zret hX hR d_WC_isWay_6 (by split <;> omega) ?_
  exact ⟨rfl, rfl⟩
theorem c_WC_at {Γ : gX} {l : Launch} {M : mI} {R : mR} {K k n : Nat} {i : Int} (hd : dsL[k]? = some (0, n)) (hk : k < K) (hi : 0 ≤ i ∧ i < n) : Cn Γ l i_WC_at R K [.ref (gb Γ + k), vI i] M (pI (fun r M' => r = M k i ∧ M' = M)) := by
  refine cn_intro (L := [some (.ref (gb Γ + k)), some (vI i)]) yo_WC_at.1 rfl (Nat.le_of_ble_eq_true rfl) rfl (fun X hX hR => ?_)
  have hn := ds_small k n hd
  refine g_iload_n hX d_WC_at_0 rfl ?_
  refine g_if_lt 16 hX d_WC_at_1 (by decide) (by omega) (fun h_1 => ?_) (fun h_1 => ?_)
  · exact absurd h_1 (by omega)
  · refine g_iload_n hX d_WC_at_4 rfl ?_
    refine g_aload_n hX d_WC_at_5 rfl ?_
    refine g_alen hX d_WC_at_6 ⟨hd, hk⟩ ?_
    refine g_icmp_ge 16 hX d_WC_at_7 (by decide) (by omega) (by omega) (fun h_7 => ?_) (fun h_7 => ?_)
    · exact absurd h_7 (by omega)
    · refine g_aload_n hX d_WC_at_10 rfl ?_
      refine g_iload_n hX d_WC_at_11 rfl ?_
      refine g_iald hX d_WC_at_12 ⟨hd, hk⟩ (by omega) (fun r_12 => ?_)
      refine g_goto 17 hX d_WC_at_13 (by decide) ?_
      refine g_iret hX hR d_WC_at_17 (by omega) ?_
      exact ⟨rfl, rfl⟩
theorem c_WC_store {Γ : gX} {l : Launch} {M : mI} {R : mR} {K k n : Nat} {i x : Int} (hd : dsL[k]? = some (0, n)) (hk : k < K) (hi : 0 ≤ i ∧ i < n) (hx : iR x) : Cn Γ l i_WC_store R K [.ref (gb Γ + k), vI i, vI x] M (pV (fun M' => M' = mU M k i x)) := by
  refine cn_intro (L := [some (.ref (gb Γ + k)), some (vI i), some (vI x)]) yo_WC_store.1 rfl (Nat.le_of_ble_eq_true rfl) rfl (fun X hX hR => ?_)
  have hn := ds_small k n hd
  refine g_iload_n hX d_WC_store_0 rfl ?_
  refine g_if_lt 14 hX d_WC_store_1 (by decide) (by omega) (fun h_1 => ?_) (fun h_1 => ?_)
  · exact absurd h_1 (by omega)
  · refine g_iload_n hX d_WC_store_4 rfl ?_
    refine g_aload_n hX d_WC_store_5 rfl ?_
    refine g_alen hX d_WC_store_6 ⟨hd, hk⟩ ?_
    refine g_icmp_ge 14 hX d_WC_store_7 (by decide) (by omega) (by omega) (fun h_7 => ?_) (fun h_7 => ?_)
    · exact absurd h_7 (by omega)
    · refine g_aload_n hX d_WC_store_10 rfl ?_
      refine g_iload_n hX d_WC_store_11 rfl ?_
      refine g_iload_n hX d_WC_store_12 rfl ?_
      refine g_iast hX d_WC_store_13 ⟨hd, hk⟩ (by omega) hx ?_
      refine g_vret hX hR d_WC_store_14 ?_
      rfl
theorem c_State_size {Γ : gX} {l : Launch} {M : mI} {k : Nat} (hs : St k) : Cn Γ l i_State_size R0 51 [.ref (gb Γ + k)] M (pI (fun r M' => r = M k 2 ∧ M' = M)) := by
  refine cn_intro (L := [some (.ref (gb Γ + k))]) yo_State_size.1 rfl (Nat.le_of_ble_eq_true rfl) rfl (fun X hX hR => ?_)
  refine g_aload_n hX d_State_size_0 rfl ?_
  refine g_getI hX fl_State_18 d_State_size_1 2 hs.d rfl rfl (fun r_1 => ?_)
  refine g_iret hX hR d_State_size_4 (by omega) ?_
  exact ⟨rfl, rfl⟩
theorem c_State_hasPlace {Γ : gX} {l : Launch} {M : mI} {k : Nat} {p : Int} (hs : St k) (hp : iR p) : Cn Γ l i_State_hasPlace R0 51 [.ref (gb Γ + k), vI p] M (pI (fun r M' => r = (if 0 ≤ p ∧ p < M k 2 then 1 else 0) ∧ M' = M)) := by
  refine cn_intro (L := [some (.ref (gb Γ + k)), some (vI p)]) yo_State_hasPlace.1 rfl (Nat.le_of_ble_eq_true rfl) rfl (fun X hX hR => ?_)
  refine g_iload_n hX d_State_hasPlace_0 rfl ?_
  refine g_if_lt 16 hX d_State_hasPlace_1 (by decide) (by omega) (fun h_1 => ?_) (fun h_1 => ?_)
  · refine g_iconst hX d_State_hasPlace_16 ?_
    refine g_zret hX hR d_State_hasPlace_17 (by omega) ?_
    exact ⟨by first | rw [if_pos (by omega)] | rw [if_neg (by omega)], rfl⟩
  · refine g_iload_n hX d_State_hasPlace_4 rfl ?_
    refine g_aload_n hX d_State_hasPlace_5 rfl ?_
    refine g_getI hX fl_State_18 d_State_hasPlace_6 2 hs.d rfl rfl (fun r_6 => ?_)
    refine g_icmp_ge 16 hX d_State_hasPlace_9 (by decide) (by omega) (by omega) (fun h_9 => ?_) (fun h_9 => ?_)
    · refine g_iconst hX d_State_hasPlace_16 ?_
      refine g_zret hX hR d_State_hasPlace_17 (by omega) ?_
      exact ⟨by first | rw [if_pos (by omega)] | rw [if_neg (by omega)], rfl⟩
    · refine g_iconst hX d_State_hasPlace_12 ?_
      refine g_goto 17 hX d_State_hasPlace_13 (by decide) ?_
      refine g_zret hX hR d_State_hasPlace_17 (by omega) ?_
      exact ⟨by first | rw [if_pos (by omega)] | rw [if_neg (by omega)], rfl⟩
theorem c_State_letterAt {Γ : gX} {l : Launch} {M : mI} {k : Nat} {p : Int} (hs : St k) (hp : 0 ≤ p ∧ p < 60) : Cn Γ l i_State_letterAt R0 51 [.ref (gb Γ + k), vI p] M (pI (fun r M' => r = M (k + 1) p ∧ M' = M)) := by
  refine cn_intro (L := [some (.ref (gb Γ + k)), some (vI p)]) yo_State_letterAt.1 rfl (Nat.le_of_ble_eq_true rfl) rfl (fun X hX hR => ?_)
  refine g_aload_n hX d_State_letterAt_0 rfl ?_
  refine g_getR hX fl_State_9 d_State_letterAt_1 hs.d hs.2.1 rfl ?_
  refine g_iload_n hX d_State_letterAt_4 rfl ?_
  refine g_callSN (host := "WindowCopies") hX yo_WC_at (by unfold nestWs; simp) d_State_letterAt_5 (c_WC_at hs.2.2.2.1 hs.kl hp) rfl rfl (by decide) (Nat.le_of_ble_eq_true rfl) ⟨Nat.zero_le _, Nat.zero_le _⟩ (k_int fun r_5 M_5 ir_5 hp_5 => ?_)
  obtain ⟨er_5, eM_5⟩ := hp_5; replace er_5 := er_5.symm; replace eM_5 := eM_5.symm; subst er_5; subst eM_5
  refine g_iret hX hR d_State_letterAt_8 (by omega) ?_
  exact ⟨rfl, rfl⟩
theorem c_State_changeLetter {Γ : gX} {l : Launch} {M : mI} {k : Nat} {p v : Int} (hs : St k) (hp : 0 ≤ p ∧ p < 60) (hv : iR v) : Cn Γ l i_State_changeLetter R0 51 [.ref (gb Γ + k), vI p, vI v] M (pV (fun M' => M' = mU M (k + 1) p v)) := by
  refine cn_intro (L := [some (.ref (gb Γ + k)), some (vI p), some (vI v)]) yo_State_changeLetter.1 rfl (Nat.le_of_ble_eq_true rfl) rfl (fun X hX hR => ?_)
  refine g_aload_n hX d_State_changeLetter_0 rfl ?_
  refine g_getR hX fl_State_9 d_State_changeLetter_1 hs.d hs.2.1 rfl ?_
  refine g_iload_n hX d_State_changeLetter_4 rfl ?_
  refine g_iload_n hX d_State_changeLetter_5 rfl ?_
  refine g_callSN (host := "WindowCopies") hX yo_WC_store (by unfold nestWs; simp) d_State_changeLetter_6 (c_WC_store hs.2.2.2.1 hs.kl hp hv) rfl rfl (by decide) (Nat.le_of_ble_eq_true rfl) ⟨Nat.zero_le _, Nat.zero_le _⟩ (k_void fun M_6 hp_6 => ?_)
  replace hp_6 := hp_6.symm; subst hp_6
  refine g_vret hX hR d_State_changeLetter_9 ?_
  rfl
theorem c_State_append {Γ : gX} {l : Launch} {M : mI} {k : Nat} {v : Int} (hs : St k) (h0 : 0 ≤ M k 2 ∧ M k 2 < 60) (hv : iR v) : Cn Γ l i_State_append R0 51 [.ref (gb Γ + k), vI v] M (pV (fun M' => M' = mU (mU M (k + 1) (M k 2) v) k 2 (M k 2 + 1))) := by
  refine cn_intro (L := [some (.ref (gb Γ + k)), some (vI v)]) yo_State_append.1 rfl (Nat.le_of_ble_eq_true rfl) rfl (fun X hX hR => ?_)
  refine g_aload_n hX d_State_append_0 rfl ?_
  refine g_getI hX fl_State_18 d_State_append_1 2 hs.d rfl rfl (fun r_1 => ?_)
  refine g_bipush hX d_State_append_4 rfl ?_
  refine g_icmp_ge 31 hX d_State_append_6 (by decide) (by omega) (by omega) (fun h_6 => ?_) (fun h_6 => ?_)
  · exact absurd h_6 (by omega)
  · refine g_aload_n hX d_State_append_9 rfl ?_
    refine g_getR hX fl_State_9 d_State_append_10 hs.d hs.2.1 rfl ?_
    refine g_aload_n hX d_State_append_13 rfl ?_
    refine g_getI hX fl_State_18 d_State_append_14 2 hs.d rfl rfl (fun r_14 => ?_)
    refine g_iload_n hX d_State_append_17 rfl ?_
    refine g_callSN (host := "WindowCopies") hX yo_WC_store (by unfold nestWs; simp) d_State_append_18 (c_WC_store hs.2.2.2.1 hs.kl (by omega) hv) rfl rfl (by decide) (Nat.le_of_ble_eq_true rfl) ⟨Nat.zero_le _, Nat.zero_le _⟩ (k_void fun M_18 hp_18 => ?_)
    replace hp_18 := hp_18.symm; subst hp_18
    refine g_aload_n hX d_State_append_21 rfl ?_
    refine g_dup hX d_State_append_22 rfl ?_
    refine g_getI hX fl_State_18 d_State_append_23 2 hs.d rfl rfl (fun r_23 => ?_)
    have e23 : mU M (k + 1) (M k 2) v k 2 = M k 2 := by rw [mU_cell (by omega)]
    rw [e23]
    refine g_iconst hX d_State_append_26 ?_
    refine g_iadd hX d_State_append_27 ?_
    refine g_putI hX fl_State_18 d_State_append_28 2 hs.d rfl rfl (fun q h => by cases h; rfl) rfl (by omega) ?_
    refine g_vret hX hR d_State_append_31 ?_
    rfl
theorem c_State_shorten {Γ : gX} {l : Launch} {M : mI} {k : Nat} {v : Int} (hs : St k) (hv : 0 ≤ v ∧ v ≤ 60) (h0 : 0 ≤ M k 2 ∧ M k 2 ≤ 60) : Cn Γ l i_State_shorten R0 51 [.ref (gb Γ + k), vI v] M (pV (fun M' => M' = mU M k 2 (max 0 (M k 2 - v)))) := by
  refine cn_intro (L := [some (.ref (gb Γ + k)), some (vI v)]) yo_State_shorten.1 rfl (Nat.le_of_ble_eq_true rfl) rfl (fun X hX hR => ?_)
  refine g_aload_n hX d_State_shorten_0 rfl ?_
  refine g_iconst hX d_State_shorten_1 ?_
  refine g_aload_n hX d_State_shorten_2 rfl ?_
  refine g_getI hX fl_State_18 d_State_shorten_3 2 hs.d rfl rfl (fun r_3 => ?_)
  refine g_iload_n hX d_State_shorten_6 rfl ?_
  refine g_isub hX d_State_shorten_7 ?_
  refine g_max hX d_State_shorten_8 q_275 (by omega) (by omega) (by decide) (Nat.le_of_ble_eq_true rfl) ⟨Nat.zero_le _, Nat.zero_le _⟩ ?_
  refine g_putI hX fl_State_18 d_State_shorten_11 2 hs.d rfl rfl (fun q h => by cases h; rfl) rfl (by omega) ?_
  refine g_vret hX hR d_State_shorten_14 ?_
  rfl
theorem c_State_setting {Γ : gX} {l : Launch} {M : mI} {k : Nat} {p : Int} (hs : St k) (hp : 0 ≤ p ∧ p < 5) : Cn Γ l i_State_setting R0 51 [.ref (gb Γ + k), vI p] M (pI (fun r M' => r = M (k + 2) p ∧ M' = M)) := by
  refine cn_intro (L := [some (.ref (gb Γ + k)), some (vI p)]) yo_State_setting.1 rfl (Nat.le_of_ble_eq_true rfl) rfl (fun X hX hR => ?_)
  refine g_aload_n hX d_State_setting_0 rfl ?_
  refine g_getR hX fl_State_15 d_State_setting_1 hs.d hs.2.2.1 rfl ?_
  refine g_iload_n hX d_State_setting_4 rfl ?_
  refine g_callSN (host := "WindowCopies") hX yo_WC_at (by unfold nestWs; simp) d_State_setting_5 (c_WC_at hs.2.2.2.2.1 hs.kg hp) rfl rfl (by decide) (Nat.le_of_ble_eq_true rfl) ⟨Nat.zero_le _, Nat.zero_le _⟩ (k_int fun r_5 M_5 ir_5 hp_5 => ?_)
  obtain ⟨er_5, eM_5⟩ := hp_5; replace er_5 := er_5.symm; replace eM_5 := eM_5.symm; subst er_5; subst eM_5
  refine g_iret hX hR d_State_setting_8 (by omega) ?_
  exact ⟨rfl, rfl⟩
theorem c_State_changeSetting {Γ : gX} {l : Launch} {M : mI} {k : Nat} {p v : Int} (hs : St k) (hp : 0 ≤ p ∧ p < 5) (hv : iR v) : Cn Γ l i_State_changeSetting R0 51 [.ref (gb Γ + k), vI p, vI v] M (pV (fun M' => M' = mU M (k + 2) p v)) := by
  refine cn_intro (L := [some (.ref (gb Γ + k)), some (vI p), some (vI v)]) yo_State_changeSetting.1 rfl (Nat.le_of_ble_eq_true rfl) rfl (fun X hX hR => ?_)
  refine g_aload_n hX d_State_changeSetting_0 rfl ?_
  refine g_getR hX fl_State_15 d_State_changeSetting_1 hs.d hs.2.2.1 rfl ?_
  refine g_iload_n hX d_State_changeSetting_4 rfl ?_
  refine g_iload_n hX d_State_changeSetting_5 rfl ?_
  refine g_callSN (host := "WindowCopies") hX yo_WC_store (by unfold nestWs; simp) d_State_changeSetting_6 (c_WC_store hs.2.2.2.2.1 hs.kg hp hv) rfl rfl (by decide) (Nat.le_of_ble_eq_true rfl) ⟨Nat.zero_le _, Nat.zero_le _⟩ (k_void fun M_6 hp_6 => ?_)
  replace hp_6 := hp_6.symm; subst hp_6
  refine g_vret hX hR d_State_changeSetting_9 ?_
  rfl
theorem c_State_savingOf {Γ : gX} {l : Launch} {M : mI} {k : Nat} {v : Int} (hs : St k) (hv : iR (v * M (k + 2) 3 - M (k + 2) 4)) : Cn Γ l i_State_savingOf R0 51 [.ref (gb Γ + k), vI v] M (pI (fun r M' => r = v * M (k + 2) 3 - M (k + 2) 4 ∧ M' = M)) := by
  refine cn_intro (L := [some (.ref (gb Γ + k)), some (vI v)]) yo_State_savingOf.1 rfl (Nat.le_of_ble_eq_true rfl) rfl (fun X hX hR => ?_)
  refine g_iload_n hX d_State_savingOf_0 rfl ?_
  refine g_aload_n hX d_State_savingOf_1 rfl ?_
  refine g_iconst hX d_State_savingOf_2 ?_
  refine g_callV hX yo_State_setting q_255 d_State_savingOf_3 (c_State_setting hs (by omega)) rfl rfl hs.d rfl (by decide) (Nat.le_of_ble_eq_true rfl) ⟨Nat.zero_le _, Nat.zero_le _⟩ (k_int fun r_3 M_3 ir_3 hp_3 => ?_)
  obtain ⟨er_3, eM_3⟩ := hp_3; replace er_3 := er_3.symm; replace eM_3 := eM_3.symm; subst er_3; subst eM_3
  refine g_imul hX d_State_savingOf_6 ?_
  refine g_aload_n hX d_State_savingOf_7 rfl ?_
  refine g_iconst hX d_State_savingOf_8 ?_
  refine g_callV hX yo_State_setting q_255 d_State_savingOf_9 (c_State_setting hs (by omega)) rfl rfl hs.d rfl (by decide) (Nat.le_of_ble_eq_true rfl) ⟨Nat.zero_le _, Nat.zero_le _⟩ (k_int fun r_9 M_9 ir_9 hp_9 => ?_)
  obtain ⟨er_9, eM_9⟩ := hp_9; replace er_9 := er_9.symm; replace eM_9 := eM_9.symm; subst er_9; subst eM_9
  refine g_isub hX d_State_savingOf_12 ?_
  refine g_iret hX hR d_State_savingOf_13 hv ?_
  exact ⟨rfl, rfl⟩
theorem c_State_likeLength {Γ : gX} {l : Launch} {M : mI} {k : Nat} {n f p : Int} {x g : Int → Int} (hs : St k) (hv : Sv M k n x g) (hf : 0 ≤ f ∧ f ≤ p) (hp : p ≤ n) : Cn Γ l i_State_likeLength R0 51 [.ref (gb Γ + k), vI f, vI p] M (pI (fun r M' => r = lk n x p (p - f) ∧ M' = M)) := by
  refine cn_intro (L := [some (.ref (gb Γ + k)), some (vI f), some (vI p), none]) yo_State_likeLength.1 rfl (Nat.le_of_ble_eq_true rfl) rfl (fun X hX hR => ?_)
  obtain ⟨v1, v2, v3, v4, v5⟩ := hv
  have LOOP : ∀ (q : Nat) (i : Int), (n - (p + i)).toNat = q → 0 ≤ i → p + i ≤ n → lk n x p (p - f) = i + lk n x (p + i) (p - f) → G Γ X 4 (R0, 51, 0, 0) 2 [some (.ref (gb Γ + k)), some (vI f), some (vI p), some (vI i)] [] M := by
    intro q
    induction q with
    | zero =>
      intro i hq h0 h1 h2
      refine g_iload_n hX d_State_likeLength_2 rfl ?_
      refine g_iload_n hX d_State_likeLength_3 rfl ?_
      refine g_iadd hX d_State_likeLength_4 ?_
      refine g_aload_n hX d_State_likeLength_5 rfl ?_
      refine g_getI hX fl_State_18 d_State_likeLength_6 2 hs.d rfl rfl (fun r_6 => ?_)
      refine g_icmp_ge 35 hX d_State_likeLength_9 (by decide) (by omega) (by omega) (fun h_9 => ?_) (fun h_9 => ?_)
      · refine g_iload_n hX d_State_likeLength_35 rfl ?_
        refine g_iret hX hR d_State_likeLength_36 (by omega) ?_
        refine ⟨?_, rfl⟩
        rw [h2, lk_end (by omega)]; omega
      · exact absurd h_9 (by omega)
    | succ q ih =>
      intro i hq h0 h1 h2
      refine g_iload_n hX d_State_likeLength_2 rfl ?_
      refine g_iload_n hX d_State_likeLength_3 rfl ?_
      refine g_iadd hX d_State_likeLength_4 ?_
      refine g_aload_n hX d_State_likeLength_5 rfl ?_
      refine g_getI hX fl_State_18 d_State_likeLength_6 2 hs.d rfl rfl (fun r_6 => ?_)
      refine g_icmp_ge 35 hX d_State_likeLength_9 (by decide) (by omega) (by omega) (fun h_9 => ?_) (fun h_9 => ?_)
      · exact absurd h_9 (by omega)
      · refine g_aload_n hX d_State_likeLength_12 rfl ?_
        refine g_iload_n hX d_State_likeLength_13 rfl ?_
        refine g_iload_n hX d_State_likeLength_14 rfl ?_
        refine g_iadd hX d_State_likeLength_15 ?_
        refine g_callV hX yo_State_letterAt q_247 d_State_likeLength_16 (c_State_letterAt hs (by omega)) rfl rfl hs.d rfl (by decide) (Nat.le_of_ble_eq_true rfl) ⟨Nat.zero_le _, Nat.zero_le _⟩ (k_int fun r_16 M_16 ir_16 hp_16 => ?_)
        obtain ⟨er_16, eM_16⟩ := hp_16; replace er_16 := er_16.symm; replace eM_16 := eM_16.symm; subst er_16; subst eM_16
        refine g_aload_n hX d_State_likeLength_19 rfl ?_
        refine g_iload_n hX d_State_likeLength_20 rfl ?_
        refine g_iload_n hX d_State_likeLength_21 rfl ?_
        refine g_iadd hX d_State_likeLength_22 ?_
        refine g_callV hX yo_State_letterAt q_247 d_State_likeLength_23 (c_State_letterAt hs (by omega)) rfl rfl hs.d rfl (by decide) (Nat.le_of_ble_eq_true rfl) ⟨Nat.zero_le _, Nat.zero_le _⟩ (k_int fun r_23 M_23 ir_23 hp_23 => ?_)
        obtain ⟨er_23, eM_23⟩ := hp_23; replace er_23 := er_23.symm; replace eM_23 := eM_23.symm; subst er_23; subst eM_23
        rw [v4 (f + i) (by omega) (by omega), v4 (p + i) (by omega) (by omega)] at *
        refine g_icmp_ne 35 hX d_State_likeLength_26 (by decide) (by omega) (by omega) (fun h_26 => ?_) (fun h_26 => ?_)
        · refine g_iload_n hX d_State_likeLength_35 rfl ?_
          refine g_iret hX hR d_State_likeLength_36 (by omega) ?_
          refine ⟨?_, rfl⟩
          rw [h2, lk_ne (by omega) (by rw [show p + i - (p - f) = f + i by omega]; exact fun z => h_26 z.symm)]; omega
        · refine g_iinc hX d_State_likeLength_29 rfl (by decide) ?_
          refine g_goto 2 hX d_State_likeLength_32 (by decide) ?_
          exact ih (i + 1) (by omega) (by omega) (by omega) (by rw [h2, lk_eq (by omega) (by rw [show p + i - (p - f) = f + i by omega]; exact h_26.symm), show p + (i + 1) = p + i + 1 by omega]; omega)
  refine g_iconst hX d_State_likeLength_0 ?_
  refine g_istore_n hX d_State_likeLength_1 (by decide) ?_
  exact LOOP _ 0 rfl (by omega) (by omega) (by rw [show p + 0 = p by omega]; omega)
theorem c_State_holds {Γ : gX} {l : Launch} {M : mI} {k : Nat} {n v : Int} {x g : Int → Int} (hs : St k) (hv : Sv M k n x g) (hi : iR v) : Cn Γ l i_State_holds R0 51 [.ref (gb Γ + k), vI v] M (pI (fun r M' => r = b2i (hasF x v n.toNat) ∧ M' = M)) := by
  refine cn_intro (L := [some (.ref (gb Γ + k)), some (vI v), none]) yo_State_holds.1 rfl (Nat.le_of_ble_eq_true rfl) rfl (fun X hX hR => ?_)
  obtain ⟨v1, v2, v3, v4, v5⟩ := hv
  have LOOP : ∀ (q : Nat) (i : Nat), n - i = q → hasF x v i = false → G Γ X 3 (R0, 51, 0, 0) 2 [some (.ref (gb Γ + k)), some (vI v), some (vI i)] [] M := by
    intro q
    induction q with
    | zero =>
      intro i hq h0
      refine g_iload_n hX d_State_holds_2 rfl ?_
      refine g_aload_n hX d_State_holds_3 rfl ?_
      refine g_getI hX fl_State_18 d_State_holds_4 2 hs.d rfl rfl (fun r_4 => ?_)
      refine g_icmp_ge 27 hX d_State_holds_7 (by decide) (by omega) (by omega) (fun h_7 => ?_) (fun h_7 => ?_)
      · refine g_iconst hX d_State_holds_27 ?_
        refine g_zret hX hR d_State_holds_28 (by omega) ?_
        refine ⟨?_, rfl⟩
        rw [show n.toNat = i by omega, h0]; rfl
      · exact absurd h_7 (by omega)
    | succ q ih =>
      intro i hq h0
      refine g_iload_n hX d_State_holds_2 rfl ?_
      refine g_aload_n hX d_State_holds_3 rfl ?_
      refine g_getI hX fl_State_18 d_State_holds_4 2 hs.d rfl rfl (fun r_4 => ?_)
      refine g_icmp_ge 27 hX d_State_holds_7 (by decide) (by omega) (by omega) (fun h_7 => ?_) (fun h_7 => ?_)
      · exact absurd h_7 (by omega)
      · refine g_aload_n hX d_State_holds_10 rfl ?_
        refine g_iload_n hX d_State_holds_11 rfl ?_
        refine g_callV hX yo_State_letterAt q_247 d_State_holds_12 (c_State_letterAt hs (by omega)) rfl rfl hs.d rfl (by decide) (Nat.le_of_ble_eq_true rfl) ⟨Nat.zero_le _, Nat.zero_le _⟩ (k_int fun r_12 M_12 ir_12 hp_12 => ?_)
        obtain ⟨er_12, eM_12⟩ := hp_12; replace er_12 := er_12.symm; replace eM_12 := eM_12.symm; subst er_12; subst eM_12
        rw [v4 i (by omega) (by omega)] at *
        refine g_iload_n hX d_State_holds_15 rfl ?_
        refine g_icmp_ne 21 hX d_State_holds_16 (by decide) (by omega) (by omega) (fun h_16 => ?_) (fun h_16 => ?_)
        · refine g_iinc hX d_State_holds_21 rfl (by decide) ?_
          refine g_goto 2 hX d_State_holds_24 (by decide) ?_
          exact ih (i + 1) (by omega) (by unfold hasF; rw [h0]; simp [h_16])
        · refine g_iconst hX d_State_holds_19 ?_
          refine g_zret hX hR d_State_holds_20 (by omega) ?_
          refine ⟨?_, rfl⟩
          rw [(hasF_iff x v n.toNat).mpr ⟨i, by omega, by omega, h_16⟩]; rfl
  refine g_iconst hX d_State_holds_0 ?_
  refine g_istore_n hX d_State_holds_1 (by decide) ?_
  exact LOOP n.toNat 0 (by omega) rfl
theorem c_State_unlikeLetters {Γ : gX} {l : Launch} {M : mI} {k : Nat} {n : Int} {x g : Int → Int} (hs : St k) (hv : Sv M k n x g) : Cn Γ l i_State_unlikeLetters R0 51 [.ref (gb Γ + k)] M (pI (fun r M' => r = unl n x ∧ M' = M)) := by
  refine cn_intro (L := [some (.ref (gb Γ + k)), none, none]) yo_State_unlikeLetters.1 rfl (Nat.le_of_ble_eq_true rfl) rfl (fun X hX hR => ?_)
  have LOOP : ∀ (q : Nat) (i : Nat), i + q = 8 → G Γ X 3 (R0, 51, 0, 0) 4 [some (.ref (gb Γ + k)), some (vI (unlV x n.toNat i)), some (vI i)] [] M := by
    intro q
    induction q with
    | zero =>
      intro i hq
      have hb := unlV_bound x n.toNat i
      refine g_iload_n hX d_State_unlikeLetters_4 rfl ?_
      refine g_bipush hX d_State_unlikeLetters_5 rfl ?_
      refine g_icmp_gt 27 hX d_State_unlikeLetters_7 (by decide) (by omega) (by omega) (fun h_7 => ?_) (fun h_7 => ?_)
      · refine g_iload_n hX d_State_unlikeLetters_27 rfl ?_
        refine g_iret hX hR d_State_unlikeLetters_28 (by omega) ?_
        refine ⟨?_, rfl⟩
        rw [show i = 8 by omega]; rfl
      · exact absurd h_7 (by omega)
    | succ q ih =>
      intro i hq
      have hb := unlV_bound x n.toNat i
      refine g_iload_n hX d_State_unlikeLetters_4 rfl ?_
      refine g_bipush hX d_State_unlikeLetters_5 rfl ?_
      refine g_icmp_gt 27 hX d_State_unlikeLetters_7 (by decide) (by omega) (by omega) (fun h_7 => ?_) (fun h_7 => ?_)
      · exact absurd h_7 (by omega)
      · refine g_aload_n hX d_State_unlikeLetters_10 rfl ?_
        refine g_iload_n hX d_State_unlikeLetters_11 rfl ?_
        refine g_callV hX yo_State_holds q_505 d_State_unlikeLetters_12 (c_State_holds hs hv (by omega)) rfl rfl hs.d rfl (by decide) (Nat.le_of_ble_eq_true rfl) ⟨Nat.zero_le _, Nat.zero_le _⟩ (k_int fun r_12 M_12 ir_12 hp_12 => ?_)
        obtain ⟨er_12, eM_12⟩ := hp_12; replace er_12 := er_12.symm; replace eM_12 := eM_12.symm; subst er_12; subst eM_12
        refine g_if_eq 21 hX d_State_unlikeLetters_15 (by decide) (by have := b2i_01 (hasF x i n.toNat); omega) (fun h_15 => ?_) (fun h_15 => ?_)
        · have e16 : unlV x n.toNat (i + 1) = unlV x n.toNat i + b2i (hasF x i n.toNat) := rfl
          have e15 : unlV x n.toNat i = unlV x n.toNat (i + 1) := by omega
          rw [e15]
          have e17 := e15
          try rw [e15]
          refine g_iinc hX d_State_unlikeLetters_21 rfl (by decide) ?_
          refine g_goto 4 hX d_State_unlikeLetters_24 (by decide) ?_
          exact ih (i + 1) (by omega)
        · have e16 : unlV x n.toNat (i + 1) = unlV x n.toNat i + b2i (hasF x i n.toNat) := rfl
          have e15 : unlV x n.toNat i + 1 = unlV x n.toNat (i + 1) := by have := b2i_01 (hasF x i n.toNat); omega
          refine g_iinc hX d_State_unlikeLetters_18 rfl (by decide) ?_
          have e17 := e15
          try rw [e15]
          refine g_iinc hX d_State_unlikeLetters_21 rfl (by decide) ?_
          refine g_goto 4 hX d_State_unlikeLetters_24 (by decide) ?_
          exact ih (i + 1) (by omega)
  refine g_iconst hX d_State_unlikeLetters_0 ?_
  refine g_istore_n hX d_State_unlikeLetters_1 (by decide) ?_
  refine g_iconst hX d_State_unlikeLetters_2 ?_
  refine g_istore_n hX d_State_unlikeLetters_3 (by decide) ?_
  exact LOOP 8 0 rfl
theorem c_State_copyRowFrom {Γ : gX} {l : Launch} {M : mI} {k o : Nat} {n : Int} {x g : Int → Int} (hs : St k) (ho : St o) (hko : o + 2 < k ∨ k + 2 < o) (hv : Sv M o n x g) : Cn Γ l i_State_copyRowFrom R0 51 [.ref (gb Γ + k), .ref (gb Γ + o)] M (pV (fun M' => M' k 2 = n ∧ (∀ j, 0 ≤ j → j < n → M' (k + 1) j = x j) ∧ ∀ a, a ≠ k → a ≠ k + 1 → M' a = M a)) := by
  refine cn_intro (L := [some (.ref (gb Γ + k)), some (.ref (gb Γ + o)), none]) yo_State_copyRowFrom.1 rfl (Nat.le_of_ble_eq_true rfl) rfl (fun X hX hR => ?_)
  obtain ⟨v1, v2, v3, v4, v5⟩ := hv
  have LOOP : ∀ (q : Nat) (i : Int) (M' : mI), (n - i).toNat = q → 0 ≤ i → i ≤ n → M' k 2 = n → (∀ j, 0 ≤ j → j < i → M' (k + 1) j = x j) → (∀ a, a ≠ k → a ≠ k + 1 → M' a = M a) → G Γ X 3 (R0, 51, 0, 0) 10 [some (.ref (gb Γ + k)), some (.ref (gb Γ + o)), some (vI i)] [] M' := by
    intro q
    induction q with
    | zero =>
      intro i M' hq h0 h1 h2 h3 h4
      refine g_iload_n hX d_State_copyRowFrom_10 rfl ?_
      refine g_aload_n hX d_State_copyRowFrom_11 rfl ?_
      refine g_getI hX fl_State_18 d_State_copyRowFrom_12 2 hs.d rfl rfl (fun r_12 => ?_)
      refine g_icmp_ge 34 hX d_State_copyRowFrom_15 (by decide) (by omega) (by omega) (fun h_15 => ?_) (fun h_15 => ?_)
      · refine g_vret hX hR d_State_copyRowFrom_34 ?_
        exact ⟨h2, fun j u v => h3 j u (by omega), h4⟩
      · exact absurd h_15 (by omega)
    | succ q ih =>
      intro i M' hq h0 h1 h2 h3 h4
      refine g_iload_n hX d_State_copyRowFrom_10 rfl ?_
      refine g_aload_n hX d_State_copyRowFrom_11 rfl ?_
      refine g_getI hX fl_State_18 d_State_copyRowFrom_12 2 hs.d rfl rfl (fun r_12 => ?_)
      refine g_icmp_ge 34 hX d_State_copyRowFrom_15 (by decide) (by omega) (by omega) (fun h_15 => ?_) (fun h_15 => ?_)
      · exact absurd h_15 (by omega)
      · refine g_aload_n hX d_State_copyRowFrom_18 rfl ?_
        refine g_iload_n hX d_State_copyRowFrom_19 rfl ?_
        refine g_aload_n hX d_State_copyRowFrom_20 rfl ?_
        refine g_iload_n hX d_State_copyRowFrom_21 rfl ?_
        refine g_callV hX yo_State_letterAt q_247 d_State_copyRowFrom_22 (c_State_letterAt ho (by omega)) rfl rfl ho.d rfl (by decide) (Nat.le_of_ble_eq_true rfl) ⟨Nat.zero_le _, Nat.zero_le _⟩ (k_int fun r_22 M_22 ir_22 hp_22 => ?_)
        obtain ⟨er_22, eM_22⟩ := hp_22; replace er_22 := er_22.symm; replace eM_22 := eM_22.symm; subst er_22; subst eM_22
        have e22 : M' (o + 1) i = x i := by rw [h4 (o + 1) (by omega) (by omega)]; exact v4 i (by omega) (by omega)
        rw [e22] at ir_22 ⊢
        refine g_callV hX yo_State_changeLetter q_251 d_State_copyRowFrom_25 (c_State_changeLetter hs (by omega) (by omega)) rfl rfl hs.d rfl (by decide) (Nat.le_of_ble_eq_true rfl) ⟨Nat.zero_le _, Nat.zero_le _⟩ (k_void fun M_25 hp_25 => ?_)
        replace hp_25 := hp_25.symm; subst hp_25
        refine g_iinc hX d_State_copyRowFrom_28 rfl (by decide) ?_
        refine g_goto 10 hX d_State_copyRowFrom_31 (by decide) ?_
        refine ih (i + 1) _ (by omega) (by omega) (by omega) ?_ (fun j u v => ?_) (fun a u v => ?_)
        · rw [mU_cell (by omega)]; exact h2
        · by_cases hj : j = i
          · subst hj; rw [mU_self]
          · rw [mU_slot hj]; exact h3 j u (by omega)
        · rw [mU_cell v]; exact h4 a u v
  refine g_aload_n hX d_State_copyRowFrom_0 rfl ?_
  refine g_aload_n hX d_State_copyRowFrom_1 rfl ?_
  refine g_callV hX yo_State_size q_246 d_State_copyRowFrom_2 (c_State_size ho) rfl rfl ho.d rfl (by decide) (Nat.le_of_ble_eq_true rfl) ⟨Nat.zero_le _, Nat.zero_le _⟩ (k_int fun r_2 M_2 ir_2 hp_2 => ?_)
  obtain ⟨er_2, eM_2⟩ := hp_2; replace er_2 := er_2.symm; replace eM_2 := eM_2.symm; subst er_2; subst eM_2
  refine g_putI hX fl_State_18 d_State_copyRowFrom_5 2 hs.d rfl rfl (fun q h => by cases h; rfl) rfl (by omega) ?_
  refine g_iconst hX d_State_copyRowFrom_8 ?_
  refine g_istore_n hX d_State_copyRowFrom_9 (by decide) ?_
  exact LOOP _ 0 _ rfl (by omega) (by omega) (by rw [mU_self]; exact v1) (fun j u v => by omega) (fun a u v => by rw [mU_cell u])
theorem c_State_copyFrom {Γ : gX} {l : Launch} {M : mI} {k o : Nat} {n : Int} {x g : Int → Int} (hs : St k) (ho : St o) (hko : o + 2 < k ∨ k + 2 < o) (hv : Sv M o n x g) : Cn Γ l i_State_copyFrom R0 51 [.ref (gb Γ + k), .ref (gb Γ + o)] M (pV (fun M' => Sv M' k n x g ∧ ∀ a, a ≠ k → a ≠ k + 1 → a ≠ k + 2 → M' a = M a)) := by
  refine cn_intro (L := [some (.ref (gb Γ + k)), some (.ref (gb Γ + o)), none]) yo_State_copyFrom.1 rfl (Nat.le_of_ble_eq_true rfl) rfl (fun X hX hR => ?_)
  obtain ⟨v1, v2, v3, v4, v5⟩ := id hv
  have LOOP : ∀ (q : Nat) (i : Int) (M' : mI), (5 - i).toNat = q → 0 ≤ i → i ≤ 5 → M' k 2 = n → (∀ j, 0 ≤ j → j < n → M' (k + 1) j = x j) → (∀ j, 0 ≤ j → j < i → M' (k + 2) j = g j) → (∀ a, a ≠ k → a ≠ k + 1 → a ≠ k + 2 → M' a = M a) → G Γ X 3 (R0, 51, 0, 0) 7 [some (.ref (gb Γ + k)), some (.ref (gb Γ + o)), some (vI i)] [] M' := by
    intro q
    induction q with
    | zero =>
      intro i M' hq h0 h1 h2 h3 h4 h5
      refine g_iload_n hX d_State_copyFrom_7 rfl ?_
      refine g_iconst hX d_State_copyFrom_8 ?_
      refine g_icmp_ge 28 hX d_State_copyFrom_9 (by decide) (by omega) (by omega) (fun h_9 => ?_) (fun h_9 => ?_)
      · refine g_vret hX hR d_State_copyFrom_28 ?_
        exact ⟨⟨h2, v2, v3, h3, fun j u v => h4 j u (by omega)⟩, h5⟩
      · exact absurd h_9 (by omega)
    | succ q ih =>
      intro i M' hq h0 h1 h2 h3 h4 h5
      refine g_iload_n hX d_State_copyFrom_7 rfl ?_
      refine g_iconst hX d_State_copyFrom_8 ?_
      refine g_icmp_ge 28 hX d_State_copyFrom_9 (by decide) (by omega) (by omega) (fun h_9 => ?_) (fun h_9 => ?_)
      · exact absurd h_9 (by omega)
      · refine g_aload_n hX d_State_copyFrom_12 rfl ?_
        refine g_iload_n hX d_State_copyFrom_13 rfl ?_
        refine g_aload_n hX d_State_copyFrom_14 rfl ?_
        refine g_iload_n hX d_State_copyFrom_15 rfl ?_
        refine g_callV hX yo_State_setting q_255 d_State_copyFrom_16 (c_State_setting ho (by omega)) rfl rfl ho.d rfl (by decide) (Nat.le_of_ble_eq_true rfl) ⟨Nat.zero_le _, Nat.zero_le _⟩ (k_int fun r_16 M_16 ir_16 hp_16 => ?_)
        obtain ⟨er_16, eM_16⟩ := hp_16; replace er_16 := er_16.symm; replace eM_16 := eM_16.symm; subst er_16; subst eM_16
        have e16 : M' (o + 2) i = g i := by rw [h5 (o + 2) (by omega) (by omega) (by omega)]; exact v5 i (by omega) (by omega)
        rw [e16] at ir_16 ⊢
        refine g_callV hX yo_State_changeSetting q_259 d_State_copyFrom_19 (c_State_changeSetting hs (by omega) (by omega)) rfl rfl hs.d rfl (by decide) (Nat.le_of_ble_eq_true rfl) ⟨Nat.zero_le _, Nat.zero_le _⟩ (k_void fun M_19 hp_19 => ?_)
        replace hp_19 := hp_19.symm; subst hp_19
        refine g_iinc hX d_State_copyFrom_22 rfl (by decide) ?_
        refine g_goto 7 hX d_State_copyFrom_25 (by decide) ?_
        refine ih (i + 1) _ (by omega) (by omega) (by omega) ?_ (fun j u v => ?_) (fun j u v => ?_) (fun a u v w => ?_)
        · rw [mU_cell (by omega)]; exact h2
        · rw [mU_cell (by omega)]; exact h3 j u v
        · by_cases hj : j = i
          · subst hj; rw [mU_self]
          · rw [mU_slot hj]; exact h4 j u (by omega)
        · rw [mU_cell w]; exact h5 a u v w
  refine g_aload_n hX d_State_copyFrom_0 rfl ?_
  refine g_aload_n hX d_State_copyFrom_1 rfl ?_
  refine g_callV hX yo_State_copyRowFrom q_242 d_State_copyFrom_2 (c_State_copyRowFrom hs ho hko hv) rfl rfl hs.d rfl (by decide) (Nat.le_of_ble_eq_true rfl) ⟨Nat.zero_le _, Nat.zero_le _⟩ (k_void fun M_2 hp_2 => ?_)
  obtain ⟨p1, p2, p3⟩ := hp_2
  refine g_iconst hX d_State_copyFrom_5 ?_
  refine g_istore_n hX d_State_copyFrom_6 (by decide) ?_
  exact LOOP _ 0 _ rfl (by omega) (by omega) p1 p2 (fun j u v => by omega) (fun a u v w => p3 a u v)
theorem c_State_appendCopy {Γ : gX} {l : Launch} {M : mI} {k : Nat} {n d c : Int} {x g : Int → Int} (hs : St k) (hv : Sv M k n x g) (hd : 1 ≤ d ∧ d ≤ n) (hc : 0 ≤ c ∧ n + c ≤ 60) : Cn Γ l i_State_appendCopy R0 51 [.ref (gb Γ + k), vI d, vI c] M (pV (fun M' => M' k 2 = n + c ∧ (∀ j, 0 ≤ j → j < n → M' (k + 1) j = x j) ∧ (∀ j, n ≤ j → j < n + c → M' (k + 1) j = M' (k + 1) (j - d)) ∧ ∀ a, a ≠ k → a ≠ k + 1 → M' a = M a)) := by
  refine cn_intro (L := [some (.ref (gb Γ + k)), some (vI d), some (vI c), none]) yo_State_appendCopy.1 rfl (Nat.le_of_ble_eq_true rfl) rfl (fun X hX hR => ?_)
  obtain ⟨v1, v2, v3, v4, v5⟩ := hv
  have LOOP : ∀ (q : Nat) (i : Int) (M' : mI), (c - i).toNat = q → 0 ≤ i → i ≤ c → M' k 2 = n + i → (∀ j, 0 ≤ j → j < n → M' (k + 1) j = x j) → (∀ j, n ≤ j → j < n + i → M' (k + 1) j = M' (k + 1) (j - d)) → (∀ a, a ≠ k → a ≠ k + 1 → M' a = M a) → G Γ X 4 (R0, 51, 0, 0) 2 [some (.ref (gb Γ + k)), some (vI d), some (vI c), some (vI i)] [] M' := by
    intro q
    induction q with
    | zero =>
      intro i M' hq h0 h1 h2 h3 h4 h5
      refine g_iload_n hX d_State_appendCopy_2 rfl ?_
      refine g_iload_n hX d_State_appendCopy_3 rfl ?_
      refine g_icmp_ge 27 hX d_State_appendCopy_4 (by decide) (by omega) (by omega) (fun h_4 => ?_) (fun h_4 => ?_)
      · refine g_vret hX hR d_State_appendCopy_27 ?_
        rw [show c = i by omega]; exact ⟨h2, h3, h4, h5⟩
      · exact absurd h_4 (by omega)
    | succ q ih =>
      intro i M' hq h0 h1 h2 h3 h4 h5
      refine g_iload_n hX d_State_appendCopy_2 rfl ?_
      refine g_iload_n hX d_State_appendCopy_3 rfl ?_
      refine g_icmp_ge 27 hX d_State_appendCopy_4 (by decide) (by omega) (by omega) (fun h_4 => ?_) (fun h_4 => ?_)
      · exact absurd h_4 (by omega)
      · refine g_aload_n hX d_State_appendCopy_7 rfl ?_
        refine g_aload_n hX d_State_appendCopy_8 rfl ?_
        refine g_aload_n hX d_State_appendCopy_9 rfl ?_
        refine g_getI hX fl_State_18 d_State_appendCopy_10 2 hs.d rfl rfl (fun r_10 => ?_)
        rw [h2] at r_10 ⊢
        refine g_iload_n hX d_State_appendCopy_13 rfl ?_
        refine g_isub hX d_State_appendCopy_14 ?_
        refine g_callV hX yo_State_letterAt q_247 d_State_appendCopy_15 (c_State_letterAt hs (by omega)) rfl rfl hs.d rfl (by decide) (Nat.le_of_ble_eq_true rfl) ⟨Nat.zero_le _, Nat.zero_le _⟩ (k_int fun r_15 M_15 ir_15 hp_15 => ?_)
        obtain ⟨er_15, eM_15⟩ := hp_15; replace er_15 := er_15.symm; replace eM_15 := eM_15.symm; subst er_15; subst eM_15
        refine g_callV hX yo_State_append q_633 d_State_appendCopy_18 (c_State_append hs (by omega) (by omega)) rfl rfl hs.d rfl (by decide) (Nat.le_of_ble_eq_true rfl) ⟨Nat.zero_le _, Nat.zero_le _⟩ (k_void fun M_18 hp_18 => ?_)
        replace hp_18 := hp_18.symm; subst hp_18
        refine g_iinc hX d_State_appendCopy_21 rfl (by decide) ?_
        refine g_goto 2 hX d_State_appendCopy_24 (by decide) ?_
        refine ih (i + 1) _ (by omega) (by omega) (by omega) ?_ (fun j u v => ?_) (fun j u v => ?_) (fun a u v => ?_)
        · rw [mU_self]; omega
        · rw [mU_cell (by omega), mU_slot (by omega)]; exact h3 j u v
        · rw [mU_cell (by omega), h2]
          by_cases hj : j = n + i
          · subst hj; rw [mU_self, mU_slot (by omega)]
          · rw [mU_slot hj, mU_slot (by omega)]; exact h4 j u (by omega)
        · rw [mU_cell u, mU_cell v]; exact h5 a u v
  refine g_iconst hX d_State_appendCopy_0 ?_
  refine g_istore_n hX d_State_appendCopy_1 (by decide) ?_
  exact LOOP _ 0 _ rfl (by omega) (by omega) (by omega) v4 (fun j u v => by omega) (fun a u v => rfl)
end
section
theorem lh_drop {ls : Array Slot} {nL : Nat} {L : List (Option Value)} (h : lh ls nL L) (i : Nat) : lh ls nL (L.set i none) := by
  refine ⟨h.1, fun j v hv => ?_, h.2.2⟩
  by_cases hj : i = j
  · subst hj
    by_cases hl : i < L.length
    · rw [List.getElem?_set_self hl] at hv; cases hv
    · rw [List.getElem?_eq_none (by simpa using hl)] at hv; cases hv
  · rw [List.getElem?_set_ne hj] at hv
    exact h.2.1 j v hv
/-- a local that nobody asks for any more -/
theorem g_drop {Γ : gX} {X : XT} {nL : Nat} {Z : ZT} {pc : Nat} {L : List (Option Value)} {st : List Value} {M : mI} (i : Nat) (k : G Γ X nL Z pc (L.set i none) st M) : G Γ X nL Z pc L st M :=
  fun H locs ls h1 h2 h3 h4 => k H locs ls h1 h2 h3 (lh_drop h4 i)
theorem Cn.mono {Γ : gX} {l : Launch} {i : yT} {R : mR} {K : Nat} {av : List Value} {M : mI} {P P' : Option Value → mI → Prop} (h : Cn Γ l i R K av M P) (hP : ∀ v M', P v M' → P' v M') : Cn Γ l i R K av M P' := by
  unfold Cn Met MetFree at h ⊢
  intro p e ha hc hk s m args below hf happ hPre hK
  obtain ⟨n, o, h1, h2, h3, ⟨⟨v, M', e1, e2, e3, e4⟩, hL⟩⟩ := h p e ha hc hk s m args below hf happ hPre hK
  exact ⟨n, o, h1, h2, h3, ⟨⟨v, M', e1, hP v M' e2, e3, e4⟩, hL⟩⟩
/-! Text -/
def Tv (M : mI) (t : List Int) : Prop := M 31 1 = (t.length : Int) ∧ t.length ≤ 120 ∧ ∀ (i : Nat) (c : Int), t[i]? = some c → M 32 i = c
theorem Tv.to {M M' : mI} {t : List Int} (h : Tv M t) (h0 : M' 31 = M 31) (h1 : M' 32 = M 32) : Tv M' t := by
  obtain ⟨a, b, c⟩ := h
  exact ⟨by rw [h0]; exact a, b, fun i v hv => by rw [h1]; exact c i v hv⟩
theorem Tv.app {M : mI} {t : List Int} (h : Tv M t) (hl : t.length < 120) (c : Int) : Tv (mU (mU M 32 (M 31 1) c) 31 1 (M 31 1 + 1)) (t ++ [c]) := by
  obtain ⟨h1, h2, h3⟩ := h
  refine ⟨?_, by simp; omega, fun i v hv => ?_⟩
  · rw [mU_self, h1]; simp
  · rw [mU_cell (by omega), h1]
    by_cases hi : i < t.length
    · rw [List.getElem?_append_left hi] at hv
      rw [mU_slot (by omega)]
      exact h3 i v hv
    · have hi2 : i = t.length := by
        have := (List.getElem?_eq_some_iff.mp hv).1
        simp at this
        omega
      subst hi2
      rw [mU_self]
      simpa using hv
def dg (v : Int) : List Int := if 10 ≤ v then [48 + v / 10, 48 + v % 10] else [48 + v % 10]
def cpS (d c : Int) : List Int := [40] ++ dg d ++ [44] ++ dg c ++ [41]
theorem dg_len (v : Int) : (dg v).length = if 10 ≤ v then 2 else 1 := by
  unfold dg
  split <;> rfl
theorem dg_len2 (v : Int) : 1 ≤ (dg v).length ∧ (dg v).length ≤ 2 := by
  rw [dg_len]
  split <;> omega
theorem cpS_len (d c : Int) : (cpS d c).length = 3 + (dg d).length + (dg c).length := by
  unfold cpS
  simp
  omega
theorem c_Text_size {Γ : gX} {l : Launch} {M : mI} : Cn Γ l i_Text_size R0 51 [.ref (gb Γ + 31)] M (pI (fun r M' => r = M 31 1 ∧ M' = M)) := by
  refine cn_intro (L := [some (.ref (gb Γ + 31))]) yo_Text_size.1 rfl (Nat.le_of_ble_eq_true rfl) rfl (fun X hX hR => ?_)
  refine g_aload_n hX d_Text_size_0 rfl ?_
  refine g_getI hX fl_Text_15 d_Text_size_1 1 ⟨rfl, by decide⟩ rfl rfl (fun r_1 => ?_)
  refine g_iret hX hR d_Text_size_4 (by omega) ?_
  exact ⟨rfl, rfl⟩
theorem c_Text_characterAt {Γ : gX} {l : Launch} {M : mI} {i : Int} (h0 : M 31 1 ≤ 120) (hi : 0 ≤ i ∧ i < 2147483648) : Cn Γ l i_Text_characterAt R0 51 [.ref (gb Γ + 31), vI i] M (pI (fun r M' => r = (if i < M 31 1 then M 32 i else -1) ∧ M' = M)) := by
  refine cn_intro (L := [some (.ref (gb Γ + 31)), some (vI i)]) yo_Text_characterAt.1 rfl (Nat.le_of_ble_eq_true rfl) rfl (fun X hX hR => ?_)
  refine g_iload_n hX d_Text_characterAt_0 rfl ?_
  refine g_aload_n hX d_Text_characterAt_1 rfl ?_
  refine g_getI hX fl_Text_15 d_Text_characterAt_2 1 ⟨rfl, by decide⟩ rfl rfl (fun r_2 => ?_)
  refine g_icmp_ge 19 hX d_Text_characterAt_5 (by decide) (by omega) (by omega) (fun h_5 => ?_) (fun h_5 => ?_)
  · refine g_iconst hX d_Text_characterAt_19 ?_
    refine g_iret hX hR d_Text_characterAt_20 (by omega) ?_
    exact ⟨by first | rw [if_pos (by omega)] | rw [if_neg (by omega)], rfl⟩
  · refine g_aload_n hX d_Text_characterAt_8 rfl ?_
    refine g_getR hX fl_Text_9 d_Text_characterAt_9 ⟨rfl, by decide⟩ rfl rfl ?_
    refine g_iload_n hX d_Text_characterAt_12 rfl ?_
    refine g_callSN (host := "WindowCopies") hX yo_WC_at (by unfold nestWs; simp) d_Text_characterAt_13 (c_WC_at (k := 32) rfl (by decide) (n := 120) (by omega)) rfl rfl (by decide) (Nat.le_of_ble_eq_true rfl) ⟨Nat.zero_le _, Nat.zero_le _⟩ (k_int fun r_13 M_13 ir_13 hp_13 => ?_)
    obtain ⟨er_13, eM_13⟩ := hp_13; replace er_13 := er_13.symm; replace eM_13 := eM_13.symm; subst er_13; subst eM_13
    refine g_goto 20 hX d_Text_characterAt_16 (by decide) ?_
    refine g_iret hX hR d_Text_characterAt_20 (by omega) ?_
    exact ⟨by first | rw [if_pos (by omega)] | rw [if_neg (by omega)], rfl⟩
theorem c_Text_empty {Γ : gX} {l : Launch} {M : mI} : Cn Γ l i_Text_empty R0 51 [.ref (gb Γ + 31)] M (pV (fun M' => M' = mU M 31 1 0)) := by
  refine cn_intro (L := [some (.ref (gb Γ + 31))]) yo_Text_empty.1 rfl (Nat.le_of_ble_eq_true rfl) rfl (fun X hX hR => ?_)
  refine g_aload_n hX d_Text_empty_0 rfl ?_
  refine g_iconst hX d_Text_empty_1 ?_
  refine g_putI hX fl_Text_15 d_Text_empty_2 1 ⟨rfl, by decide⟩ rfl rfl (fun q h => by cases h; rfl) rfl (by omega) ?_
  refine g_vret hX hR d_Text_empty_5 ?_
  rfl
theorem c_Text_append {Γ : gX} {l : Launch} {M : mI} {v : Int} (h0 : 0 ≤ M 31 1 ∧ M 31 1 < 120) (hv : iR v) : Cn Γ l i_Text_append R0 51 [.ref (gb Γ + 31), vI v] M (pV (fun M' => M' = mU (mU M 32 (M 31 1) v) 31 1 (M 31 1 + 1))) := by
  refine cn_intro (L := [some (.ref (gb Γ + 31)), some (vI v)]) yo_Text_append.1 rfl (Nat.le_of_ble_eq_true rfl) rfl (fun X hX hR => ?_)
  refine g_aload_n hX d_Text_append_0 rfl ?_
  refine g_getI hX fl_Text_15 d_Text_append_1 1 ⟨rfl, by decide⟩ rfl rfl (fun r_1 => ?_)
  refine g_bipush hX d_Text_append_4 rfl ?_
  refine g_icmp_ge 31 hX d_Text_append_6 (by decide) (by omega) (by omega) (fun h_6 => ?_) (fun h_6 => ?_)
  · exact absurd h_6 (by omega)
  · refine g_aload_n hX d_Text_append_9 rfl ?_
    refine g_getR hX fl_Text_9 d_Text_append_10 ⟨rfl, by decide⟩ rfl rfl ?_
    refine g_aload_n hX d_Text_append_13 rfl ?_
    refine g_getI hX fl_Text_15 d_Text_append_14 1 ⟨rfl, by decide⟩ rfl rfl (fun r_14 => ?_)
    refine g_iload_n hX d_Text_append_17 rfl ?_
    refine g_callSN (host := "WindowCopies") hX yo_WC_store (by unfold nestWs; simp) d_Text_append_18 (c_WC_store (k := 32) rfl (by decide) (n := 120) (by omega) hv) rfl rfl (by decide) (Nat.le_of_ble_eq_true rfl) ⟨Nat.zero_le _, Nat.zero_le _⟩ (k_void fun M_18 hp_18 => ?_)
    replace hp_18 := hp_18.symm; subst hp_18
    refine g_aload_n hX d_Text_append_21 rfl ?_
    refine g_dup hX d_Text_append_22 rfl ?_
    refine g_getI hX fl_Text_15 d_Text_append_23 1 ⟨rfl, by decide⟩ rfl rfl (fun r_23 => ?_)
    have e23 : mU M 32 (M 31 1) v 31 1 = M 31 1 := by rw [mU_cell (by omega)]
    rw [e23]
    refine g_iconst hX d_Text_append_26 ?_
    refine g_iadd hX d_Text_append_27 ?_
    refine g_putI hX fl_Text_15 d_Text_append_28 1 ⟨rfl, by decide⟩ rfl rfl (fun q h => by cases h; rfl) rfl (by omega) ?_
    refine g_vret hX hR d_Text_append_31 ?_
    rfl
/-- append, of texts -/
theorem c_Text_appendT {Γ : gX} {l : Launch} {M : mI} {v : Int} {t : List Int} (h : Tv M t) (hl : t.length < 120) (hv : iR v) : Cn Γ l i_Text_append R0 51 [.ref (gb Γ + 31), vI v] M (pV (fun M' => Tv M' (t ++ [v]) ∧ ∀ a, a ≠ 31 → a ≠ 32 → M' a = M a)) := by
  refine (c_Text_append (by have := h.1; omega) hv).mono ?_
  rintro w M' ⟨rfl, rfl⟩
  exact ⟨rfl, h.app hl v, fun a u w => by rw [mU_cell u, mU_cell w]⟩
theorem c_Text_appendNumber {Γ : gX} {l : Launch} {M : mI} {v : Int} {t : List Int} (h : Tv M t) (hv : 0 ≤ v ∧ v < 100) (hl : t.length + (dg v).length ≤ 120) : Cn Γ l i_Text_appendNumber R0 51 [.ref (gb Γ + 31), vI v] M (pV (fun M' => Tv M' (t ++ dg v) ∧ ∀ a, a ≠ 31 → a ≠ 32 → M' a = M a)) := by
  refine cn_intro (L := [some (.ref (gb Γ + 31)), some (vI v)]) yo_Text_appendNumber.1 rfl (Nat.le_of_ble_eq_true rfl) rfl (fun X hX hR => ?_)
  refine g_iload_n hX d_Text_appendNumber_0 rfl ?_
  refine g_bipush hX d_Text_appendNumber_1 rfl ?_
  refine g_icmp_lt 17 hX d_Text_appendNumber_3 (by decide) (by omega) (by omega) (fun h_3 => ?_) (fun h_3 => ?_)
  · have p1 : Tv M t := h
    have p2 : ∀ a, a ≠ 31 → a ≠ 32 → M a = M a := fun _ _ _ => rfl
    refine g_aload_n hX d_Text_appendNumber_17 rfl ?_
    refine g_bipush hX d_Text_appendNumber_18 rfl ?_
    refine g_iload_n hX d_Text_appendNumber_20 rfl ?_
    refine g_bipush hX d_Text_appendNumber_21 rfl ?_
    refine g_irem hX (by omega) (by decide) d_Text_appendNumber_23 ?_
    refine g_iadd hX d_Text_appendNumber_24 ?_
    refine g_callV hX yo_Text_append q_577 d_Text_appendNumber_25 (c_Text_appendT p1 (by rw [dg_len] at hl; split at hl <;> (try simp) <;> omega) (by omega)) rfl rfl ⟨rfl, by decide⟩ rfl (by decide) (Nat.le_of_ble_eq_true rfl) ⟨Nat.zero_le _, Nat.zero_le _⟩ (k_void fun M_25 hp_25 => ?_)
    obtain ⟨p3, p4⟩ := hp_25
    refine g_vret hX hR d_Text_appendNumber_28 ?_
    refine ⟨?_, fun a u w => by rw [p4 a u w, p2 a u w]⟩
    first | (rw [show dg v = [48 + v / 10, 48 + v % 10] by unfold dg; rw [if_pos (by omega)]]; simpa using p3) | (rw [show dg v = [48 + v % 10] by unfold dg; rw [if_neg (by omega)]]; exact p3)
  · refine g_aload_n hX d_Text_appendNumber_6 rfl ?_
    refine g_bipush hX d_Text_appendNumber_7 rfl ?_
    refine g_iload_n hX d_Text_appendNumber_9 rfl ?_
    refine g_bipush hX d_Text_appendNumber_10 rfl ?_
    refine g_idiv hX (by omega) (by decide) d_Text_appendNumber_12 ?_
    refine g_iadd hX d_Text_appendNumber_13 ?_
    refine g_callV hX yo_Text_append q_577 d_Text_appendNumber_14 (c_Text_appendT h (by rw [dg_len, if_pos (by omega)] at hl; omega) (by omega)) rfl rfl ⟨rfl, by decide⟩ rfl (by decide) (Nat.le_of_ble_eq_true rfl) ⟨Nat.zero_le _, Nat.zero_le _⟩ (k_void fun M_14 hp_14 => ?_)
    obtain ⟨p1, p2⟩ := hp_14
    refine g_aload_n hX d_Text_appendNumber_17 rfl ?_
    refine g_bipush hX d_Text_appendNumber_18 rfl ?_
    refine g_iload_n hX d_Text_appendNumber_20 rfl ?_
    refine g_bipush hX d_Text_appendNumber_21 rfl ?_
    refine g_irem hX (by omega) (by decide) d_Text_appendNumber_23 ?_
    refine g_iadd hX d_Text_appendNumber_24 ?_
    refine g_callV hX yo_Text_append q_577 d_Text_appendNumber_25 (c_Text_appendT p1 (by rw [dg_len] at hl; split at hl <;> (try simp) <;> omega) (by omega)) rfl rfl ⟨rfl, by decide⟩ rfl (by decide) (Nat.le_of_ble_eq_true rfl) ⟨Nat.zero_le _, Nat.zero_le _⟩ (k_void fun M_25 hp_25 => ?_)
    obtain ⟨p3, p4⟩ := hp_25
    refine g_vret hX hR d_Text_appendNumber_28 ?_
    refine ⟨?_, fun a u w => by rw [p4 a u w, p2 a u w]⟩
    first | (rw [show dg v = [48 + v / 10, 48 + v % 10] by unfold dg; rw [if_pos (by omega)]]; simpa using p3) | (rw [show dg v = [48 + v % 10] by unfold dg; rw [if_neg (by omega)]]; exact p3)
theorem c_Text_appendCopy {Γ : gX} {l : Launch} {M : mI} {d c : Int} {t : List Int} (h : Tv M t) (hd : 0 ≤ d ∧ d < 100) (hc : 0 ≤ c ∧ c < 100) (hl : t.length + (cpS d c).length ≤ 120) : Cn Γ l i_Text_appendCopy R0 51 [.ref (gb Γ + 31), vI d, vI c] M (pV (fun M' => Tv M' (t ++ cpS d c) ∧ ∀ a, a ≠ 31 → a ≠ 32 → M' a = M a)) := by
  refine cn_intro (L := [some (.ref (gb Γ + 31)), some (vI d), some (vI c)]) yo_Text_appendCopy.1 rfl (Nat.le_of_ble_eq_true rfl) rfl (fun X hX hR => ?_)
  rw [cpS_len] at hl
  have z1 := dg_len2 d
  have z2 := dg_len2 c
  refine g_aload_n hX d_Text_appendCopy_0 rfl ?_
  refine g_bipush hX d_Text_appendCopy_1 rfl ?_
  refine g_callV hX yo_Text_append q_577 d_Text_appendCopy_3 (c_Text_appendT h (by omega) (by omega)) rfl rfl ⟨rfl, by decide⟩ rfl (by decide) (Nat.le_of_ble_eq_true rfl) ⟨Nat.zero_le _, Nat.zero_le _⟩ (k_void fun M_3 hp_3 => ?_)
  obtain ⟨p1, p2⟩ := hp_3
  refine g_aload_n hX d_Text_appendCopy_6 rfl ?_
  refine g_iload_n hX d_Text_appendCopy_7 rfl ?_
  refine g_callV hX yo_Text_appendNumber q_578 d_Text_appendCopy_8 (c_Text_appendNumber p1 hd (by simp; omega)) rfl rfl ⟨rfl, by decide⟩ rfl (by decide) (Nat.le_of_ble_eq_true rfl) ⟨Nat.zero_le _, Nat.zero_le _⟩ (k_void fun M_8 hp_8 => ?_)
  obtain ⟨p3, p4⟩ := hp_8
  refine g_aload_n hX d_Text_appendCopy_11 rfl ?_
  refine g_bipush hX d_Text_appendCopy_12 rfl ?_
  refine g_callV hX yo_Text_append q_577 d_Text_appendCopy_14 (c_Text_appendT p3 (by simp; omega) (by omega)) rfl rfl ⟨rfl, by decide⟩ rfl (by decide) (Nat.le_of_ble_eq_true rfl) ⟨Nat.zero_le _, Nat.zero_le _⟩ (k_void fun M_14 hp_14 => ?_)
  obtain ⟨p5, p6⟩ := hp_14
  refine g_aload_n hX d_Text_appendCopy_17 rfl ?_
  refine g_iload_n hX d_Text_appendCopy_18 rfl ?_
  refine g_callV hX yo_Text_appendNumber q_578 d_Text_appendCopy_19 (c_Text_appendNumber p5 hc (by simp; omega)) rfl rfl ⟨rfl, by decide⟩ rfl (by decide) (Nat.le_of_ble_eq_true rfl) ⟨Nat.zero_le _, Nat.zero_le _⟩ (k_void fun M_19 hp_19 => ?_)
  obtain ⟨p7, p8⟩ := hp_19
  refine g_aload_n hX d_Text_appendCopy_22 rfl ?_
  refine g_bipush hX d_Text_appendCopy_23 rfl ?_
  refine g_callV hX yo_Text_append q_577 d_Text_appendCopy_25 (c_Text_appendT p7 (by simp; omega) (by omega)) rfl rfl ⟨rfl, by decide⟩ rfl (by decide) (Nat.le_of_ble_eq_true rfl) ⟨Nat.zero_le _, Nat.zero_le _⟩ (k_void fun M_25 hp_25 => ?_)
  obtain ⟨p9, p10⟩ := hp_25
  refine g_vret hX hR d_Text_appendCopy_28 ?_
  refine ⟨by unfold cpS; simpa using p9, fun a u w => by rw [p10 a u w, p8 a u w, p6 a u w, p4 a u w, p2 a u w]⟩
theorem c_Text_digitsOf {Γ : gX} {l : Launch} {M : mI} {v : Int} (hv : iR v) : Cn Γ l i_Text_digitsOf R0 51 [vI v] M (pI (fun r M' => r = ((dg v).length : Int) ∧ M' = M)) := by
  refine cn_intro (L := [some (vI v)]) yo_Text_digitsOf.1 rfl (Nat.le_of_ble_eq_true rfl) rfl (fun X hX hR => ?_)
  refine g_iload_n hX d_Text_digitsOf_0 rfl ?_
  refine g_bipush hX d_Text_digitsOf_1 rfl ?_
  refine g_icmp_lt 10 hX d_Text_digitsOf_3 (by decide) (by omega) (by omega) (fun h_3 => ?_) (fun h_3 => ?_)
  · refine g_iconst hX d_Text_digitsOf_10 ?_
    refine g_iret hX hR d_Text_digitsOf_11 (by omega) ?_
    refine ⟨?_, rfl⟩
    rw [dg_len]; split <;> omega
  · refine g_iconst hX d_Text_digitsOf_6 ?_
    refine g_goto 11 hX d_Text_digitsOf_7 (by decide) ?_
    refine g_iret hX hR d_Text_digitsOf_11 (by omega) ?_
    refine ⟨?_, rfl⟩
    rw [dg_len]; split <;> omega
theorem c_Text_charactersOfCopy {Γ : gX} {l : Launch} {M : mI} {d c : Int} (hd : iR d) (hc : iR c) : Cn Γ l i_Text_charactersOfCopy R0 51 [vI d, vI c] M (pI (fun r M' => r = ((cpS d c).length : Int) ∧ M' = M)) := by
  refine cn_intro (L := [some (vI d), some (vI c), none]) yo_Text_charactersOfCopy.1 rfl (Nat.le_of_ble_eq_true rfl) rfl (fun X hX hR => ?_)
  refine g_iconst hX d_Text_charactersOfCopy_0 ?_
  refine g_istore_n hX d_Text_charactersOfCopy_1 (by decide) ?_
  refine g_iload_n hX d_Text_charactersOfCopy_2 rfl ?_
  refine g_iload_n hX d_Text_charactersOfCopy_3 rfl ?_
  refine g_callS hX yo_Text_digitsOf q_570 d_Text_charactersOfCopy_4 (c_Text_digitsOf hd) rfl rfl (by decide) (Nat.le_of_ble_eq_true rfl) ⟨Nat.zero_le _, Nat.zero_le _⟩ (k_int fun r_4 M_4 ir_4 hp_4 => ?_)
  obtain ⟨er_4, eM_4⟩ := hp_4; replace er_4 := er_4.symm; replace eM_4 := eM_4.symm; subst er_4; subst eM_4
  refine g_iadd hX d_Text_charactersOfCopy_7 ?_
  refine g_iload_n hX d_Text_charactersOfCopy_8 rfl ?_
  refine g_callS hX yo_Text_digitsOf q_570 d_Text_charactersOfCopy_9 (c_Text_digitsOf hc) rfl rfl (by decide) (Nat.le_of_ble_eq_true rfl) ⟨Nat.zero_le _, Nat.zero_le _⟩ (k_int fun r_9 M_9 ir_9 hp_9 => ?_)
  obtain ⟨er_9, eM_9⟩ := hp_9; replace er_9 := er_9.symm; replace eM_9 := eM_9.symm; subst er_9; subst eM_9
  refine g_iadd hX d_Text_charactersOfCopy_12 ?_
  refine g_iret hX hR d_Text_charactersOfCopy_13 (by have z1 := dg_len2 d; have z2 := dg_len2 c; omega) ?_
  refine ⟨?_, rfl⟩
  rw [cpS_len]; omega
/-! History -/
abbrev sS : Type := Int × (Int → Int) × (Int → Int)
def hSl (M : mI) (i : Int) : Nat := 9 + 3 * ((M 7 1 + i) % 4).toNat
def Hv (M : mI) (h : List sS) : Prop := M 7 2 = (h.length : Int) ∧ h.length ≤ 4 ∧ 0 ≤ M 7 1 ∧ M 7 1 < 4 ∧ ∀ (i : Nat) (s : sS), h[i]? = some s → Sv M (hSl M i) s.1 s.2.1 s.2.2
def hPush (h : List sS) (s : sS) : List sS := (if h.length = 4 then h.tail else h) ++ [s]
theorem Hv.to {M M' : mI} {h : List sS} (hh : Hv M h) (he : ∀ a, 7 ≤ a → a ≤ 20 → M' a = M a) : Hv M' h := by
  obtain ⟨h1, h2, h3, h4, h5⟩ := hh
  have e7 := he 7 (by omega) (by omega)
  refine ⟨by rw [e7]; exact h1, h2, by rw [e7]; exact h3, by rw [e7]; exact h4, fun i s hs => ?_⟩
  have hz : hSl M' i = hSl M i := by unfold hSl; rw [e7]
  have hb : 9 ≤ hSl M i ∧ hSl M i ≤ 18 := by unfold hSl; omega
  rw [hz]
  exact (h5 i s hs).to (he _ (by omega) (by omega)) (he _ (by omega) (by omega)) (he _ (by omega) (by omega))
theorem Hv.tl {M : mI} {h : List sS} (hh : Hv M h) (hl : h.length = 4) : Hv (mU (mU M 7 1 ((M 7 1 + 1) % 4)) 7 2 3) h.tail := by
  obtain ⟨h1, h2, h3, h4, h5⟩ := hh
  have e : mU (mU M 7 1 ((M 7 1 + 1) % 4)) 7 2 3 7 1 = (M 7 1 + 1) % 4 := by rw [mU_slot (by omega), mU_self]
  refine ⟨by rw [mU_self]; simp [hl], by simp [hl], by rw [e]; omega, by rw [e]; omega, fun i s hs => ?_⟩
  rw [List.getElem?_tail] at hs
  have h6 := h5 (i + 1) s hs
  have hz : hSl (mU (mU M 7 1 ((M 7 1 + 1) % 4)) 7 2 3) i = hSl M (i + 1 : Nat) := by unfold hSl; rw [e]; omega
  have hb : 9 ≤ hSl M (i + 1 : Nat) := by unfold hSl; omega
  rw [hz]
  exact h6.to (by rw [mU_cell (by omega), mU_cell (by omega)]) (by rw [mU_cell (by omega), mU_cell (by omega)]) (by rw [mU_cell (by omega), mU_cell (by omega)])
theorem Hv.snoc {M M' : mI} {h : List sS} {s : sS} (hh : Hv M h) (hl : h.length < 4) (hs : Sv M' (hSl M h.length) s.1 s.2.1 s.2.2) (hf : ∀ a, a ≠ hSl M h.length → a ≠ hSl M h.length + 1 → a ≠ hSl M h.length + 2 → M' a = M a) : Hv (mU M' 7 2 (h.length + 1)) (h ++ [s]) := by
  obtain ⟨h1, h2, h3, h4, h5⟩ := hh
  have hb : 9 ≤ hSl M h.length := by unfold hSl; omega
  have e7 : M' 7 = M 7 := hf 7 (by omega) (by omega) (by omega)
  have e : mU M' 7 2 (h.length + 1) 7 1 = M 7 1 := by rw [mU_slot (by omega), e7]
  have hz : ∀ i : Int, hSl (mU M' 7 2 (h.length + 1)) i = hSl M i := fun i => by unfold hSl; rw [e]
  refine ⟨by rw [mU_self]; simp, by simp; omega, by rw [e]; exact h3, by rw [e]; exact h4, fun i s' hs' => ?_⟩
  rw [hz]
  by_cases hi : i < h.length
  · rw [List.getElem?_append_left hi] at hs'
    have h6 := h5 i s' hs'
    have hb2 : 9 ≤ hSl M i := by unfold hSl; omega
    have hne : hSl M i + 3 ≤ hSl M h.length ∨ hSl M h.length + 3 ≤ hSl M i := by unfold hSl; omega
    exact h6.to (by rw [mU_cell (by omega), hf _ (by omega) (by omega) (by omega)]) (by rw [mU_cell (by omega), hf _ (by omega) (by omega) (by omega)]) (by rw [mU_cell (by omega), hf _ (by omega) (by omega) (by omega)])
  · have hi2 : i = h.length := by
      have := (List.getElem?_eq_some_iff.mp hs').1
      simp at this
      omega
    subst hi2
    have e9 : s = s' := by simpa using hs'
    subst e9
    exact hs.to (by rw [mU_cell (by omega)]) (by rw [mU_cell (by omega)]) (by rw [mU_cell (by omega)])
theorem Hv.init {M : mI} {h : List sS} {s : sS} (hh : Hv M (h ++ [s])) : Hv (mU M 7 2 h.length) h ∧ Sv M (hSl M h.length) s.1 s.2.1 s.2.2 := by
  obtain ⟨h1, h2, h3, h4, h5⟩ := hh
  have e : mU M 7 2 h.length 7 1 = M 7 1 := by rw [mU_slot (by omega)]
  simp at h2
  refine ⟨⟨by rw [mU_self], by omega, by rw [e]; exact h3, by rw [e]; exact h4, fun i s' hs' => ?_⟩, h5 h.length s (by simp)⟩
  have hi := (List.getElem?_eq_some_iff.mp hs').1
  have h6 := h5 i s' (by rw [List.getElem?_append_left hi]; exact hs')
  have hz : hSl (mU M 7 2 h.length) i = hSl M i := by unfold hSl; rw [e]
  have hb2 : 9 ≤ hSl M i := by unfold hSl; omega
  rw [hz]
  exact h6.to (by rw [mU_cell (by omega)]) (by rw [mU_cell (by omega)]) (by rw [mU_cell (by omega)])
theorem c_History_size {Γ : gX} {l : Launch} {M : mI} : Cn Γ l i_History_size R0 51 [.ref (gb Γ + 7)] M (pI (fun r M' => r = M 7 2 ∧ M' = M)) := by
  refine cn_intro (L := [some (.ref (gb Γ + 7))]) yo_History_size.1 rfl (Nat.le_of_ble_eq_true rfl) rfl (fun X hX hR => ?_)
  refine g_aload_n hX d_History_size_0 rfl ?_
  refine g_getI hX fl_History_21 d_History_size_1 2 ⟨rfl, by decide⟩ rfl rfl (fun r_1 => ?_)
  refine g_iret hX hR d_History_size_4 (by omega) ?_
  exact ⟨rfl, rfl⟩
theorem c_History_slotOf {Γ : gX} {l : Launch} {M : mI} {i : Int} (h0 : 0 ≤ M 7 1 ∧ M 7 1 < 4) (hi : 0 ≤ i ∧ i ≤ 4) : Cn Γ l i_History_slotOf R0 51 [.ref (gb Γ + 7), vI i] M (pI (fun r M' => r = (M 7 1 + i) % 4 ∧ M' = M)) := by
  refine cn_intro (L := [some (.ref (gb Γ + 7)), some (vI i)]) yo_History_slotOf.1 rfl (Nat.le_of_ble_eq_true rfl) rfl (fun X hX hR => ?_)
  refine g_aload_n hX d_History_slotOf_0 rfl ?_
  refine g_getI hX fl_History_17 d_History_slotOf_1 1 ⟨rfl, by decide⟩ rfl rfl (fun r_1 => ?_)
  refine g_iload_n hX d_History_slotOf_4 rfl ?_
  refine g_iadd hX d_History_slotOf_5 ?_
  refine g_iconst hX d_History_slotOf_6 ?_
  refine g_irem hX (by omega) (by decide) d_History_slotOf_7 ?_
  refine g_iret hX hR d_History_slotOf_8 (by omega) ?_
  exact ⟨rfl, rfl⟩
theorem r0_st {i : Nat} (hi : i < 4) : R0 8 i = some (9 + 3 * i) := by
  match i, hi with
  | 0, _ => rfl
  | 1, _ => rfl
  | 2, _ => rfl
  | 3, _ => rfl
  | k + 4, h => exact absurd h (by omega)
theorem c_History_stateAt {Γ : gX} {l : Launch} {M : mI} {i : Int} (h0 : 0 ≤ M 7 1 ∧ M 7 1 < 4) (hi : 0 ≤ i ∧ i ≤ 4) : Cn Γ l i_History_stateAt R0 51 [.ref (gb Γ + 7), vI i] M (pR Γ (fun o M' => o = hSl M i ∧ M' = M)) := by
  refine cn_intro (L := [some (.ref (gb Γ + 7)), some (vI i), none]) yo_History_stateAt.1 rfl (Nat.le_of_ble_eq_true rfl) rfl (fun X hX hR => ?_)
  refine g_aload_n hX d_History_stateAt_0 rfl ?_
  refine g_iload_n hX d_History_stateAt_1 rfl ?_
  refine g_callV hX yo_History_slotOf q_230 d_History_stateAt_2 (c_History_slotOf h0 hi) rfl rfl ⟨rfl, by decide⟩ rfl (by decide) (Nat.le_of_ble_eq_true rfl) ⟨Nat.zero_le _, Nat.zero_le _⟩ (k_int fun r_2 M_2 ir_2 hp_2 => ?_)
  obtain ⟨er_2, eM_2⟩ := hp_2; replace er_2 := er_2.symm; replace eM_2 := eM_2.symm; subst er_2; subst eM_2
  refine g_istore_n hX d_History_stateAt_5 (by decide) ?_
  refine g_iload_n hX d_History_stateAt_6 rfl ?_
  refine g_if_lt 32 hX d_History_stateAt_7 (by decide) (by omega) (fun h_7 => ?_) (fun h_7 => ?_)
  · exact absurd h_7 (by omega)
  · refine g_iload_n hX d_History_stateAt_10 rfl ?_
    refine g_if_lt 32 hX d_History_stateAt_11 (by decide) (by omega) (fun h_11 => ?_) (fun h_11 => ?_)
    · exact absurd h_11 (by omega)
    · refine g_iload_n hX d_History_stateAt_14 rfl ?_
      refine g_aload_n hX d_History_stateAt_15 rfl ?_
      refine g_getR hX fl_History_11 d_History_stateAt_16 ⟨rfl, by decide⟩ rfl rfl ?_
      refine g_alenS hX d_History_stateAt_19 ⟨rfl, by decide⟩ ?_
      refine g_icmp_ge 32 hX d_History_stateAt_20 (by decide) (by omega) (by omega) (fun h_20 => ?_) (fun h_20 => ?_)
      · exact absurd h_20 (by omega)
      · refine g_aload_n hX d_History_stateAt_23 rfl ?_
        refine g_getR hX fl_History_11 d_History_stateAt_24 ⟨rfl, by decide⟩ rfl rfl ?_
        refine g_iload_n hX d_History_stateAt_27 rfl ?_
        refine g_aald hX d_History_stateAt_28 ⟨rfl, by decide⟩ (by omega) (r0_st (by omega)) ?_
        refine g_goto 33 hX d_History_stateAt_29 (by decide) ?_
        refine g_aret hX hR d_History_stateAt_33 ?_
        exact ⟨rfl, rfl⟩
theorem hSl_st {M : mI} (i : Int) : St (hSl M i) := by
  unfold hSl
  exact st_h _ (by omega)
theorem hSl_b {M : mI} (i : Int) : 9 ≤ hSl M i ∧ hSl M i ≤ 18 := by unfold hSl; omega
theorem c_History_record {Γ : gX} {l : Launch} {M : mI} {h : List sS} {s : sS} (hh : Hv M h) (hs : Sv M 1 s.1 s.2.1 s.2.2) : Cn Γ l i_History_record R0 51 [.ref (gb Γ + 7), .ref (gb Γ + 1)] M (pV (fun M' => Hv M' (hPush h s) ∧ ∀ a, a < 7 ∨ 20 < a → M' a = M a)) := by
  refine cn_intro (L := [some (.ref (gb Γ + 7)), some (.ref (gb Γ + 1)), none]) yo_History_record.1 rfl (Nat.le_of_ble_eq_true rfl) rfl (fun X hX hR => ?_)
  obtain ⟨z1, z2, z3, z4, z5⟩ := id hh
  have J : ∀ (M1 : mI) (h1 : List sS), Hv M1 h1 → h1.length < 4 → h1 ++ [s] = hPush h s → (∀ a, a ≠ 7 → M1 a = M a) → G Γ X 3 (R0, 51, 0, 0) 27 [some (.ref (gb Γ + 7)), some (.ref (gb Γ + 1)), none] [] M1 := by
    intro M1 h1 q1 q2 q3 q4
    obtain ⟨y1, y2, y3, y4, y5⟩ := id q1
    have hb := @hSl_b M1 (M1 7 2)
    refine g_aload_n hX d_History_record_27 rfl ?_
    refine g_aload_n hX d_History_record_28 rfl ?_
    refine g_getI hX fl_History_21 d_History_record_29 2 ⟨rfl, by decide⟩ rfl rfl (fun r_29 => ?_)
    refine g_callV hX yo_History_stateAt q_234 d_History_record_32 (c_History_stateAt ⟨y3, y4⟩ (by omega)) rfl rfl ⟨rfl, by decide⟩ rfl (by decide) (Nat.le_of_ble_eq_true rfl) ⟨Nat.zero_le _, Nat.zero_le _⟩ (k_ref fun o_32 M_32 hp_32 => ?_)
    obtain ⟨er_32, eM_32⟩ := hp_32; replace er_32 := er_32.symm; replace eM_32 := eM_32.symm; subst er_32; subst eM_32
    refine g_astore_n hX d_History_record_35 (by decide) ?_
    refine g_aload_n hX d_History_record_36 rfl ?_
    refine g_ifnull hX d_History_record_37 ?_
    refine g_aload_n hX d_History_record_40 rfl ?_
    refine g_aload_n hX d_History_record_41 rfl ?_
    refine g_callV hX yo_State_copyFrom q_238 d_History_record_42 (c_State_copyFrom (n := s.1) (x := s.2.1) (g := s.2.2) (hSl_st (M1 7 2)) st_1 (by omega) (hs.to (q4 1 (by omega)) (q4 2 (by omega)) (q4 3 (by omega)))) rfl rfl (hSl_st (M1 7 2)).d rfl (by decide) (Nat.le_of_ble_eq_true rfl) ⟨Nat.zero_le _, Nat.zero_le _⟩ (k_void fun M_42 hp_42 => ?_)
    obtain ⟨p1, p2⟩ := hp_42
    have e7 : M_42 7 = M1 7 := p2 7 (by omega) (by omega) (by omega)
    refine g_aload_n hX d_History_record_45 rfl ?_
    refine g_dup hX d_History_record_46 rfl ?_
    refine g_getI hX fl_History_21 d_History_record_47 2 ⟨rfl, by decide⟩ rfl rfl (fun r_47 => ?_)
    rw [e7] at r_47 ⊢
    refine g_iconst hX d_History_record_50 ?_
    refine g_iadd hX d_History_record_51 ?_
    refine g_putI hX fl_History_21 d_History_record_52 2 ⟨rfl, by decide⟩ rfl rfl (fun q h => by cases h; rfl) rfl (by omega) ?_
    refine g_vret hX hR d_History_record_55 ?_
    rw [y1] at *
    rw [← q3]
    exact ⟨q1.snoc q2 p1 p2, fun a u => by rw [mU_cell (by omega), p2 a (by omega) (by omega) (by omega)]; exact q4 a (by omega)⟩
  refine g_aload_n hX d_History_record_0 rfl ?_
  refine g_getI hX fl_History_21 d_History_record_1 2 ⟨rfl, by decide⟩ rfl rfl (fun r_1 => ?_)
  refine g_iconst hX d_History_record_4 ?_
  refine g_icmp_ne 27 hX d_History_record_5 (by decide) (by omega) (by omega) (fun h_5 => ?_) (fun h_5 => ?_)
  · exact J M h hh (by omega) (by unfold hPush; rw [if_neg (by omega)]) (fun _ _ => rfl)
  · refine g_aload_n hX d_History_record_8 rfl ?_
    refine g_aload_n hX d_History_record_9 rfl ?_
    refine g_iconst hX d_History_record_10 ?_
    refine g_callV hX yo_History_slotOf q_230 d_History_record_11 (c_History_slotOf ⟨z3, z4⟩ (by omega)) rfl rfl ⟨rfl, by decide⟩ rfl (by decide) (Nat.le_of_ble_eq_true rfl) ⟨Nat.zero_le _, Nat.zero_le _⟩ (k_int fun r_11 M_11 ir_11 hp_11 => ?_)
    obtain ⟨er_11, eM_11⟩ := hp_11; replace er_11 := er_11.symm; replace eM_11 := eM_11.symm; subst er_11; subst eM_11
    refine g_putI hX fl_History_17 d_History_record_14 1 ⟨rfl, by decide⟩ rfl rfl (fun q h => by cases h; rfl) rfl (by omega) ?_
    refine g_aload_n hX d_History_record_17 rfl ?_
    refine g_dup hX d_History_record_18 rfl ?_
    refine g_getI hX fl_History_21 d_History_record_19 2 ⟨rfl, by decide⟩ rfl rfl (fun r_19 => ?_)
    rw [mU_slot (by omega)] at r_19 ⊢
    refine g_iconst hX d_History_record_22 ?_
    refine g_isub hX d_History_record_23 ?_
    refine g_putI hX fl_History_21 d_History_record_24 2 ⟨rfl, by decide⟩ rfl rfl (fun q h => by cases h; rfl) rfl (by omega) ?_
    rw [show M 7 2 - 1 = 3 by omega]
    exact J _ h.tail (hh.tl (by omega)) (by simp; omega) (by unfold hPush; rw [if_pos (by omega)]) (fun a u => by rw [mU_cell u, mU_cell u])
theorem c_History_takeBack {Γ : gX} {l : Launch} {M : mI} {h : List sS} {s : sS} (hh : Hv M (h ++ [s])) : Cn Γ l i_History_takeBack R0 51 [.ref (gb Γ + 7), .ref (gb Γ + 1)] M (pV (fun M' => Hv M' h ∧ Sv M' 1 s.1 s.2.1 s.2.2 ∧ ∀ a, a = 0 ∨ 20 < a ∨ (4 ≤ a ∧ a ≤ 6) → M' a = M a)) := by
  refine cn_intro (L := [some (.ref (gb Γ + 7)), some (.ref (gb Γ + 1)), none]) yo_History_takeBack.1 rfl (Nat.le_of_ble_eq_true rfl) rfl (fun X hX hR => ?_)
  obtain ⟨z1, z2, z3, z4, z5⟩ := id hh
  obtain ⟨hi1, hi2⟩ := hh.init
  have hl4 : h.length < 4 := by simp at z2; omega
  have hz : hSl M (M 7 2 - 1) = hSl M h.length := by rw [z1]; simp
  have hb := @hSl_b M (M 7 2 - 1)
  refine g_aload_n hX d_History_takeBack_0 rfl ?_
  refine g_aload_n hX d_History_takeBack_1 rfl ?_
  refine g_getI hX fl_History_21 d_History_takeBack_2 2 ⟨rfl, by decide⟩ rfl rfl (fun r_2 => ?_)
  refine g_iconst hX d_History_takeBack_5 ?_
  refine g_isub hX d_History_takeBack_6 ?_
  refine g_callV hX yo_History_stateAt q_234 d_History_takeBack_7 (c_History_stateAt ⟨z3, z4⟩ (by simp at z1; omega)) rfl rfl ⟨rfl, by decide⟩ rfl (by decide) (Nat.le_of_ble_eq_true rfl) ⟨Nat.zero_le _, Nat.zero_le _⟩ (k_ref fun o_7 M_7 hp_7 => ?_)
  obtain ⟨er_7, eM_7⟩ := hp_7; replace er_7 := er_7.symm; replace eM_7 := eM_7.symm; subst er_7; subst eM_7
  refine g_astore_n hX d_History_takeBack_10 (by decide) ?_
  refine g_aload_n hX d_History_takeBack_11 rfl ?_
  refine g_ifnull hX d_History_takeBack_12 ?_
  refine g_aload_n hX d_History_takeBack_15 rfl ?_
  refine g_aload_n hX d_History_takeBack_16 rfl ?_
  refine g_callV hX yo_State_copyFrom q_238 d_History_takeBack_17 (c_State_copyFrom (n := s.1) (x := s.2.1) (g := s.2.2) st_1 (hSl_st (M 7 2 - 1)) (by omega) (by rw [hz]; exact hi2)) rfl rfl ⟨rfl, by decide⟩ rfl (by decide) (Nat.le_of_ble_eq_true rfl) ⟨Nat.zero_le _, Nat.zero_le _⟩ (k_void fun M_17 hp_17 => ?_)
  obtain ⟨p1, p2⟩ := hp_17
  refine g_aload_n hX d_History_takeBack_20 rfl ?_
  refine g_dup hX d_History_takeBack_21 rfl ?_
  refine g_getI hX fl_History_21 d_History_takeBack_22 2 ⟨rfl, by decide⟩ rfl rfl (fun r_22 => ?_)
  rw [p2 7 (by omega) (by omega) (by omega)] at r_22 ⊢
  refine g_iconst hX d_History_takeBack_25 ?_
  refine g_isub hX d_History_takeBack_26 ?_
  refine g_putI hX fl_History_21 d_History_takeBack_27 2 ⟨rfl, by decide⟩ rfl rfl (fun q h => by cases h; rfl) rfl (by simp at z1; omega) ?_
  refine g_vret hX hR d_History_takeBack_30 ?_
  rw [show M 7 2 - 1 = (h.length : Int) by simp at z1; omega]
  have f1 : ∀ a, a ≠ 1 → a ≠ 2 → a ≠ 3 → mU M_17 7 2 (h.length : Int) a = mU M 7 2 (h.length : Int) a := fun a u v w => by funext j; unfold mU; rw [p2 a u v w]
  refine ⟨hi1.to (fun a u v => f1 a (by omega) (by omega) (by omega)), p1.to (by rw [mU_cell (by omega)]) (by rw [mU_cell (by omega)]) (by rw [mU_cell (by omega)]), fun a u => ?_⟩
  by_cases ha : a = 7
  · omega
  · rw [mU_cell ha]; exact p2 a (by omega) (by omega) (by omega)
/-! Stretch -/
def rpI (n : Int) (x : Int → Int) (j : Nat) (s0 : Int × Int × Int) : Nat → Int × Int × Int
  | 0 => s0
  | i + 1 => if (rpI n x j s0 i).1 < lk n x j (j - i) then (lk n x j (j - i), i, j) else rpI n x j s0 i
def rpO (n : Int) (x : Int → Int) : Nat → Int × Int × Int
  | 0 => (0, 0, 0)
  | j + 1 => rpI n x j (rpO n x j) j
/-- the longest stretch that comes again: its length, the former and the latter place -/
def rep (n : Int) (x : Int → Int) : Int × Int × Int := rpO n x n.toNat
theorem rpI_ge (n : Int) (x : Int → Int) (j : Nat) (s0 : Int × Int × Int) (i : Nat) : s0.1 ≤ (rpI n x j s0 i).1 := by
  induction i with
  | zero => exact Int.le_refl _
  | succ i ih =>
    unfold rpI
    split
    · show _ ≤ lk n x j (j - i)
      omega
    · exact ih
theorem rpO_ge (n : Int) (x : Int → Int) (j : Nat) : 0 ≤ (rpO n x j).1 := by
  induction j with
  | zero => exact Int.le_refl _
  | succ j ih => exact Int.le_trans ih (rpI_ge n x j _ j)
theorem rpI_le (n : Int) (x : Int → Int) (j : Nat) (s0 : Int × Int × Int) (i : Nat) (hj : (j : Int) ≤ n) (h : s0.1 ≤ n) : (rpI n x j s0 i).1 ≤ n := by
  induction i with
  | zero => exact h
  | succ i ih =>
    unfold rpI
    split
    · show lk n x j (j - i) ≤ n
      have := @lk_le n x j (j - i) hj
      omega
    · exact ih
theorem rpO_le (n : Int) (x : Int → Int) (j : Nat) (hj : (j : Int) ≤ n) : (rpO n x j).1 ≤ n := by
  induction j with
  | zero => show (0 : Int) ≤ n; omega
  | succ j ih => exact rpI_le n x j _ j (by omega) (ih (by omega))
theorem rpI_stop {n : Int} {x : Int → Int} {j : Nat} {s0 : Int × Int × Int} (hj : (j : Int) ≤ n) (h : n - j ≤ s0.1) (i : Nat) : rpI n x j s0 i = s0 := by
  induction i with
  | zero => rfl
  | succ i ih =>
    unfold rpI
    rw [ih, if_neg]
    have := @lk_le n x j (j - i) hj
    omega
theorem rpO_stop {n : Int} {x : Int → Int} {j : Nat} (h : n - j ≤ (rpO n x j).1) (k : Nat) (hk : ((j + k : Nat) : Int) ≤ n) : rpO n x (j + k) = rpO n x j := by
  induction k with
  | zero => rfl
  | succ k ih =>
    show rpI n x (j + k) (rpO n x (j + k)) (j + k) = _
    rw [ih (by omega), rpI_stop (by omega) (by omega)]
theorem lk0 (n : Int) (x : Int → Int) (d : Int) : lk n x n d = 0 := lk_end (Int.le_refl _)
def rpM (M : mI) (s : Int × Int × Int) : Prop := M 30 0 = s.1 ∧ (0 < s.1 → M 30 1 = s.2.1 ∧ M 30 2 = s.2.2)
theorem c_Stretch_findLongest {Γ : gX} {l : Launch} {M : mI} {n : Int} {x g : Int → Int} (hv : Sv M 1 n x g) : Cn Γ l i_Stretch_findLongest R0 51 [.ref (gb Γ + 30), .ref (gb Γ + 1)] M (pV (fun M' => rpM M' (rep n x) ∧ ∀ a, a ≠ 30 → M' a = M a)) := by
  refine cn_intro (L := [some (.ref (gb Γ + 30)), some (.ref (gb Γ + 1)), none, none, none]) yo_Stretch_findLongest.1 rfl (Nat.le_of_ble_eq_true rfl) rfl (fun X hX hR => ?_)
  obtain ⟨v1, v2, v3, v4, v5⟩ := id hv
  have EXIT : ∀ (j : Nat) (M1 : mI), 1 ≤ j → n - j ≤ (rpO n x j).1 → ((j : Int) ≤ n ∨ (n ≤ 1 ∧ j = 1)) → rpM M1 (rpO n x j) → (∀ a, a ≠ 30 → M1 a = M a) → rpM M1 (rep n x) ∧ ∀ a, a ≠ 30 → M1 a = M a := by
    intro j M1 h1 h2 h3 h4 h5
    refine ⟨?_, h5⟩
    have e : rep n x = rpO n x j := by
      unfold rep
      rcases h3 with h3 | ⟨h3, rfl⟩
      · obtain ⟨k, hk⟩ : ∃ k : Nat, n.toNat = j + k := ⟨n.toNat - j, by omega⟩
        rw [hk]
        exact rpO_stop h2 k (by omega)
      · rcases (show n.toNat = 0 ∨ n.toNat = 1 by omega) with e | e <;> rw [e] <;> rfl
    rw [e]; exact h4
  have OUT : ∀ (q : Nat) (j : Nat) (M1 : mI), (n - j).toNat = q → 1 ≤ j → ((j : Int) ≤ n ∨ (n ≤ 1 ∧ j = 1)) → rpM M1 (rpO n x j) → (∀ a, a ≠ 30 → M1 a = M a) → G Γ X 5 (R0, 51, 0, 0) 7 [some (.ref (gb Γ + 30)), some (.ref (gb Γ + 1)), some (vI j), none, none] [] M1 := by
    intro q
    induction q with
    | zero =>
      intro j M1 hq hj hjn hr f1
      have b1 := rpO_ge n x j
      have b2 : (rpO n x j).1 ≤ 60 := by
        rcases hjn with hjn | ⟨_, rfl⟩
        · have := rpO_le n x j hjn; omega
        · show (0 : Int) ≤ 60; omega
      have hr1 := hr.1
      have e1 : M1 1 2 = n := by rw [f1 1 (by decide)]; exact v1
      refine g_iload_n hX d_Stretch_findLongest_7 rfl ?_
      refine g_aload_n hX d_Stretch_findLongest_8 rfl ?_
      refine g_getI hX fl_Stretch_7 d_Stretch_findLongest_9 0 ⟨rfl, by decide⟩ rfl rfl (fun r_9 => ?_)
      refine g_iadd hX d_Stretch_findLongest_12 ?_
      refine g_aload_n hX d_Stretch_findLongest_13 rfl ?_
      refine g_callV hX yo_State_size q_483 d_Stretch_findLongest_14 (c_State_size st_1) rfl rfl ⟨rfl, by decide⟩ rfl (by decide) (Nat.le_of_ble_eq_true rfl) ⟨Nat.zero_le _, Nat.zero_le _⟩ (k_int fun r_14 M_14 ir_14 hp_14 => ?_)
      obtain ⟨er_14, eM_14⟩ := hp_14; replace er_14 := er_14.symm; replace eM_14 := eM_14.symm; subst er_14; subst eM_14
      refine g_icmp_ge 72 hX d_Stretch_findLongest_17 (by decide) (by omega) (by omega) (fun h_17 => ?_) (fun h_17 => ?_)
      · refine g_vret hX hR d_Stretch_findLongest_72 ?_
        exact EXIT j M1 hj (by omega) hjn hr f1
      · exact absurd h_17 (by omega)
    | succ q ih =>
      intro j M1 hq hj hjn hr f1
      have hjn' : (j : Int) < n := by omega
      have b1 := rpO_ge n x j
      have b2 := rpO_le n x j (by omega)
      have hr1 := hr.1
      have e1 : M1 1 2 = n := by rw [f1 1 (by decide)]; exact v1
      have INN : ∀ (q2 : Nat) (i : Nat) (M1 : mI), i + q2 = j → rpM M1 (rpI n x j (rpO n x j) i) → (∀ a, a ≠ 30 → M1 a = M a) → G Γ X 5 (R0, 51, 0, 0) 22 [some (.ref (gb Γ + 30)), some (.ref (gb Γ + 1)), some (vI j), some (vI i), none] [] M1 := by
        intro q2
        induction q2 with
        | zero =>
          intro i M1 hq2 hr f1
          refine g_iload_n hX d_Stretch_findLongest_22 rfl ?_
          refine g_iload_n hX d_Stretch_findLongest_23 rfl ?_
          refine g_icmp_ge 66 hX d_Stretch_findLongest_24 (by decide) (by omega) (by omega) (fun h_24 => ?_) (fun h_24 => ?_)
          · refine g_iinc hX d_Stretch_findLongest_66 rfl (by decide) ?_
            refine g_goto 7 hX d_Stretch_findLongest_69 (by decide) ?_
            refine g_drop 3 ?_
            exact ih (j + 1) M1 (by omega) (by omega) (Or.inl (by omega)) (by rw [show i = j by omega] at hr; exact hr) f1
          · exact absurd h_24 (by omega)
        | succ q2 ih2 =>
          intro i M1 hq2 hr f1
          have b3 := rpI_le n x j (rpO n x j) i (by omega) b2
          have b4 := rpI_ge n x j (rpO n x j) i
          have e1 : M1 1 2 = n := by rw [f1 1 (by decide)]; exact v1
          have hlk := @lk_le n x j (j - i) (by omega)
          have hr1 := hr.1
          refine g_iload_n hX d_Stretch_findLongest_22 rfl ?_
          refine g_iload_n hX d_Stretch_findLongest_23 rfl ?_
          refine g_icmp_ge 66 hX d_Stretch_findLongest_24 (by decide) (by omega) (by omega) (fun h_24 => ?_) (fun h_24 => ?_)
          · exact absurd h_24 (by omega)
          · refine g_aload_n hX d_Stretch_findLongest_27 rfl ?_
            refine g_iload_n hX d_Stretch_findLongest_28 rfl ?_
            refine g_iload_n hX d_Stretch_findLongest_29 rfl ?_
            refine g_callV hX yo_State_likeLength q_484 d_Stretch_findLongest_30 (c_State_likeLength (f := (i : Int)) (p := (j : Int)) st_1 (hv.to (f1 1 (by decide)) (f1 2 (by decide)) (f1 3 (by decide))) (by omega) (by omega)) rfl rfl ⟨rfl, by decide⟩ rfl (by decide) (Nat.le_of_ble_eq_true rfl) ⟨Nat.zero_le _, Nat.zero_le _⟩ (k_int fun r_30 M_30 ir_30 hp_30 => ?_)
            obtain ⟨er_30, eM_30⟩ := hp_30; replace er_30 := er_30.symm; replace eM_30 := eM_30.symm; subst er_30; subst eM_30
            refine g_istore hX d_Stretch_findLongest_33 (by decide) ?_
            refine g_iload hX d_Stretch_findLongest_35 rfl ?_
            refine g_aload_n hX d_Stretch_findLongest_37 rfl ?_
            refine g_getI hX fl_Stretch_7 d_Stretch_findLongest_38 0 ⟨rfl, by decide⟩ rfl rfl (fun r_38 => ?_)
            refine g_icmp_le 60 hX d_Stretch_findLongest_41 (by decide) (by omega) (by omega) (fun h_41 => ?_) (fun h_41 => ?_)
            · have er : rpM M1 (rpI n x j (rpO n x j) (i + 1)) := by (unfold rpI; rw [if_neg (by omega)]; exact hr)
              have f2 := f1
              refine g_iinc hX d_Stretch_findLongest_60 rfl (by decide) ?_
              refine g_goto 22 hX d_Stretch_findLongest_63 (by decide) ?_
              refine g_drop 4 ?_
              exact ih2 (i + 1) _ (by omega) er f2
            · have er : rpM (mU (mU (mU M1 30 0 (lk n x j (j - i))) 30 1 i) 30 2 j) (rpI n x j (rpO n x j) (i + 1)) := by (unfold rpI; rw [if_pos (by omega)]; exact ⟨by rw [mU_slot (by omega), mU_slot (by omega), mU_self], fun _ => ⟨by rw [mU_slot (by omega), mU_self], by rw [mU_self]⟩⟩)
              have f2 : ∀ a, a ≠ 30 → mU (mU (mU M1 30 0 (lk n x j (j - i))) 30 1 i) 30 2 j a = M a := fun a u => by rw [mU_cell u, mU_cell u, mU_cell u]; exact f1 a u
              refine g_aload_n hX d_Stretch_findLongest_44 rfl ?_
              refine g_iload hX d_Stretch_findLongest_45 rfl ?_
              refine g_putI hX fl_Stretch_7 d_Stretch_findLongest_47 0 ⟨rfl, by decide⟩ rfl rfl (fun q h => by cases h; rfl) rfl (by omega) ?_
              refine g_aload_n hX d_Stretch_findLongest_50 rfl ?_
              refine g_iload_n hX d_Stretch_findLongest_51 rfl ?_
              refine g_putI hX fl_Stretch_13 d_Stretch_findLongest_52 1 ⟨rfl, by decide⟩ rfl rfl (fun q h => by cases h; rfl) rfl (by omega) ?_
              refine g_aload_n hX d_Stretch_findLongest_55 rfl ?_
              refine g_iload_n hX d_Stretch_findLongest_56 rfl ?_
              refine g_putI hX fl_Stretch_16 d_Stretch_findLongest_57 2 ⟨rfl, by decide⟩ rfl rfl (fun q h => by cases h; rfl) rfl (by omega) ?_
              refine g_iinc hX d_Stretch_findLongest_60 rfl (by decide) ?_
              refine g_goto 22 hX d_Stretch_findLongest_63 (by decide) ?_
              refine g_drop 4 ?_
              exact ih2 (i + 1) _ (by omega) er f2
      refine g_iload_n hX d_Stretch_findLongest_7 rfl ?_
      refine g_aload_n hX d_Stretch_findLongest_8 rfl ?_
      refine g_getI hX fl_Stretch_7 d_Stretch_findLongest_9 0 ⟨rfl, by decide⟩ rfl rfl (fun r_9 => ?_)
      refine g_iadd hX d_Stretch_findLongest_12 ?_
      refine g_aload_n hX d_Stretch_findLongest_13 rfl ?_
      refine g_callV hX yo_State_size q_483 d_Stretch_findLongest_14 (c_State_size st_1) rfl rfl ⟨rfl, by decide⟩ rfl (by decide) (Nat.le_of_ble_eq_true rfl) ⟨Nat.zero_le _, Nat.zero_le _⟩ (k_int fun r_14 M_14 ir_14 hp_14 => ?_)
      obtain ⟨er_14, eM_14⟩ := hp_14; replace er_14 := er_14.symm; replace eM_14 := eM_14.symm; subst er_14; subst eM_14
      refine g_icmp_ge 72 hX d_Stretch_findLongest_17 (by decide) (by omega) (by omega) (fun h_17 => ?_) (fun h_17 => ?_)
      · refine g_vret hX hR d_Stretch_findLongest_72 ?_
        exact EXIT j M1 hj (by omega) hjn hr f1
      · refine g_iconst hX d_Stretch_findLongest_20 ?_
        refine g_istore_n hX d_Stretch_findLongest_21 (by decide) ?_
        exact INN j 0 M1 (by omega) hr f1
  refine g_aload_n hX d_Stretch_findLongest_0 rfl ?_
  refine g_iconst hX d_Stretch_findLongest_1 ?_
  refine g_putI hX fl_Stretch_7 d_Stretch_findLongest_2 0 ⟨rfl, by decide⟩ rfl rfl (fun q h => by cases h; rfl) rfl (by omega) ?_
  refine g_iconst hX d_Stretch_findLongest_5 ?_
  refine g_istore_n hX d_Stretch_findLongest_6 (by decide) ?_
  exact OUT _ 1 _ rfl (by omega) (by omega) ⟨by rw [mU_self]; rfl, fun h => absurd (show (0 : Int) < 0 from h) (by omega)⟩ (fun a u => by rw [mU_cell u])
theorem c_Stretch_length {Γ : gX} {l : Launch} {M : mI} : Cn Γ l i_Stretch_length R0 51 [.ref (gb Γ + 30)] M (pI (fun r M' => r = M 30 0 ∧ M' = M)) := by
  refine cn_intro (L := [some (.ref (gb Γ + 30))]) yo_Stretch_length.1 rfl (Nat.le_of_ble_eq_true rfl) rfl (fun X hX hR => ?_)
  refine g_aload_n hX d_Stretch_length_0 rfl ?_
  refine g_getI hX fl_Stretch_7 d_Stretch_length_1 0 ⟨rfl, by decide⟩ rfl rfl (fun r_1 => ?_)
  refine g_iret hX hR d_Stretch_length_4 (by omega) ?_
  exact ⟨rfl, rfl⟩
theorem c_Stretch_former {Γ : gX} {l : Launch} {M : mI} : Cn Γ l i_Stretch_former R0 51 [.ref (gb Γ + 30)] M (pI (fun r M' => r = M 30 1 ∧ M' = M)) := by
  refine cn_intro (L := [some (.ref (gb Γ + 30))]) yo_Stretch_former.1 rfl (Nat.le_of_ble_eq_true rfl) rfl (fun X hX hR => ?_)
  refine g_aload_n hX d_Stretch_former_0 rfl ?_
  refine g_getI hX fl_Stretch_13 d_Stretch_former_1 1 ⟨rfl, by decide⟩ rfl rfl (fun r_1 => ?_)
  refine g_iret hX hR d_Stretch_former_4 (by omega) ?_
  exact ⟨rfl, rfl⟩
theorem c_Stretch_latter {Γ : gX} {l : Launch} {M : mI} : Cn Γ l i_Stretch_latter R0 51 [.ref (gb Γ + 30)] M (pI (fun r M' => r = M 30 2 ∧ M' = M)) := by
  refine cn_intro (L := [some (.ref (gb Γ + 30))]) yo_Stretch_latter.1 rfl (Nat.le_of_ble_eq_true rfl) rfl (fun X hX hR => ?_)
  refine g_aload_n hX d_Stretch_latter_0 rfl ?_
  refine g_getI hX fl_Stretch_16 d_Stretch_latter_1 2 ⟨rfl, by decide⟩ rfl rfl (fun r_1 => ?_)
  refine g_iret hX hR d_Stretch_latter_4 (by omega) ?_
  exact ⟨rfl, rfl⟩
end
section
/-! candidates, the copy found -/
def Og (g : Int → Int) : Prop := (1 ≤ g 0 ∧ g 0 ≤ 60) ∧ (2 ≤ g 1 ∧ g 1 ≤ 6) ∧ (1 ≤ g 2 ∧ g 2 ≤ 60) ∧ (1 ≤ g 3 ∧ g 3 ≤ 20) ∧ (1 ≤ g 4 ∧ g 4 ≤ 60)
def rc (n : Int) (x : Int → Int) (p d : Int) : Int := min 20 (lk n x p d)
/-- how many candidates there are among the distances 1 .. d -/
def cN (n : Int) (x g : Int → Int) (p : Int) : Nat → Int
  | 0 => 0
  | d + 1 => if (d + 1 : Int) ≤ g 0 ∧ 2 ≤ lk n x p (d + 1) then cN n x g p d + 1 else cN n x g p d
/-- those of them that are looked at -/
def cl (n : Int) (x g : Int → Int) (p : Int) : Nat → List Int
  | 0 => []
  | d + 1 => if ((d + 1 : Int) ≤ g 0 ∧ 2 ≤ lk n x p (d + 1)) ∧ ((cl n x g p d).length : Int) < g 2 then cl n x g p d ++ [(d + 1 : Int)] else cl n x g p d
def cNum (n : Int) (x g : Int → Int) (p : Int) : Int := cN n x g p p.toNat
def cs (n : Int) (x g : Int → Int) (p : Int) : List Int := cl n x g p p.toNat
theorem cN_succ (n : Int) (x g : Int → Int) (p : Int) (d : Nat) : cN n x g p (d + 1) = if (d + 1 : Int) ≤ g 0 ∧ 2 ≤ lk n x p (d + 1) then cN n x g p d + 1 else cN n x g p d := rfl
theorem cl_succ (n : Int) (x g : Int → Int) (p : Int) (d : Nat) : cl n x g p (d + 1) = if ((d + 1 : Int) ≤ g 0 ∧ 2 ≤ lk n x p (d + 1)) ∧ ((cl n x g p d).length : Int) < g 2 then cl n x g p d ++ [(d + 1 : Int)] else cl n x g p d := rfl
theorem cN_b (n : Int) (x g : Int → Int) (p : Int) (d : Nat) : 0 ≤ cN n x g p d ∧ cN n x g p d ≤ d := by
  induction d with
  | zero => exact ⟨Int.le_refl _, Int.le_refl _⟩
  | succ d ih => unfold cN; split <;> omega
theorem cl_len (n : Int) (x g : Int → Int) (p : Int) (d : Nat) (h : 1 ≤ g 2) : ((cl n x g p d).length : Int) ≤ g 2 ∧ (cl n x g p d).length ≤ d := by
  induction d with
  | zero => exact ⟨by show (0 : Int) ≤ g 2; omega, Nat.le_refl _⟩
  | succ d ih =>
    unfold cl
    split
    · simp; omega
    · omega
theorem cl_mem (n : Int) (x g : Int → Int) (p : Int) (d : Nat) : ∀ e ∈ cl n x g p d, 1 ≤ e ∧ e ≤ d ∧ e ≤ g 0 ∧ 2 ≤ lk n x p e := by
  induction d with
  | zero => intro e he; cases he
  | succ d ih =>
    intro e he
    unfold cl at he
    split at he
    · rename_i hc
      rcases List.mem_append.mp he with h | h
      · have := ih e h; omega
      · rw [List.mem_singleton] at h
        subst h
        omega
    · have := ih e he; omega
theorem cN_stop {n : Int} {x g : Int → Int} {p : Int} {d : Nat} (h : g 0 ≤ d) (k : Nat) : cN n x g p (d + k) = cN n x g p d := by
  induction k with
  | zero => rfl
  | succ k ih =>
    show cN n x g p (d + k + 1) = _
    rw [cN_succ, if_neg (by omega), ih]
theorem cl_stop {n : Int} {x g : Int → Int} {p : Int} {d : Nat} (h : g 0 ≤ d ∨ g 2 ≤ ((cl n x g p d).length : Int)) (k : Nat) : cl n x g p (d + k) = cl n x g p d := by
  induction k with
  | zero => rfl
  | succ k ih =>
    show cl n x g p (d + k + 1) = _
    rw [cl_succ, ih, if_neg (by omega)]
theorem cs_at {n : Int} {x g : Int → Int} {p : Int} {i : Nat} {d : Int} (h : (cs n x g p)[i]? = some d) (hp : 0 ≤ p) : 1 ≤ d ∧ d ≤ p ∧ d ≤ g 0 ∧ 2 ≤ lk n x p d := by
  have := cl_mem n x g p p.toNat d (List.mem_of_getElem? h)
  omega
/-- the greatest of f over the first i of l that is above c, the first of several; -10004 if none is -/
def Fb (f : Int → Int) (c : Int) (l : List Int) : Nat → Int × Int
  | 0 => (c, -10004)
  | i + 1 => if (Fb f c l i).1 < f (l.getD i 0) then (f (l.getD i 0), l.getD i 0) else Fb f c l i
theorem Fb_succ (f : Int → Int) (c : Int) (l : List Int) (i : Nat) : Fb f c l (i + 1) = if (Fb f c l i).1 < f (l.getD i 0) then (f (l.getD i 0), l.getD i 0) else Fb f c l i := rfl
theorem Fb_app (f : Int → Int) (c : Int) (l l2 : List Int) (i : Nat) (hi : i ≤ l.length) : Fb f c (l ++ l2) i = Fb f c l i := by
  induction i with
  | zero => rfl
  | succ i ih =>
    have e : (l ++ l2).getD i 0 = l.getD i 0 := by
      rw [List.getD_eq_getElem?_getD, List.getD_eq_getElem?_getD, List.getElem?_append_left (by omega)]
    rw [Fb_succ, Fb_succ, ih (by omega), e]
theorem Fb_ge (f : Int → Int) (c : Int) (l : List Int) (i : Nat) : c ≤ (Fb f c l i).1 := by
  induction i with
  | zero => exact Int.le_refl _
  | succ i ih =>
    rw [Fb_succ]
    split
    · show c ≤ f (l.getD i 0); omega
    · exact ih
theorem Fb_two (f : Int → Int) (c : Int) (l : List Int) (hc : 0 ≤ c) (i : Nat) : if c < (Fb f 0 l i).1 then Fb f c l i = Fb f 0 l i else Fb f c l i = (c, -10004) := by
  induction i with
  | zero => rw [if_neg (by show ¬ c < 0; omega)]; rfl
  | succ i ih =>
    rw [Fb_succ f c, Fb_succ f 0]
    by_cases h1 : (Fb f 0 l i).1 < f (l.getD i 0)
    · rw [if_pos h1]
      by_cases h2 : c < (Fb f 0 l i).1
      · rw [if_pos h2] at ih
        rw [ih, if_pos h1, if_pos (by show c < f (l.getD i 0); omega)]
      · rw [if_neg h2] at ih
        rw [ih]
        by_cases h3 : c < f (l.getD i 0)
        · rw [if_pos h3]; rw [if_pos (by exact h3)]
        · rw [if_neg (by exact h3), if_neg (by exact h3)]
    · rw [if_neg h1]
      by_cases h2 : c < (Fb f 0 l i).1
      · rw [if_pos h2] at ih ⊢
        rw [ih, if_neg h1]
      · rw [if_neg h2] at ih ⊢
        rw [ih, if_neg (by show ¬ c < f (l.getD i 0); omega)]
/-- the distance of the copy found at p, -10004 if none is; and its length -/
def bP (n : Int) (x g : Int → Int) (p : Int) : Int × Int := Fb (rc n x p) (g 1 - 1) (cs n x g p) (cs n x g p).length
def bD (n : Int) (x g : Int → Int) (p : Int) : Int := (bP n x g p).2
theorem Fb_spec (f : Int → Int) (c : Int) (l : List Int) (i : Nat) (hi : i ≤ l.length) : ((Fb f c l i).2 = -10004 ∧ (Fb f c l i).1 = c) ∨ (∃ k : Nat, k < i ∧ l[k]? = some (Fb f c l i).2 ∧ (Fb f c l i).1 = f (Fb f c l i).2 ∧ c < (Fb f c l i).1) := by
  induction i with
  | zero => exact Or.inl ⟨rfl, rfl⟩
  | succ i ih =>
    rw [Fb_succ]
    have hl : l[i]? = some (l.getD i 0) := by
      rw [List.getD_eq_getElem?_getD, List.getElem?_eq_getElem (by omega)]; rfl
    have hge := Fb_ge f c l i
    split
    · exact Or.inr ⟨i, by omega, hl, rfl, by show c < f (l.getD i 0); omega⟩
    · rcases ih (by omega) with h | ⟨k, h1, h2⟩
      · exact Or.inl h
      · exact Or.inr ⟨k, by omega, h2⟩
theorem bD_cases {n : Int} {x g : Int → Int} {p : Int} (hg : Og g) (hp : 0 ≤ p) : bD n x g p = -10004 ∨ (1 ≤ bD n x g p ∧ bD n x g p ≤ p ∧ bD n x g p ≤ g 0 ∧ (bP n x g p).1 = rc n x p (bD n x g p) ∧ g 1 ≤ rc n x p (bD n x g p)) := by
  rcases Fb_spec (rc n x p) (g 1 - 1) (cs n x g p) (cs n x g p).length (Nat.le_refl _) with h | ⟨k, h1, h2, h3, h4⟩
  · exact Or.inl h.1
  · right
    have h5 := cs_at h2 hp
    have h6 : (bP n x g p).1 = rc n x p (bD n x g p) := h3
    refine ⟨h5.1, h5.2.1, h5.2.2.1, h6, ?_⟩
    rw [← h6]
    have h7 : g 1 - 1 < (bP n x g p).1 := h4
    omega
def Cp (M : mI) (n : Int) (x g : Int → Int) (p : Int) : Prop := M 21 3 = p ∧ (∀ d, 1 ≤ d → d ≤ g 0 → d ≤ p → M 22 d = lk n x p d) ∧ M 21 4 = cNum n x g p ∧ M 21 5 = ((cs n x g p).length : Int) ∧ ∀ (i : Nat) (d : Int), (cs n x g p)[i]? = some d → M 23 i = d
theorem Cp.to {M M' : mI} {n : Int} {x g : Int → Int} {p : Int} (h : Cp M n x g p) (h0 : M' 21 = M 21) (h1 : M' 22 = M 22) (h2 : M' 23 = M 23) : Cp M' n x g p := by
  unfold Cp
  rw [h0, h1, h2]
  exact h
theorem cN_end (n : Int) (x g : Int → Int) (d : Nat) : cN n x g n d = 0 := by
  induction d with
  | zero => rfl
  | succ d ih =>
    unfold cN
    rw [if_neg (by rw [lk_end (Int.le_refl _)]; omega), ih]
theorem cl_end (n : Int) (x g : Int → Int) (d : Nat) : cl n x g n d = [] := by
  induction d with
  | zero => rfl
  | succ d ih =>
    unfold cl
    rw [if_neg (by rw [lk_end (Int.le_refl _)]; omega), ih]
theorem c_Cand_beginBehindRow {Γ : gX} {l : Launch} {M : mI} {n : Int} {x g : Int → Int} (hv : Sv M 1 n x g) : Cn Γ l i_Cand_beginBehindRow R0 51 [.ref (gb Γ + 21)] M (pV (fun M' => Cp M' n x g n ∧ ∀ a, a ≠ 21 → a ≠ 22 → a ≠ 23 → M' a = M a)) := by
  refine cn_intro (L := [some (.ref (gb Γ + 21)), none]) yo_Cand_beginBehindRow.1 rfl (Nat.le_of_ble_eq_true rfl) rfl (fun X hX hR => ?_)
  obtain ⟨v1, v2, v3, v4, v5⟩ := id hv
  have LOOP : ∀ (q : Nat) (i : Int) (M1 : mI), (61 - i).toNat = q → 0 ≤ i → i ≤ 61 → M1 21 3 = n → M1 21 4 = 0 → M1 21 5 = 0 → (∀ j, 0 ≤ j → j < i → M1 22 j = 0) → (∀ a, a ≠ 21 → a ≠ 22 → a ≠ 23 → M1 a = M a) → G Γ X 2 (R0, 51, 0, 0) 23 [some (.ref (gb Γ + 21)), some (vI i)] [] M1 := by
    intro q
    induction q with
    | zero =>
      intro i M1 hq h0 h1 h2 h3 h4 h5 h6
      refine g_iload_n hX d_Cand_beginBehindRow_23 rfl ?_
      refine g_aload_n hX d_Cand_beginBehindRow_24 rfl ?_
      refine g_getR hX fl_Cand_9 d_Cand_beginBehindRow_25 ⟨rfl, by decide⟩ rfl rfl ?_
      refine g_alen hX d_Cand_beginBehindRow_28 ⟨rfl, by decide⟩ ?_
      refine g_icmp_ge 47 hX d_Cand_beginBehindRow_29 (by decide) (by omega) (by omega) (fun h_29 => ?_) (fun h_29 => ?_)
      · refine g_vret hX hR d_Cand_beginBehindRow_47 ?_
        refine ⟨⟨h2, fun d u v w => ?_, ?_, ?_, fun i d hd => ?_⟩, h6⟩
        · rw [lk_end (Int.le_refl _)]; exact h5 d (by omega) (by omega)
        · rw [h3]; exact (cN_end n x g _).symm
        · rw [h4]; unfold cs; rw [cl_end]; rfl
        · unfold cs at hd; rw [cl_end] at hd; cases hd
      · exact absurd h_29 (by omega)
    | succ q ih =>
      intro i M1 hq h0 h1 h2 h3 h4 h5 h6
      refine g_iload_n hX d_Cand_beginBehindRow_23 rfl ?_
      refine g_aload_n hX d_Cand_beginBehindRow_24 rfl ?_
      refine g_getR hX fl_Cand_9 d_Cand_beginBehindRow_25 ⟨rfl, by decide⟩ rfl rfl ?_
      refine g_alen hX d_Cand_beginBehindRow_28 ⟨rfl, by decide⟩ ?_
      refine g_icmp_ge 47 hX d_Cand_beginBehindRow_29 (by decide) (by omega) (by omega) (fun h_29 => ?_) (fun h_29 => ?_)
      · exact absurd h_29 (by omega)
      · refine g_aload_n hX d_Cand_beginBehindRow_32 rfl ?_
        refine g_getR hX fl_Cand_9 d_Cand_beginBehindRow_33 ⟨rfl, by decide⟩ rfl rfl ?_
        refine g_iload_n hX d_Cand_beginBehindRow_36 rfl ?_
        refine g_iconst hX d_Cand_beginBehindRow_37 ?_
        refine g_callSN (host := "WindowCopies") hX yo_WC_store (by unfold nestWs; simp) d_Cand_beginBehindRow_38 (c_WC_store (k := 22) rfl (by decide) (n := 61) (by omega) (by omega)) rfl rfl (by decide) (Nat.le_of_ble_eq_true rfl) ⟨Nat.zero_le _, Nat.zero_le _⟩ (k_void fun M_38 hp_38 => ?_)
        replace hp_38 := hp_38.symm; subst hp_38
        refine g_iinc hX d_Cand_beginBehindRow_41 rfl (by decide) ?_
        refine g_goto 23 hX d_Cand_beginBehindRow_44 (by decide) ?_
        refine ih (i + 1) _ (by omega) (by omega) (by omega) (by rw [mU_cell (by omega)]; exact h2) (by rw [mU_cell (by omega)]; exact h3) (by rw [mU_cell (by omega)]; exact h4) (fun j u v => ?_) (fun a u v w => by rw [mU_cell v]; exact h6 a u v w)
        by_cases hj : j = i
        · subst hj; rw [mU_self]
        · rw [mU_slot hj]; exact h5 j u (by omega)
  refine g_aload_n hX d_Cand_beginBehindRow_0 rfl ?_
  refine g_aload_n hX d_Cand_beginBehindRow_1 rfl ?_
  refine g_getR hX fl_Cand_28 d_Cand_beginBehindRow_2 ⟨rfl, by decide⟩ rfl rfl ?_
  refine g_callV hX yo_State_size q_315 d_Cand_beginBehindRow_5 (c_State_size st_1) rfl rfl ⟨rfl, by decide⟩ rfl (by decide) (Nat.le_of_ble_eq_true rfl) ⟨Nat.zero_le _, Nat.zero_le _⟩ (k_int fun r_5 M_5 ir_5 hp_5 => ?_)
  obtain ⟨er_5, eM_5⟩ := hp_5; replace er_5 := er_5.symm; replace eM_5 := eM_5.symm; subst er_5; subst eM_5
  refine g_putI hX fl_Cand_18 d_Cand_beginBehindRow_8 3 ⟨rfl, by decide⟩ rfl rfl (fun q h => by cases h; rfl) rfl (by omega) ?_
  refine g_aload_n hX d_Cand_beginBehindRow_11 rfl ?_
  refine g_iconst hX d_Cand_beginBehindRow_12 ?_
  refine g_putI hX fl_Cand_22 d_Cand_beginBehindRow_13 4 ⟨rfl, by decide⟩ rfl rfl (fun q h => by cases h; rfl) rfl (by omega) ?_
  refine g_aload_n hX d_Cand_beginBehindRow_16 rfl ?_
  refine g_iconst hX d_Cand_beginBehindRow_17 ?_
  refine g_putI hX fl_Cand_25 d_Cand_beginBehindRow_18 5 ⟨rfl, by decide⟩ rfl rfl (fun q h => by cases h; rfl) rfl (by omega) ?_
  refine g_iconst hX d_Cand_beginBehindRow_21 ?_
  refine g_istore_n hX d_Cand_beginBehindRow_22 (by decide) ?_
  exact LOOP _ 0 _ rfl (by omega) (by omega) (by rw [mU_slot (by omega), mU_slot (by omega), mU_self]; exact v1) (by rw [mU_slot (by omega), mU_self]) (by rw [mU_self]) (fun j u v => by omega) (fun a u v w => by rw [mU_cell u, mU_cell u, mU_cell u])
theorem c_Cand_takeIn {Γ : gX} {l : Launch} {M : mI} {d c : Int} (h0 : 0 ≤ M 21 5 ∧ M 21 5 ≤ 60) (h1 : iR (M 21 4 + 1)) (hd : iR d) (hc : 0 ≤ c ∧ c ≤ 60) : Cn Γ l i_Cand_takeIn R0 51 [.ref (gb Γ + 21), vI d, vI c] M (pV (fun M' => M' = if M 21 5 < c then mU (mU (mU M 21 4 (M 21 4 + 1)) 23 (M 21 5) d) 21 5 (M 21 5 + 1) else mU M 21 4 (M 21 4 + 1))) := by
  refine cn_intro (L := [some (.ref (gb Γ + 21)), some (vI d), some (vI c)]) yo_Cand_takeIn.1 rfl (Nat.le_of_ble_eq_true rfl) rfl (fun X hX hR => ?_)
  refine g_aload_n hX d_Cand_takeIn_0 rfl ?_
  refine g_dup hX d_Cand_takeIn_1 rfl ?_
  refine g_getI hX fl_Cand_22 d_Cand_takeIn_2 4 ⟨rfl, by decide⟩ rfl rfl (fun r_2 => ?_)
  refine g_iconst hX d_Cand_takeIn_5 ?_
  refine g_iadd hX d_Cand_takeIn_6 ?_
  refine g_putI hX fl_Cand_22 d_Cand_takeIn_7 4 ⟨rfl, by decide⟩ rfl rfl (fun q h => by cases h; rfl) rfl (by omega) ?_
  refine g_aload_n hX d_Cand_takeIn_10 rfl ?_
  refine g_getI hX fl_Cand_25 d_Cand_takeIn_11 5 ⟨rfl, by decide⟩ rfl rfl (fun r_11 => ?_)
  have e11 : mU M 21 4 (M 21 4 + 1) 21 5 = M 21 5 := by rw [mU_slot (by omega)]
  rw [e11] at r_11 ⊢
  refine g_iload_n hX d_Cand_takeIn_14 rfl ?_
  refine g_icmp_ge 40 hX d_Cand_takeIn_15 (by decide) (by omega) (by omega) (fun h_15 => ?_) (fun h_15 => ?_)
  · rw [show (mU M 21 4 (M 21 4 + 1)) = (if M 21 5 < c then mU (mU (mU M 21 4 (M 21 4 + 1)) 23 (M 21 5) d) 21 5 (M 21 5 + 1) else mU M 21 4 (M 21 4 + 1)) by rw [if_neg (by omega)]]
    refine g_vret hX hR d_Cand_takeIn_40 ?_
    first | rfl | rw [if_pos (by omega)]
  · refine g_aload_n hX d_Cand_takeIn_18 rfl ?_
    refine g_getR hX fl_Cand_15 d_Cand_takeIn_19 ⟨rfl, by decide⟩ rfl rfl ?_
    refine g_aload_n hX d_Cand_takeIn_22 rfl ?_
    refine g_getI hX fl_Cand_25 d_Cand_takeIn_23 5 ⟨rfl, by decide⟩ rfl rfl (fun r_23 => ?_)
    rw [e11]
    refine g_iload_n hX d_Cand_takeIn_26 rfl ?_
    refine g_callSN (host := "WindowCopies") hX yo_WC_store (by unfold nestWs; simp) d_Cand_takeIn_27 (c_WC_store (k := 23) rfl (by decide) (n := 60) (by omega) hd) rfl rfl (by decide) (Nat.le_of_ble_eq_true rfl) ⟨Nat.zero_le _, Nat.zero_le _⟩ (k_void fun M_27 hp_27 => ?_)
    replace hp_27 := hp_27.symm; subst hp_27
    refine g_aload_n hX d_Cand_takeIn_30 rfl ?_
    refine g_dup hX d_Cand_takeIn_31 rfl ?_
    refine g_getI hX fl_Cand_25 d_Cand_takeIn_32 5 ⟨rfl, by decide⟩ rfl rfl (fun r_32 => ?_)
    rw [mU_cell (by omega), e11]
    refine g_iconst hX d_Cand_takeIn_35 ?_
    refine g_iadd hX d_Cand_takeIn_36 ?_
    refine g_putI hX fl_Cand_25 d_Cand_takeIn_37 5 ⟨rfl, by decide⟩ rfl rfl (fun q h => by cases h; rfl) rfl (by omega) ?_
    refine g_vret hX hR d_Cand_takeIn_40 ?_
    first | rfl | rw [if_pos (by omega)]
theorem c_Cand_stepAhead {Γ : gX} {l : Launch} {M : mI} {n p : Int} {x g : Int → Int} (hv : Sv M 1 n x g) (hg : Og g) (hc : Cp M n x g (p + 1)) (hp : 0 ≤ p ∧ p < n) : Cn Γ l i_Cand_stepAhead R0 51 [.ref (gb Γ + 21)] M (pV (fun M' => Cp M' n x g p ∧ ∀ a, a ≠ 21 → a ≠ 22 → a ≠ 23 → M' a = M a)) := by
  refine cn_intro (L := [some (.ref (gb Γ + 21)), none, none, none, none, none]) yo_Cand_stepAhead.1 rfl (Nat.le_of_ble_eq_true rfl) rfl (fun X hX hR => ?_)
  obtain ⟨v1, v2, v3, v4, v5⟩ := id hv
  obtain ⟨c1, c2, c3, c4, c5⟩ := hc
  obtain ⟨⟨g0, g0'⟩, ⟨g1, g1'⟩, ⟨g2, g2'⟩, ⟨g3, g3'⟩, ⟨g4, g4'⟩⟩ := id hg
  have LOOP : ∀ (q : Nat) (i : Nat) (M1 : mI), i + q = (min (g 0) p).toNat → M1 21 3 = p → M1 21 4 = cN n x g p i → M1 21 5 = ((cl n x g p i).length : Int) → (∀ (k : Nat) (d : Int), (cl n x g p i)[k]? = some d → M1 23 k = d) → (∀ d : Int, 1 ≤ d → d ≤ i → M1 22 d = lk n x p d) → (∀ d : Int, i < d → d ≤ min (g 0) p → M1 22 d = lk n x (p + 1) d) → (∀ a, a ≠ 21 → a ≠ 22 → a ≠ 23 → M1 a = M a) → G Γ X 6 (R0, 51, 0, 0) 47 [some (.ref (gb Γ + 21)), some (vI (min (g 0) p)), some (vI (g 2)), some (vI ((i : Int) + 1)), none, none] [] M1 := by
    intro q
    induction q with
    | zero =>
      intro i M1 hq h1 h2 h3 h4 h5 h6 h7
      refine g_iload_n hX d_Cand_stepAhead_47 rfl ?_
      refine g_iload_n hX d_Cand_stepAhead_48 rfl ?_
      refine g_icmp_gt 135 hX d_Cand_stepAhead_49 (by decide) (by omega) (by omega) (fun h_49 => ?_) (fun h_49 => ?_)
      · refine g_vret hX hR d_Cand_stepAhead_135 ?_
        have hst : cl n x g p p.toNat = cl n x g p i := by
          obtain ⟨k, hk⟩ : ∃ k : Nat, p.toNat = i + k := ⟨p.toNat - i, by omega⟩
          by_cases hz : k = 0
          · rw [hk, hz]; rfl
          · rw [hk]; exact cl_stop (Or.inl (by omega)) k
        have hsn : cN n x g p p.toNat = cN n x g p i := by
          obtain ⟨k, hk⟩ : ∃ k : Nat, p.toNat = i + k := ⟨p.toNat - i, by omega⟩
          by_cases hz : k = 0
          · rw [hk, hz]; rfl
          · rw [hk]; exact cN_stop (by omega) k
        refine ⟨⟨h1, fun d u v w => h5 d u (by omega), by unfold cNum; rw [hsn]; exact h2, by unfold cs; rw [hst]; exact h3, fun k d hd => by unfold cs at hd; rw [hst] at hd; exact h4 k d hd⟩, h7⟩
      · exact absurd h_49 (by omega)
    | succ q ih =>
      intro i M1 hq h1 h2 h3 h4 h5 h6 h7
      have hb1 := cN_b n x g p i
      have hb2 := cl_len n x g p i g2
      have w1 : Sv M1 1 n x g := hv.to (h7 1 (by decide) (by decide) (by decide)) (h7 2 (by decide) (by decide) (by decide)) (h7 3 (by decide) (by decide) (by decide))
      obtain ⟨y1, y2, y3, y4, y5⟩ := id w1
      have hlk := lk_nonneg n x p (i + 1)
      have hlk2 := @lk_le n x p (i + 1) (by omega)
      have J : ∀ (M2 : mI), M2 21 3 = p → M2 21 4 = cN n x g p (i + 1) → M2 21 5 = ((cl n x g p (i + 1)).length : Int) → (∀ (k : Nat) (d : Int), (cl n x g p (i + 1))[k]? = some d → M2 23 k = d) → M2 22 = mU M1 22 (i + 1) (lk n x p (i + 1)) 22 → (∀ a, a ≠ 21 → a ≠ 22 → a ≠ 23 → M2 a = M1 a) → G Γ X 6 (R0, 51, 0, 0) 129 [some (.ref (gb Γ + 21)), some (vI (min (g 0) p)), some (vI (g 2)), some (vI ((i : Int) + 1)), none, none] [] M2 := by
        intro M2 e1 e2 e3 e4 e5 e6
        refine g_iinc hX d_Cand_stepAhead_129 rfl (by decide) ?_
        refine g_goto 47 hX d_Cand_stepAhead_132 (by decide) ?_
        refine ih (i + 1) M2 (by omega) e1 e2 e3 e4 (fun d u v => ?_) (fun d u v => ?_) (fun a u v w => by rw [e6 a u v w]; exact h7 a u v w)
        · rw [e5]
          by_cases hd : d = i + 1
          · rw [hd, mU_self]
          · rw [mU_slot hd]; exact h5 d u (by omega)
        · rw [e5, mU_slot (by omega)]; exact h6 d (by omega) v
      have K : ∀ v : Int, v = lk n x p (i + 1) → G Γ X 6 (R0, 51, 0, 0) 105 [some (.ref (gb Γ + 21)), some (vI (min (g 0) p)), some (vI (g 2)), some (vI ((i : Int) + 1)), none, none] [vI v] M1 := by
        intro v hv'
        subst hv'
        refine g_istore hX d_Cand_stepAhead_105 (by decide) ?_
        refine g_aload_n hX d_Cand_stepAhead_107 rfl ?_
        refine g_getR hX fl_Cand_9 d_Cand_stepAhead_108 ⟨rfl, by decide⟩ rfl rfl ?_
        refine g_iload_n hX d_Cand_stepAhead_111 rfl ?_
        refine g_iload hX d_Cand_stepAhead_112 rfl ?_
        refine g_callSN (host := "WindowCopies") hX yo_WC_store (by unfold nestWs; simp) d_Cand_stepAhead_114 (c_WC_store (k := 22) rfl (by decide) (n := 61) (by omega) (by omega)) rfl rfl (by decide) (Nat.le_of_ble_eq_true rfl) ⟨Nat.zero_le _, Nat.zero_le _⟩ (k_void fun M_114 hp_114 => ?_)
        replace hp_114 := hp_114.symm; subst hp_114
        refine g_iload hX d_Cand_stepAhead_117 rfl ?_
        refine g_iconst hX d_Cand_stepAhead_119 ?_
        refine g_icmp_lt 129 hX d_Cand_stepAhead_120 (by decide) (by omega) (by omega) (fun h_120 => ?_) (fun h_120 => ?_)
        · refine g_drop 5 ?_
          exact J _ (by rw [mU_cell (by omega)]; exact h1) (by rw [mU_cell (by omega), cN_succ, if_neg (by omega)]; exact h2) (by rw [mU_cell (by omega), cl_succ, if_neg (by omega)]; exact h3) (fun k d hd => by rw [mU_cell (by omega)]; rw [cl_succ, if_neg (by omega)] at hd; exact h4 k d hd) rfl (fun a u v w => by rw [mU_cell v])
        · refine g_aload_n hX d_Cand_stepAhead_123 rfl ?_
          refine g_iload_n hX d_Cand_stepAhead_124 rfl ?_
          refine g_iload_n hX d_Cand_stepAhead_125 rfl ?_
          refine g_callV hX yo_Cand_takeIn q_327 d_Cand_stepAhead_126 (c_Cand_takeIn (by rw [mU_cell (by omega)]; omega) (by rw [mU_cell (by omega)]; omega) (by omega) (by omega)) rfl rfl ⟨rfl, by decide⟩ rfl (by decide) (Nat.le_of_ble_eq_true rfl) ⟨Nat.zero_le _, Nat.zero_le _⟩ (k_void fun M_126 hp_126 => ?_)
          replace hp_126 := hp_126.symm; subst hp_126
          refine g_drop 5 ?_
          have e4 : (mU M1 22 ((i : Int) + 1) (lk n x p (i + 1))) 21 = M1 21 := mU_cell (by omega)
          by_cases hq2 : ((cl n x g p i).length : Int) < g 2
          · rw [if_pos (by rw [e4]; omega)]
            refine J _ ?_ ?_ ?_ (fun k d hd => ?_) ?_ (fun a u v w => ?_)
            · rw [mU_slot (by omega), mU_cell (by omega), mU_slot (by omega), e4]; exact h1
            · rw [mU_slot (by omega), mU_cell (by omega), mU_self, e4, cN_succ, if_pos (by omega), h2]
            · rw [mU_self, e4, cl_succ, if_pos (by omega), h3]; simp
            · rw [cl_succ, if_pos (by omega)] at hd
              rw [mU_cell (by omega), e4, h3]
              by_cases hk : k < (cl n x g p i).length
              · rw [List.getElem?_append_left hk] at hd
                rw [mU_slot (by omega), mU_cell (by omega), mU_cell (by omega)]
                exact h4 k d hd
              · have hk2 : k = (cl n x g p i).length := by
                  have := (List.getElem?_eq_some_iff.mp hd).1
                  simp at this
                  omega
                subst hk2
                rw [mU_self]
                simpa using hd
            · rw [mU_cell (by omega), mU_cell (by omega), mU_cell (by omega)]
            · rw [mU_cell u, mU_cell w, mU_cell u, mU_cell v]
          · rw [if_neg (by rw [e4]; omega)]
            refine J _ ?_ ?_ ?_ (fun k d hd => ?_) ?_ (fun a u v w => ?_)
            · rw [mU_slot (by omega), e4]; exact h1
            · rw [mU_self, e4, cN_succ, if_pos (by omega), h2]
            · rw [mU_slot (by omega), e4, cl_succ, if_neg (by omega), h3]
            · rw [cl_succ, if_neg (by omega)] at hd
              rw [mU_cell (by omega), mU_cell (by omega)]
              exact h4 k d hd
            · rw [mU_cell (by omega)]
            · rw [mU_cell u, mU_cell v]
      refine g_iload_n hX d_Cand_stepAhead_47 rfl ?_
      refine g_iload_n hX d_Cand_stepAhead_48 rfl ?_
      refine g_icmp_gt 135 hX d_Cand_stepAhead_49 (by decide) (by omega) (by omega) (fun h_49 => ?_) (fun h_49 => ?_)
      · exact absurd h_49 (by omega)
      · refine g_aload_n hX d_Cand_stepAhead_52 rfl ?_
        refine g_getR hX fl_Cand_28 d_Cand_stepAhead_53 ⟨rfl, by decide⟩ rfl rfl ?_
        refine g_aload_n hX d_Cand_stepAhead_56 rfl ?_
        refine g_getI hX fl_Cand_18 d_Cand_stepAhead_57 3 ⟨rfl, by decide⟩ rfl rfl (fun r_57 => ?_)
        rw [h1] at r_57 ⊢
        refine g_callV hX yo_State_letterAt q_325 d_Cand_stepAhead_60 (c_State_letterAt st_1 (p := p) (by omega)) rfl rfl ⟨rfl, by decide⟩ rfl (by decide) (Nat.le_of_ble_eq_true rfl) ⟨Nat.zero_le _, Nat.zero_le _⟩ (k_int fun r_60 M_60 ir_60 hp_60 => ?_)
        obtain ⟨er_60, eM_60⟩ := hp_60; replace er_60 := er_60.symm; replace eM_60 := eM_60.symm; subst er_60; subst eM_60
        refine g_aload_n hX d_Cand_stepAhead_63 rfl ?_
        refine g_getR hX fl_Cand_28 d_Cand_stepAhead_64 ⟨rfl, by decide⟩ rfl rfl ?_
        refine g_aload_n hX d_Cand_stepAhead_67 rfl ?_
        refine g_getI hX fl_Cand_18 d_Cand_stepAhead_68 3 ⟨rfl, by decide⟩ rfl rfl (fun r_68 => ?_)
        rw [h1] at r_68 ⊢
        refine g_iload_n hX d_Cand_stepAhead_71 rfl ?_
        refine g_isub hX d_Cand_stepAhead_72 ?_
        refine g_callV hX yo_State_letterAt q_325 d_Cand_stepAhead_73 (c_State_letterAt st_1 (p := p - (i + 1)) (by omega)) rfl rfl ⟨rfl, by decide⟩ rfl (by decide) (Nat.le_of_ble_eq_true rfl) ⟨Nat.zero_le _, Nat.zero_le _⟩ (k_int fun r_73 M_73 ir_73 hp_73 => ?_)
        obtain ⟨er_73, eM_73⟩ := hp_73; replace er_73 := er_73.symm; replace eM_73 := eM_73.symm; subst er_73; subst eM_73
        rw [y4 p (by omega) (by omega)] at ir_60 ⊢
        rw [y4 (p - (i + 1)) (by omega) (by omega)] at ir_73 ⊢
        refine g_icmp_ne 83 hX d_Cand_stepAhead_76 (by decide) (by omega) (by omega) (fun h_76 => ?_) (fun h_76 => ?_)
        · refine g_iconst hX d_Cand_stepAhead_83 ?_
          refine g_istore hX d_Cand_stepAhead_84 (by decide) ?_
          refine g_iload hX d_Cand_stepAhead_86 rfl ?_
          refine g_if_eq 104 hX d_Cand_stepAhead_88 (by decide) (by omega) (fun h_88 => ?_) (fun h_88 => ?_)
          · refine g_iconst hX d_Cand_stepAhead_104 ?_
            first | exact absurd h_88 (by decide) | exact absurd rfl h_88 | (refine g_drop 4 ?_; exact K _ (lk_ne (by omega) h_76).symm) | (refine g_drop 4 ?_; exact K _ (by rw [lk_eq (by omega) h_76, h6 (i + 1) (by omega) (by omega)]))
          · refine g_aload_n hX d_Cand_stepAhead_91 rfl ?_
            refine g_getR hX fl_Cand_9 d_Cand_stepAhead_92 ⟨rfl, by decide⟩ rfl rfl ?_
            refine g_iload_n hX d_Cand_stepAhead_95 rfl ?_
            refine g_callSN (host := "WindowCopies") hX yo_WC_at (by unfold nestWs; simp) d_Cand_stepAhead_96 (c_WC_at (k := 22) rfl (by decide) (n := 61) (by omega)) rfl rfl (by decide) (Nat.le_of_ble_eq_true rfl) ⟨Nat.zero_le _, Nat.zero_le _⟩ (k_int fun r_96 M_96 ir_96 hp_96 => ?_)
            obtain ⟨er_96, eM_96⟩ := hp_96; replace er_96 := er_96.symm; replace eM_96 := eM_96.symm; subst er_96; subst eM_96
            refine g_iconst hX d_Cand_stepAhead_99 ?_
            refine g_iadd hX d_Cand_stepAhead_100 ?_
            refine g_goto 105 hX d_Cand_stepAhead_101 (by decide) ?_
            first | exact absurd h_88 (by decide) | exact absurd rfl h_88 | (refine g_drop 4 ?_; exact K _ (lk_ne (by omega) h_76).symm) | (refine g_drop 4 ?_; exact K _ (by rw [lk_eq (by omega) h_76, h6 (i + 1) (by omega) (by omega)]))
        · refine g_iconst hX d_Cand_stepAhead_79 ?_
          refine g_goto 84 hX d_Cand_stepAhead_80 (by decide) ?_
          refine g_istore hX d_Cand_stepAhead_84 (by decide) ?_
          refine g_iload hX d_Cand_stepAhead_86 rfl ?_
          refine g_if_eq 104 hX d_Cand_stepAhead_88 (by decide) (by omega) (fun h_88 => ?_) (fun h_88 => ?_)
          · refine g_iconst hX d_Cand_stepAhead_104 ?_
            first | exact absurd h_88 (by decide) | exact absurd rfl h_88 | (refine g_drop 4 ?_; exact K _ (lk_ne (by omega) h_76).symm) | (refine g_drop 4 ?_; exact K _ (by rw [lk_eq (by omega) h_76, h6 (i + 1) (by omega) (by omega)]))
          · refine g_aload_n hX d_Cand_stepAhead_91 rfl ?_
            refine g_getR hX fl_Cand_9 d_Cand_stepAhead_92 ⟨rfl, by decide⟩ rfl rfl ?_
            refine g_iload_n hX d_Cand_stepAhead_95 rfl ?_
            refine g_callSN (host := "WindowCopies") hX yo_WC_at (by unfold nestWs; simp) d_Cand_stepAhead_96 (c_WC_at (k := 22) rfl (by decide) (n := 61) (by omega)) rfl rfl (by decide) (Nat.le_of_ble_eq_true rfl) ⟨Nat.zero_le _, Nat.zero_le _⟩ (k_int fun r_96 M_96 ir_96 hp_96 => ?_)
            obtain ⟨er_96, eM_96⟩ := hp_96; replace er_96 := er_96.symm; replace eM_96 := eM_96.symm; subst er_96; subst eM_96
            refine g_iconst hX d_Cand_stepAhead_99 ?_
            refine g_iadd hX d_Cand_stepAhead_100 ?_
            refine g_goto 105 hX d_Cand_stepAhead_101 (by decide) ?_
            first | exact absurd h_88 (by decide) | exact absurd rfl h_88 | (refine g_drop 4 ?_; exact K _ (lk_ne (by omega) h_76).symm) | (refine g_drop 4 ?_; exact K _ (by rw [lk_eq (by omega) h_76, h6 (i + 1) (by omega) (by omega)]))
  refine g_aload_n hX d_Cand_stepAhead_0 rfl ?_
  refine g_dup hX d_Cand_stepAhead_1 rfl ?_
  refine g_getI hX fl_Cand_18 d_Cand_stepAhead_2 3 ⟨rfl, by decide⟩ rfl rfl (fun r_2 => ?_)
  rw [c1] at r_2 ⊢
  refine g_iconst hX d_Cand_stepAhead_5 ?_
  refine g_isub hX d_Cand_stepAhead_6 ?_
  rw [show p + 1 - 1 = p by omega]
  refine g_putI hX fl_Cand_18 d_Cand_stepAhead_7 3 ⟨rfl, by decide⟩ rfl rfl (fun q h => by cases h; rfl) rfl (by omega) ?_
  refine g_aload_n hX d_Cand_stepAhead_10 rfl ?_
  refine g_iconst hX d_Cand_stepAhead_11 ?_
  refine g_putI hX fl_Cand_22 d_Cand_stepAhead_12 4 ⟨rfl, by decide⟩ rfl rfl (fun q h => by cases h; rfl) rfl (by omega) ?_
  refine g_aload_n hX d_Cand_stepAhead_15 rfl ?_
  refine g_iconst hX d_Cand_stepAhead_16 ?_
  refine g_putI hX fl_Cand_25 d_Cand_stepAhead_17 5 ⟨rfl, by decide⟩ rfl rfl (fun q h => by cases h; rfl) rfl (by omega) ?_
  refine g_aload_n hX d_Cand_stepAhead_20 rfl ?_
  refine g_getR hX fl_Cand_28 d_Cand_stepAhead_21 ⟨rfl, by decide⟩ rfl rfl ?_
  refine g_iconst hX d_Cand_stepAhead_24 ?_
  refine g_callV hX yo_State_setting q_321 d_Cand_stepAhead_25 (c_State_setting st_1 (p := 0) (by omega)) rfl rfl ⟨rfl, by decide⟩ rfl (by decide) (Nat.le_of_ble_eq_true rfl) ⟨Nat.zero_le _, Nat.zero_le _⟩ (k_int fun r_25 M_25 ir_25 hp_25 => ?_)
  obtain ⟨er_25, eM_25⟩ := hp_25; replace er_25 := er_25.symm; replace eM_25 := eM_25.symm; subst er_25; subst eM_25
  rw [mU_cell (by omega), mU_cell (by omega), mU_cell (by omega), v5 0 (by omega) (by omega)] at ir_25 ⊢
  refine g_aload_n hX d_Cand_stepAhead_28 rfl ?_
  refine g_getI hX fl_Cand_18 d_Cand_stepAhead_29 3 ⟨rfl, by decide⟩ rfl rfl (fun r_29 => ?_)
  rw [mU_slot (by omega), mU_slot (by omega), mU_self] at r_29 ⊢
  refine g_min hX d_Cand_stepAhead_32 q_322 (by omega) (by omega) (by decide) (Nat.le_of_ble_eq_true rfl) ⟨Nat.zero_le _, Nat.zero_le _⟩ ?_
  refine g_istore_n hX d_Cand_stepAhead_35 (by decide) ?_
  refine g_aload_n hX d_Cand_stepAhead_36 rfl ?_
  refine g_getR hX fl_Cand_28 d_Cand_stepAhead_37 ⟨rfl, by decide⟩ rfl rfl ?_
  refine g_iconst hX d_Cand_stepAhead_40 ?_
  refine g_callV hX yo_State_setting q_321 d_Cand_stepAhead_41 (c_State_setting st_1 (p := 2) (by omega)) rfl rfl ⟨rfl, by decide⟩ rfl (by decide) (Nat.le_of_ble_eq_true rfl) ⟨Nat.zero_le _, Nat.zero_le _⟩ (k_int fun r_41 M_41 ir_41 hp_41 => ?_)
  obtain ⟨er_41, eM_41⟩ := hp_41; replace er_41 := er_41.symm; replace eM_41 := eM_41.symm; subst er_41; subst eM_41
  rw [mU_cell (by omega), mU_cell (by omega), mU_cell (by omega), v5 2 (by omega) (by omega)] at ir_41 ⊢
  refine g_istore_n hX d_Cand_stepAhead_44 (by decide) ?_
  refine g_iconst hX d_Cand_stepAhead_45 ?_
  refine g_istore_n hX d_Cand_stepAhead_46 (by decide) ?_
  exact LOOP _ 0 _ (Nat.zero_add _) (by rw [mU_slot (by omega), mU_slot (by omega), mU_self]) (by rw [mU_slot (by omega), mU_self]; rfl) (by rw [mU_self]; rfl) (fun k d hd => by cases hd) (fun d u v => by omega) (fun d u v => by rw [mU_cell (by omega), mU_cell (by omega), mU_cell (by omega)]; exact c2 d (by omega) (by omega) (by omega)) (fun a u v w => by rw [mU_cell u, mU_cell u, mU_cell u])
theorem c_Cand_lookAt {Γ : gX} {l : Launch} {M : mI} {n p : Int} {x g : Int → Int} (hv : Sv M 1 n x g) (hg : Og g) (hp : 0 ≤ p ∧ p < n) : Cn Γ l i_Cand_lookAt R0 51 [.ref (gb Γ + 21), vI p] M (pV (fun M' => Cp M' n x g p ∧ ∀ a, a ≠ 21 → a ≠ 22 → a ≠ 23 → M' a = M a)) := by
  refine cn_intro (L := [some (.ref (gb Γ + 21)), some (vI p), none]) yo_Cand_lookAt.1 rfl (Nat.le_of_ble_eq_true rfl) rfl (fun X hX hR => ?_)
  obtain ⟨v1, v2, v3, v4, v5⟩ := id hv
  have LOOP : ∀ (q : Nat) (j : Int) (M1 : mI), (j + 1 - p).toNat = q → p - 1 ≤ j → j < n → Cp M1 n x g (j + 1) → (∀ a, a ≠ 21 → a ≠ 22 → a ≠ 23 → M1 a = M a) → G Γ X 3 (R0, 51, 0, 0) 14 [some (.ref (gb Γ + 21)), some (vI p), some (vI j)] [] M1 := by
    intro q
    induction q with
    | zero =>
      intro j M1 hq h0 h1 h2 h3
      refine g_iload_n hX d_Cand_lookAt_14 rfl ?_
      refine g_iload_n hX d_Cand_lookAt_15 rfl ?_
      refine g_icmp_lt 29 hX d_Cand_lookAt_16 (by decide) (by omega) (by omega) (fun h_16 => ?_) (fun h_16 => ?_)
      · refine g_vret hX hR d_Cand_lookAt_29 ?_
        rw [show j + 1 = p by omega] at h2
        exact ⟨h2, h3⟩
      · exact absurd h_16 (by omega)
    | succ q ih =>
      intro j M1 hq h0 h1 h2 h3
      refine g_iload_n hX d_Cand_lookAt_14 rfl ?_
      refine g_iload_n hX d_Cand_lookAt_15 rfl ?_
      refine g_icmp_lt 29 hX d_Cand_lookAt_16 (by decide) (by omega) (by omega) (fun h_16 => ?_) (fun h_16 => ?_)
      · exact absurd h_16 (by omega)
      · refine g_aload_n hX d_Cand_lookAt_19 rfl ?_
        refine g_callV hX yo_Cand_stepAhead q_317 d_Cand_lookAt_20 (c_Cand_stepAhead (p := j) (hv.to (h3 1 (by decide) (by decide) (by decide)) (h3 2 (by decide) (by decide) (by decide)) (h3 3 (by decide) (by decide) (by decide))) hg h2 (by omega)) rfl rfl ⟨rfl, by decide⟩ rfl (by decide) (Nat.le_of_ble_eq_true rfl) ⟨Nat.zero_le _, Nat.zero_le _⟩ (k_void fun M_20 hp_20 => ?_)
        obtain ⟨p3, p4⟩ := hp_20
        refine g_iinc hX d_Cand_lookAt_23 rfl (by decide) ?_
        refine g_goto 14 hX d_Cand_lookAt_26 (by decide) ?_
        exact ih (j + -1) _ (by omega) (by omega) (by omega) (by rw [show j + -1 + 1 = j by omega]; exact p3) (fun a u v w => by rw [p4 a u v w]; exact h3 a u v w)
  refine g_aload_n hX d_Cand_lookAt_0 rfl ?_
  refine g_callV hX yo_Cand_beginBehindRow q_311 d_Cand_lookAt_1 (c_Cand_beginBehindRow hv) rfl rfl ⟨rfl, by decide⟩ rfl (by decide) (Nat.le_of_ble_eq_true rfl) ⟨Nat.zero_le _, Nat.zero_le _⟩ (k_void fun M_1 hp_1 => ?_)
  obtain ⟨p1, p2⟩ := hp_1
  refine g_aload_n hX d_Cand_lookAt_4 rfl ?_
  refine g_getR hX fl_Cand_28 d_Cand_lookAt_5 ⟨rfl, by decide⟩ rfl rfl ?_
  refine g_callV hX yo_State_size q_315 d_Cand_lookAt_8 (c_State_size st_1) rfl rfl ⟨rfl, by decide⟩ rfl (by decide) (Nat.le_of_ble_eq_true rfl) ⟨Nat.zero_le _, Nat.zero_le _⟩ (k_int fun r_8 M_8 ir_8 hp_8 => ?_)
  obtain ⟨er_8, eM_8⟩ := hp_8; replace er_8 := er_8.symm; replace eM_8 := eM_8.symm; subst er_8; subst eM_8
  have e8 : M_1 1 2 = n := by (rw [p2 1 (by decide) (by decide) (by decide)]; exact v1)
  rw [e8] at ir_8 ⊢
  refine g_iconst hX d_Cand_lookAt_11 ?_
  refine g_isub hX d_Cand_lookAt_12 ?_
  refine g_istore_n hX d_Cand_lookAt_13 (by decide) ?_
  exact LOOP _ (n - 1) M_1 rfl (by omega) (by omega) (by rw [show n - 1 + 1 = n by omega]; exact p1) p2
theorem c_Cand_all {Γ : gX} {l : Launch} {M : mI} : Cn Γ l i_Cand_all R0 51 [.ref (gb Γ + 21)] M (pI (fun r M' => r = M 21 4 ∧ M' = M)) := by
  refine cn_intro (L := [some (.ref (gb Γ + 21))]) yo_Cand_all.1 rfl (Nat.le_of_ble_eq_true rfl) rfl (fun X hX hR => ?_)
  refine g_aload_n hX d_Cand_all_0 rfl ?_
  refine g_getI hX fl_Cand_22 d_Cand_all_1 4 ⟨rfl, by decide⟩ rfl rfl (fun r_1 => ?_)
  refine g_iret hX hR d_Cand_all_4 (by omega) ?_
  exact ⟨rfl, rfl⟩
theorem c_Cand_lookedAt {Γ : gX} {l : Launch} {M : mI} : Cn Γ l i_Cand_lookedAt R0 51 [.ref (gb Γ + 21)] M (pI (fun r M' => r = M 21 5 ∧ M' = M)) := by
  refine cn_intro (L := [some (.ref (gb Γ + 21))]) yo_Cand_lookedAt.1 rfl (Nat.le_of_ble_eq_true rfl) rfl (fun X hX hR => ?_)
  refine g_aload_n hX d_Cand_lookedAt_0 rfl ?_
  refine g_getI hX fl_Cand_25 d_Cand_lookedAt_1 5 ⟨rfl, by decide⟩ rfl rfl (fun r_1 => ?_)
  refine g_iret hX hR d_Cand_lookedAt_4 (by omega) ?_
  exact ⟨rfl, rfl⟩
theorem c_Cand_distance {Γ : gX} {l : Launch} {M : mI} {n p d : Int} {x g : Int → Int} {i : Nat} (hc : Cp M n x g p) (hg : Og g) (hi : (cs n x g p)[i]? = some d) : Cn Γ l i_Cand_distance R0 51 [.ref (gb Γ + 21), vI i] M (pI (fun r M' => r = d ∧ M' = M)) := by
  refine cn_intro (L := [some (.ref (gb Γ + 21)), some (vI i)]) yo_Cand_distance.1 rfl (Nat.le_of_ble_eq_true rfl) rfl (fun X hX hR => ?_)
  have h1 := (List.getElem?_eq_some_iff.mp hi).1
  have h2 := (cl_len n x g p p.toNat hg.2.2.1.1).1
  have h3 := hg.2.2.1.2
  unfold cs at h1
  refine g_aload_n hX d_Cand_distance_0 rfl ?_
  refine g_getR hX fl_Cand_15 d_Cand_distance_1 ⟨rfl, by decide⟩ rfl rfl ?_
  refine g_iload_n hX d_Cand_distance_4 rfl ?_
  refine g_callSN (host := "WindowCopies") hX yo_WC_at (by unfold nestWs; simp) d_Cand_distance_5 (c_WC_at (k := 23) rfl (by decide) (n := 60) (by omega)) rfl rfl (by decide) (Nat.le_of_ble_eq_true rfl) ⟨Nat.zero_le _, Nat.zero_le _⟩ (k_int fun r_5 M_5 ir_5 hp_5 => ?_)
  obtain ⟨er_5, eM_5⟩ := hp_5; replace er_5 := er_5.symm; replace eM_5 := eM_5.symm; subst er_5; subst eM_5
  refine g_iret hX hR d_Cand_distance_8 (by omega) ?_
  exact ⟨hc.2.2.2.2 i d hi, rfl⟩
theorem c_Cand_reach {Γ : gX} {l : Launch} {M : mI} {n p d : Int} {x g : Int → Int} {i : Nat} (hc : Cp M n x g p) (hg : Og g) (hi : (cs n x g p)[i]? = some d) (hp : 0 ≤ p ∧ p ≤ n ∧ n ≤ 60) : Cn Γ l i_Cand_reach R0 51 [.ref (gb Γ + 21), vI i] M (pI (fun r M' => r = rc n x p d ∧ M' = M)) := by
  refine cn_intro (L := [some (.ref (gb Γ + 21)), some (vI i)]) yo_Cand_reach.1 rfl (Nat.le_of_ble_eq_true rfl) rfl (fun X hX hR => ?_)
  have h1 := (List.getElem?_eq_some_iff.mp hi).1
  have h2 := (cl_len n x g p p.toNat hg.2.2.1.1).1
  have h3 := hg.2.2.1.2
  have h4 := cs_at hi hp.1
  unfold cs at h1
  refine g_bipush hX d_Cand_reach_0 rfl ?_
  refine g_aload_n hX d_Cand_reach_2 rfl ?_
  refine g_getR hX fl_Cand_9 d_Cand_reach_3 ⟨rfl, by decide⟩ rfl rfl ?_
  refine g_aload_n hX d_Cand_reach_6 rfl ?_
  refine g_getR hX fl_Cand_15 d_Cand_reach_7 ⟨rfl, by decide⟩ rfl rfl ?_
  refine g_iload_n hX d_Cand_reach_10 rfl ?_
  refine g_callSN (host := "WindowCopies") hX yo_WC_at (by unfold nestWs; simp) d_Cand_reach_11 (c_WC_at (k := 23) rfl (by decide) (n := 60) (by omega)) rfl rfl (by decide) (Nat.le_of_ble_eq_true rfl) ⟨Nat.zero_le _, Nat.zero_le _⟩ (k_int fun r_11 M_11 ir_11 hp_11 => ?_)
  obtain ⟨er_11, eM_11⟩ := hp_11; replace er_11 := er_11.symm; replace eM_11 := eM_11.symm; subst er_11; subst eM_11
  rw [hc.2.2.2.2 i d hi] at ir_11 ⊢
  refine g_callSN (host := "WindowCopies") hX yo_WC_at (by unfold nestWs; simp) d_Cand_reach_14 (c_WC_at (k := 22) rfl (by decide) (n := 61) (by omega)) rfl rfl (by decide) (Nat.le_of_ble_eq_true rfl) ⟨Nat.zero_le _, Nat.zero_le _⟩ (k_int fun r_14 M_14 ir_14 hp_14 => ?_)
  obtain ⟨er_14, eM_14⟩ := hp_14; replace er_14 := er_14.symm; replace eM_14 := eM_14.symm; subst er_14; subst eM_14
  refine g_min hX d_Cand_reach_17 q_322 (by omega) (by omega) (by decide) (Nat.le_of_ble_eq_true rfl) ⟨Nat.zero_le _, Nat.zero_le _⟩ ?_
  refine g_iret hX hR d_Cand_reach_20 (by omega) ?_
  exact ⟨by rw [hc.2.1 d (by omega) (by omega) (by omega)]; rfl, rfl⟩
theorem c_Cand_best {Γ : gX} {l : Launch} {M : mI} {n p : Int} {x g : Int → Int} (hv : Sv M 1 n x g) (hc : Cp M n x g p) (hg : Og g) (hp : 0 ≤ p ∧ p ≤ n) : Cn Γ l i_Cand_best R0 51 [.ref (gb Γ + 21)] M (pI (fun r M' => ((bD n x g p = -10004 ∧ r = -1) ∨ ∃ k : Nat, (cs n x g p)[k]? = some (bD n x g p) ∧ r = k) ∧ M' = M)) := by
  refine cn_intro (L := [some (.ref (gb Γ + 21)), none, none, none]) yo_Cand_best.1 rfl (Nat.le_of_ble_eq_true rfl) rfl (fun X hX hR => ?_)
  obtain ⟨v1, v2, v3, v4, v5⟩ := id hv
  obtain ⟨g1, g1'⟩ := hg.2.1
  have hlen : ((cs n x g p).length : Int) ≤ g 2 := (cl_len n x g p p.toNat hg.2.2.1.1).1
  have hg2 := hg.2.2.1.2
  have hc5 := hc.2.2.2.1
  have LOOP : ∀ (q : Nat) (i : Nat) (b : Int), i + q = (cs n x g p).length → (((Fb (rc n x p) (g 1 - 1) (cs n x g p) i).2 = -10004 ∧ b = -1) ∨ ∃ k : Nat, (cs n x g p)[k]? = some (Fb (rc n x p) (g 1 - 1) (cs n x g p) i).2 ∧ b = k) → G Γ X 4 (R0, 51, 0, 0) 15 [some (.ref (gb Γ + 21)), some (vI b), some (vI (Fb (rc n x p) (g 1 - 1) (cs n x g p) i).1), some (vI i)] [] M := by
    intro q
    induction q with
    | zero =>
      intro i b hq hb
      have hb2 : -1 ≤ b ∧ b < 61 := by
        rcases hb with ⟨_, h⟩ | ⟨k, hk, h⟩
        · omega
        · have := (List.getElem?_eq_some_iff.mp hk).1
          omega
      refine g_iload_n hX d_Cand_best_15 rfl ?_
      refine g_aload_n hX d_Cand_best_16 rfl ?_
      refine g_getI hX fl_Cand_25 d_Cand_best_17 5 ⟨rfl, by decide⟩ rfl rfl (fun r_17 => ?_)
      refine g_icmp_ge 46 hX d_Cand_best_20 (by decide) (by omega) (by omega) (fun h_20 => ?_) (fun h_20 => ?_)
      · refine g_iload_n hX d_Cand_best_46 rfl ?_
        refine g_iret hX hR d_Cand_best_47 (by omega) ?_
        rw [show i = (cs n x g p).length by omega] at hb
        exact ⟨hb, rfl⟩
      · exact absurd h_20 (by omega)
    | succ q ih =>
      intro i b hq hb
      have hl : (cs n x g p)[i]? = some ((cs n x g p).getD i 0) := by
        rw [List.getD_eq_getElem?_getD, List.getElem?_eq_getElem (by omega)]; rfl
      have hi60 : (i : Int) < 61 := by omega
      have hf1 := Fb_ge (rc n x p) (g 1 - 1) (cs n x g p) i
      have hf2 : (Fb (rc n x p) (g 1 - 1) (cs n x g p) i).1 ≤ 20 := by
        rcases Fb_spec (rc n x p) (g 1 - 1) (cs n x g p) i (by omega) with h | ⟨k, _, _, h, _⟩
        · omega
        · rw [h]; unfold rc; omega
      refine g_iload_n hX d_Cand_best_15 rfl ?_
      refine g_aload_n hX d_Cand_best_16 rfl ?_
      refine g_getI hX fl_Cand_25 d_Cand_best_17 5 ⟨rfl, by decide⟩ rfl rfl (fun r_17 => ?_)
      refine g_icmp_ge 46 hX d_Cand_best_20 (by decide) (by omega) (by omega) (fun h_20 => ?_) (fun h_20 => ?_)
      · exact absurd h_20 (by omega)
      · refine g_aload_n hX d_Cand_best_23 rfl ?_
        refine g_iload_n hX d_Cand_best_24 rfl ?_
        refine g_callV hX yo_Cand_reach q_355 d_Cand_best_25 (c_Cand_reach hc hg hl ⟨hp.1, hp.2, v3⟩) rfl rfl ⟨rfl, by decide⟩ rfl (by decide) (Nat.le_of_ble_eq_true rfl) ⟨Nat.zero_le _, Nat.zero_le _⟩ (k_int fun r_25 M_25 ir_25 hp_25 => ?_)
        obtain ⟨er_25, eM_25⟩ := hp_25; replace er_25 := er_25.symm; replace eM_25 := eM_25.symm; subst er_25; subst eM_25
        refine g_iload_n hX d_Cand_best_28 rfl ?_
        refine g_icmp_le 40 hX d_Cand_best_29 (by decide) (by omega) (by omega) (fun h_29 => ?_) (fun h_29 => ?_)
        · have e := Fb_succ (rc n x p) (g 1 - 1) (cs n x g p) i
          rw [if_neg (by omega)] at e
          rw [← e]
          have hb' := hb
          rw [← e] at hb'
          refine g_iinc hX d_Cand_best_40 rfl (by decide) ?_
          refine g_goto 15 hX d_Cand_best_43 (by decide) ?_
          exact ih (i + 1) _ (by omega) hb'
        · have e := Fb_succ (rc n x p) (g 1 - 1) (cs n x g p) i
          rw [if_pos (by omega)] at e
          have hb' : ((Fb (rc n x p) (g 1 - 1) (cs n x g p) (i + 1)).2 = -10004 ∧ (i : Int) = -1) ∨ ∃ k : Nat, (cs n x g p)[k]? = some (Fb (rc n x p) (g 1 - 1) (cs n x g p) (i + 1)).2 ∧ (i : Int) = k := Or.inr ⟨i, by rw [e]; exact hl, rfl⟩
          refine g_aload_n hX d_Cand_best_32 rfl ?_
          refine g_iload_n hX d_Cand_best_33 rfl ?_
          refine g_callV hX yo_Cand_reach q_355 d_Cand_best_34 (c_Cand_reach hc hg hl ⟨hp.1, hp.2, v3⟩) rfl rfl ⟨rfl, by decide⟩ rfl (by decide) (Nat.le_of_ble_eq_true rfl) ⟨Nat.zero_le _, Nat.zero_le _⟩ (k_int fun r_34 M_34 ir_34 hp_34 => ?_)
          obtain ⟨er_34, eM_34⟩ := hp_34; replace er_34 := er_34.symm; replace eM_34 := eM_34.symm; subst er_34; subst eM_34
          rw [show rc n x p ((cs n x g p).getD i 0) = (Fb (rc n x p) (g 1 - 1) (cs n x g p) (i + 1)).1 by rw [e]]
          refine g_istore_n hX d_Cand_best_37 (by decide) ?_
          refine g_iload_n hX d_Cand_best_38 rfl ?_
          refine g_istore_n hX d_Cand_best_39 (by decide) ?_
          refine g_iinc hX d_Cand_best_40 rfl (by decide) ?_
          refine g_goto 15 hX d_Cand_best_43 (by decide) ?_
          exact ih (i + 1) _ (by omega) hb'
  refine g_iconst hX d_Cand_best_0 ?_
  refine g_istore_n hX d_Cand_best_1 (by decide) ?_
  refine g_aload_n hX d_Cand_best_2 rfl ?_
  refine g_getR hX fl_Cand_28 d_Cand_best_3 ⟨rfl, by decide⟩ rfl rfl ?_
  refine g_iconst hX d_Cand_best_6 ?_
  refine g_callV hX yo_State_setting q_321 d_Cand_best_7 (c_State_setting st_1 (p := 1) (by omega)) rfl rfl ⟨rfl, by decide⟩ rfl (by decide) (Nat.le_of_ble_eq_true rfl) ⟨Nat.zero_le _, Nat.zero_le _⟩ (k_int fun r_7 M_7 ir_7 hp_7 => ?_)
  obtain ⟨er_7, eM_7⟩ := hp_7; replace er_7 := er_7.symm; replace eM_7 := eM_7.symm; subst er_7; subst eM_7
  rw [v5 1 (by omega) (by omega)] at ir_7 ⊢
  refine g_iconst hX d_Cand_best_10 ?_
  refine g_isub hX d_Cand_best_11 ?_
  refine g_istore_n hX d_Cand_best_12 (by decide) ?_
  refine g_iconst hX d_Cand_best_13 ?_
  refine g_istore_n hX d_Cand_best_14 (by decide) ?_
  exact LOOP (cs n x g p).length 0 (-1) (Nat.zero_add _) (Or.inl ⟨rfl, rfl⟩)
end
section
/-! parts: three ways -/
def sv (n : Int) (x g : Int → Int) (p : Int) : Int := if bD n x g p = -10004 then 0 else rc n x p (bD n x g p) * g 3 - g 4
theorem cl_past (n : Int) (x g : Int → Int) {p : Int} (h : n ≤ p) (d : Nat) : cl n x g p d = [] := by
  induction d with
  | zero => rfl
  | succ d ih => rw [cl_succ, if_neg (by rw [lk_end h]; omega), ih]
theorem bD_past (n : Int) (x g : Int → Int) {p : Int} (h : n ≤ p) : bD n x g p = -10004 := by
  unfold bD bP cs
  rw [cl_past n x g h]
  rfl
theorem sv_past (n : Int) (x g : Int → Int) {p : Int} (h : n ≤ p) : sv n x g p = 0 := by
  unfold sv
  rw [if_pos (bD_past n x g h)]
/-- a copy with distance d at p, of length l, l - 1 .. (k lengths), against the best so far: cost, length, distance -/
def wI (T : Int → Int) (c p d : Int) : Int × Int × Int → Int → Nat → Int × Int × Int
  | s, _, 0 => s
  | s, l, k + 1 => wI T c p d (if c + T (p + l) < s.1 then (c + T (p + l), l, d) else s) (l - 1) k
def w2 (n : Int) (x g T : Int → Int) (p : Int) : Int × Int × Int := (cs n x g p).foldl (fun s d => wI T (g 4) p d s (rc n x p d) (rc n x p d - g 1 + 1).toNat) (g 3 + T (p + 1), 1, 0)
def dpT (n : Int) (x g : Int → Int) : Nat → Int → Int
  | 0 => fun _ => 0
  | k + 1 => fun q => if q = n - (k + 1) then (w2 n x g (dpT n x g k) (n - (k + 1))).1 else dpT n x g k q
/-- what the cheapest parts from q on cost -/
def cC (n : Int) (x g : Int → Int) : Int → Int := dpT n x g n.toNat
theorem wI_succ (T : Int → Int) (c p d : Int) (s : Int × Int × Int) (l : Int) (k : Nat) : wI T c p d s l (k + 1) = wI T c p d (if c + T (p + l) < s.1 then (c + T (p + l), l, d) else s) (l - 1) k := rfl
theorem wI_congr {T T' : Int → Int} {c p d : Int} (k : Nat) : ∀ (s : Int × Int × Int) (l : Int), (∀ j : Int, l - k < j → j ≤ l → T (p + j) = T' (p + j)) → wI T c p d s l k = wI T' c p d s l k := by
  induction k with
  | zero => intro s l h; rfl
  | succ k ih =>
    intro s l h
    rw [wI_succ, wI_succ, h l (by omega) (by omega)]
    exact ih _ _ (fun j h1 h2 => h j (by omega) (by omega))
theorem foldl_congr {α β : Type} {f f' : α → β → α} (l : List β) : ∀ s, (∀ b ∈ l, ∀ s, f s b = f' s b) → l.foldl f s = l.foldl f' s := by
  induction l with
  | nil => intro s h; rfl
  | cons b l ih =>
    intro s h
    rw [List.foldl_cons, List.foldl_cons, h b List.mem_cons_self s]
    exact ih _ (fun b' hb' => h b' (List.mem_cons_of_mem _ hb'))
theorem rc_b {n : Int} {x : Int → Int} {p d : Int} (hp : p ≤ n) : 0 ≤ rc n x p d ∧ rc n x p d ≤ 20 ∧ p + rc n x p d ≤ n := by
  have h1 := lk_nonneg n x p d
  have h2 := @lk_le n x p d hp
  unfold rc
  omega
theorem cs_mem {n : Int} {x g : Int → Int} {p d : Int} (h : d ∈ cs n x g p) (hp : 0 ≤ p) : 1 ≤ d ∧ d ≤ p ∧ d ≤ g 0 ∧ 2 ≤ lk n x p d := by
  obtain ⟨i, hi⟩ := List.getElem?_of_mem h
  exact cs_at hi hp
theorem w2_congr {n : Int} {x g T T' : Int → Int} {p : Int} (hg : Og g) (hp : p < n) (h : ∀ q, p < q → q ≤ n → T q = T' q) : w2 n x g T p = w2 n x g T' p := by
  unfold w2
  rw [h (p + 1) (by omega) (by omega)]
  refine foldl_congr _ _ fun d hd s => ?_
  have hb := @rc_b n x p d (by omega)
  obtain ⟨⟨g0, g0'⟩, ⟨g1, g1'⟩, ⟨g2, g2'⟩, ⟨g3, g3'⟩, ⟨g4, g4'⟩⟩ := hg
  refine wI_congr _ _ _ fun j h1 h2 => h (p + j) (by omega) (by omega)
theorem dpT_keep (n : Int) (x g : Int → Int) (k : Nat) (m : Nat) (q : Int) (h : n - k ≤ q) : dpT n x g (k + m) q = dpT n x g k q := by
  induction m with
  | zero => rfl
  | succ m ih =>
    show (if q = n - ((k + m : Nat) + 1) then _ else dpT n x g (k + m) q) = _
    rw [if_neg (by omega), ih]
theorem cC_end (n : Int) (x g : Int → Int) (hn : 0 ≤ n) : cC n x g n = 0 := by
  unfold cC
  have := dpT_keep n x g 0 n.toNat n (by omega)
  rw [Nat.zero_add] at this
  rw [this]
  rfl
theorem cC_at {n : Int} {x g : Int → Int} {p : Int} (hg : Og g) (h0 : 0 ≤ p) (hp : p < n) : cC n x g p = (w2 n x g (cC n x g) p).1 := by
  obtain ⟨k, hk⟩ : ∃ k : Nat, n - p = k + 1 := ⟨(n - p - 1).toNat, by omega⟩
  obtain ⟨m, hm⟩ : ∃ m : Nat, n.toNat = (k + 1) + m := ⟨n.toNat - (k + 1), by omega⟩
  have e1 : cC n x g p = dpT n x g (k + 1) p := by
    unfold cC
    rw [hm]
    exact dpT_keep n x g (k + 1) m p (by omega)
  rw [e1]
  show (if p = n - (k + 1) then (w2 n x g (dpT n x g k) (n - (k + 1))).1 else dpT n x g k p) = _
  rw [if_pos (by omega), show n - ((k : Int) + 1) = p by omega]
  rw [w2_congr (T' := cC n x g) hg hp]
  intro q h1 h2
  unfold cC
  rw [hm, show k + 1 + m = k + (1 + m) by omega]
  exact (dpT_keep n x g k (1 + m) q (by omega)).symm
/-- the part that a way tells at p, if one begins there: its distance and its length -/
def wt (n : Int) (x g : Int → Int) (p : Int) : Prop := 0 < sv n x g p ∧ sv n x g (p + 1) ≤ sv n x g p ∧ sv n x g (p + 2) ≤ sv n x g p
def pP (n : Int) (x g : Int → Int) (w p : Int) : Int × Int :=
  if w = 2 then (w2 n x g (cC n x g) p).2
  else if bD n x g p = -10004 then (1, 0)
  else if w = 0 then (rc n x p (bD n x g p), bD n x g p)
  else if 0 < sv n x g p ∧ sv n x g (p + 1) ≤ sv n x g p ∧ sv n x g (p + 2) ≤ sv n x g p then (rc n x p (bD n x g p), bD n x g p)
  else (1, 0)
def pL (n : Int) (x g : Int → Int) (w p : Int) : Int := (pP n x g w p).1
def pD (n : Int) (x g : Int → Int) (w p : Int) : Int := (pP n x g w p).2
/-- l is the length, d the distance of a part that may stand at p -/
def okP (n : Int) (g : Int → Int) (p : Int) (s : Int × Int) : Prop := 1 ≤ s.1 ∧ s.1 ≤ 20 ∧ p + s.1 ≤ n ∧ 0 ≤ s.2 ∧ s.2 ≤ p ∧ s.2 ≤ g 0 ∧ (s.2 = 0 → s.1 = 1) ∧ (s.2 ≠ 0 → g 1 ≤ s.1)
theorem wI_ok {n : Int} {g T : Int → Int} {p d : Int} (hd : 1 ≤ d ∧ d ≤ p ∧ d ≤ g 0) (h1 : 2 ≤ g 1) (k : Nat) : ∀ (s : Int × Int × Int) (l : Int), okP n g p s.2 → l ≤ 20 → p + l ≤ n → g 1 ≤ l - k + 1 → okP n g p (wI T (g 4) p d s l k).2 := by
  induction k with
  | zero => intro s l hs _ _ _; exact hs
  | succ k ih =>
    intro s l hs h2 h3 h4
    rw [wI_succ]
    refine ih _ _ ?_ (by omega) (by omega) (by omega)
    split
    · exact ⟨by show 1 ≤ l; omega, h2, h3, by show 0 ≤ d; omega, hd.2.1, hd.2.2, fun h => absurd (show d = 0 from h) (by omega), fun _ => by show g 1 ≤ l; omega⟩
    · exact hs
theorem wI_b {T : Int → Int} {c p d : Int} (hc : 0 ≤ c) (k : Nat) : ∀ (s : Int × Int × Int) (l : Int), 0 ≤ s.1 → (∀ j : Int, l - k < j → j ≤ l → 0 ≤ T (p + j)) → 0 ≤ (wI T c p d s l k).1 ∧ (wI T c p d s l k).1 ≤ s.1 := by
  induction k with
  | zero => intro s l hs _; exact ⟨hs, Int.le_refl _⟩
  | succ k ih =>
    intro s l hs hT
    rw [wI_succ]
    have zt1 := hT l (by omega) (by omega)
    have ze1 : 0 ≤ (if c + T (p + l) < s.1 then (c + T (p + l), l, d) else s).1 ∧ (if c + T (p + l) < s.1 then (c + T (p + l), l, d) else s).1 ≤ s.1 := by
      split
      · exact ⟨by show 0 ≤ c + T (p + l); omega, by show c + T (p + l) ≤ s.1; omega⟩
      · exact ⟨hs, Int.le_refl _⟩
    have zh1 := ih _ (l - 1) ze1.1 (fun j h1 h2 => hT j (by omega) (by omega))
    exact ⟨zh1.1, Int.le_trans zh1.2 ze1.2⟩
theorem w2_fold_ok {n : Int} {x g T : Int → Int} {p : Int} (hg : Og g) (hp : 0 ≤ p) (hn : p < n) (l : List Int) : ∀ (s : Int × Int × Int), (∀ d ∈ l, d ∈ cs n x g p) → okP n g p s.2 → okP n g p (l.foldl (fun s d => wI T (g 4) p d s (rc n x p d) (rc n x p d - g 1 + 1).toNat) s).2 := by
  induction l with
  | nil => intro s _ hs; exact hs
  | cons d l ih =>
    intro s hl hs
    rw [List.foldl_cons]
    refine ih _ (fun e he => hl e (List.mem_cons_of_mem _ he)) ?_
    have hd := cs_mem (hl d List.mem_cons_self) hp
    have hb := @rc_b n x p d (by omega)
    have h1 := hg.2.1.1
    by_cases hq : g 1 ≤ rc n x p d
    · exact wI_ok ⟨hd.1, hd.2.1, hd.2.2.1⟩ h1 _ _ _ hs (by omega) (by omega) (by omega)
    · rw [show (rc n x p d - g 1 + 1).toNat = 0 by omega]
      exact hs
theorem w2_fold_b {n : Int} {x g T : Int → Int} {p : Int} (hg : Og g) (hn : p < n) (hT : ∀ q, p < q → q ≤ n → 0 ≤ T q) (l : List Int) : ∀ (s : Int × Int × Int), 0 ≤ s.1 → 0 ≤ (l.foldl (fun s d => wI T (g 4) p d s (rc n x p d) (rc n x p d - g 1 + 1).toNat) s).1 ∧ (l.foldl (fun s d => wI T (g 4) p d s (rc n x p d) (rc n x p d - g 1 + 1).toNat) s).1 ≤ s.1 := by
  induction l with
  | nil => intro s hs; exact ⟨hs, Int.le_refl _⟩
  | cons d l ih =>
    intro s hs
    rw [List.foldl_cons]
    have hb := @rc_b n x p d (by omega)
    have h1 := hg.2.1.1
    have h2 := wI_b (T := T) (c := g 4) (p := p) (d := d) (by have := hg.2.2.2.2.1; omega) (rc n x p d - g 1 + 1).toNat s (rc n x p d) hs (fun j h1 h2 => hT (p + j) (by omega) (by omega))
    have h3 := ih _ h2.1
    omega
theorem w2_ok {n : Int} {x g T : Int → Int} {p : Int} (hg : Og g) (hp : 0 ≤ p) (hn : p < n) : okP n g p (w2 n x g T p).2 := by
  unfold w2
  refine w2_fold_ok hg hp hn _ _ (fun _ h => h) ?_
  have := hg.1.1
  exact ⟨by show (1 : Int) ≤ 1; omega, by show (1 : Int) ≤ 20; omega, by show p + 1 ≤ n; omega, Int.le_refl _, hp, by show (0 : Int) ≤ g 0; omega, fun _ => rfl, fun h => absurd rfl h⟩
theorem cC_b {n : Int} {x g : Int → Int} (hg : Og g) (hn : 0 ≤ n) (k : Nat) : ∀ p : Int, 0 ≤ p → n - p = k → 0 ≤ cC n x g p ∧ cC n x g p ≤ 20 * k := by
  induction k using Nat.strongRecOn with
  | ind k ih =>
    intro p hp hk
    by_cases hz : k = 0
    · subst hz
      rw [show p = n by omega, cC_end n x g hn]
      omega
    · have h1 := ih (k - 1) (by omega) (p + 1) (by omega) (by omega)
      have h3 := hg.2.2.2.1
      have h2 := w2_fold_b (x := x) (T := cC n x g) hg (show p < n by omega) (fun q h1 h2 => (ih (n - q).toNat (by omega) q (by omega) (by omega)).1) (cs n x g p) (g 3 + cC n x g (p + 1), 1, 0) (by show 0 ≤ g 3 + cC n x g (p + 1); omega)
      rw [cC_at hg hp (by omega)]
      unfold w2
      have h4 : (g 3 + cC n x g (p + 1), (1 : Int), (0 : Int)).1 = g 3 + cC n x g (p + 1) := rfl
      rw [h4] at h2
      omega
theorem cC_bound {n : Int} {x g : Int → Int} (hg : Og g) {p : Int} (hp : 0 ≤ p) (hn : p ≤ n) (h60 : n ≤ 60) : 0 ≤ cC n x g p ∧ cC n x g p ≤ 1200 := by
  have zb1 := cC_b (n := n) (x := x) hg (by omega) (n - p).toNat p hp (by omega)
  omega
theorem pP_ok {n : Int} {x g : Int → Int} {w p : Int} (hg : Og g) (hp : 0 ≤ p) (hn : p < n) : okP n g p (pP n x g w p) := by
  have h0 := hg.1.1
  have hl : okP n g p (1, 0) := ⟨by show (1 : Int) ≤ 1; omega, by show (1 : Int) ≤ 20; omega, by show p + 1 ≤ n; omega, Int.le_refl _, hp, by show (0 : Int) ≤ g 0; omega, fun _ => rfl, fun h => absurd rfl h⟩
  unfold pP
  split
  · exact w2_ok hg hp hn
  · split
    · exact hl
    · rename_i h1 h2
      have hc : okP n g p (rc n x p (bD n x g p), bD n x g p) := by
        rcases bD_cases (x := x) hg hp with h | ⟨h3, h4, h5, h6, h7⟩
        · exact absurd h h2
        · have hb := @rc_b n x p (bD n x g p) (by omega)
          have := hg.2.1.1
          exact ⟨by show 1 ≤ rc n x p (bD n x g p); omega, hb.2.1, hb.2.2, by show 0 ≤ bD n x g p; omega, h4, h5, fun h => absurd (show bD n x g p = 0 from h) (by omega), fun _ => h7⟩
      split
      · exact hc
      · split
        · exact hc
        · exact hl
theorem wI_add {T : Int → Int} {c p d : Int} (a b : Nat) : ∀ (s : Int × Int × Int) (l : Int), wI T c p d s l (a + b) = wI T c p d (wI T c p d s l a) (l - a) b := by
  induction a with
  | zero => intro s l; rw [Nat.zero_add, show l - ((0 : Nat) : Int) = l by omega]; rfl
  | succ a ih =>
    intro s l
    rw [show a + 1 + b = (a + b) + 1 by omega, wI_succ, wI_succ, ih, show l - 1 - (a : Int) = l - ((a + 1 : Nat) : Int) by omega]
theorem wI_none {T : Int → Int} {c p d : Int} (k : Nat) : ∀ (s : Int × Int × Int) (l : Int), (∀ j : Int, l - k < j → j ≤ l → s.1 ≤ c + T (p + j)) → wI T c p d s l k = s := by
  induction k with
  | zero => intro s l _; rfl
  | succ k ih =>
    intro s l h
    rw [wI_succ, if_neg (by have := h l (by omega) (by omega); omega)]
    exact ih s (l - 1) (fun j h1 h2 => h j (by omega) (by omega))
theorem wI_least {T : Int → Int} {c p d : Int} (k : Nat) : ∀ (s : Int × Int × Int) (l : Int), (wI T c p d s l k).1 ≤ s.1 ∧ ∀ j : Int, l - k < j → j ≤ l → (wI T c p d s l k).1 ≤ c + T (p + j) := by
  induction k with
  | zero => intro s l; exact ⟨Int.le_refl _, fun j h1 h2 => by omega⟩
  | succ k ih =>
    intro s l
    rw [wI_succ]
    have h := ih (if c + T (p + l) < s.1 then (c + T (p + l), l, d) else s) (l - 1)
    have h1 : (if c + T (p + l) < s.1 then (c + T (p + l), l, d) else s).1 ≤ s.1 ∧ (if c + T (p + l) < s.1 then (c + T (p + l), l, d) else s).1 ≤ c + T (p + l) := by
      split
      · exact ⟨by show c + T (p + l) ≤ s.1; omega, Int.le_refl _⟩
      · omega
    refine ⟨by omega, fun j h2 h3 => ?_⟩
    by_cases hj : j = l
    · subst hj; omega
    · exact h.2 j (by omega) (by omega)
/-- lengths that a nearer candidate has already need not be looked at again -/
theorem wI_skip {T : Int → Int} {c p d : Int} {s : Int × Int × Int} {r lo sh : Int} (h1 : lo ≤ sh) (h : ∀ j : Int, lo ≤ j → j < sh → s.1 ≤ c + T (p + j)) : wI T c p d s r (r - lo + 1).toNat = wI T c p d s r (r - sh + 1).toNat := by
  by_cases h2 : sh ≤ r + 1
  · have e : (r - lo + 1).toNat = (r - sh + 1).toNat + (sh - lo).toNat := by omega
    rw [e, wI_add]
    refine wI_none _ _ _ fun j h3 h4 => ?_
    have h5 := (wI_least (T := T) (c := c) (p := p) (d := d) (r - sh + 1).toNat s r).1
    have h6 := h j (by omega) (by omega)
    omega
  · rw [show (r - sh + 1).toNat = 0 by omega]
    exact wI_none _ _ _ fun j h3 h4 => h j (by omega) (by omega)
/-! rows of parts: where they begin -/
def ly (L : Int → Int) (n : Int) : Nat → Int → List Int
  | 0, _ => []
  | k + 1, p => if p < n then p :: ly L n k (p + L p) else []
theorem ly_succ (L : Int → Int) (n : Int) (k : Nat) (p : Int) : ly L n (k + 1) p = if p < n then p :: ly L n k (p + L p) else [] := rfl
theorem ly_end (L : Int → Int) (n : Int) (k : Nat) (p : Int) (h : n ≤ p) : ly L n k p = [] := by
  cases k with
  | zero => rfl
  | succ k => rw [ly_succ, if_neg (by omega)]
theorem ly_more {L : Int → Int} {n : Int} (hL : ∀ q, 0 ≤ q → q < n → 1 ≤ L q) (k : Nat) : ∀ (m : Nat) (p : Int), 0 ≤ p → n - p ≤ k → ly L n (k + m) p = ly L n k p := by
  induction k with
  | zero => intro m p h0 h; rw [ly_end L n _ p (by omega), ly_end L n _ p (by omega)]
  | succ k ih =>
    intro m p h0 h
    rw [show k + 1 + m = (k + m) + 1 by omega, ly_succ, ly_succ]
    by_cases hp : p < n
    · rw [if_pos hp, if_pos hp, ih m (p + L p) (by have := hL p h0 hp; omega) (by have := hL p h0 hp; omega)]
    · rw [if_neg hp, if_neg hp]
/-- the places at which the parts begin -/
def bgs (n : Int) (x g : Int → Int) (w : Int) : List Int := ly (pL n x g w) n n.toNat 0
/-- copies, letters told by copies, the longest copy -/
def stS (D L : Int → Int) (s : Int × Int × Int) (q : Int) : Int × Int × Int := if D q ≠ 0 then (s.1 + 1, s.2.1 + L q, max s.2.2 (L q)) else s
def stF (D L : Int → Int) (l : List Int) : Int × Int × Int := l.foldl (stS D L) (0, 0, 0)
def sts (n : Int) (x g : Int → Int) (w : Int) : Int × Int × Int := stF (pD n x g w) (pL n x g w) (bgs n x g w)
def cst (n : Int) (x g : Int → Int) (w : Int) : Int := (((bgs n x g w).length : Int) - (sts n x g w).1) * g 3 + (sts n x g w).1 * g 4
theorem stF_app (D L : Int → Int) (l : List Int) (q : Int) : stF D L (l ++ [q]) = stS D L (stF D L l) q := by
  unfold stF
  rw [List.foldl_append]
  rfl
end
section
theorem mul_bd {a b c d : Int} (h1 : 0 ≤ a) (h2 : a ≤ c) (h3 : 0 ≤ b) (h4 : b ≤ d) : 0 ≤ a * b ∧ a * b ≤ c * d := ⟨Int.mul_nonneg h1 h3, Int.mul_le_mul h2 h4 h3 (by omega)⟩
theorem mU_over2 (M : mI) (k1 k2 : Nat) (j v w v' w' : Int) (h : k1 ≠ k2) : mU (mU (mU (mU M k1 j v) k2 j w) k1 j v') k2 j w' = mU (mU M k1 j v') k2 j w' := by
  funext a i
  unfold mU
  by_cases h1 : a = k2 ∧ i = j
  · rw [if_pos h1, if_pos h1]
  · rw [if_neg h1, if_neg h1]
    by_cases h2 : a = k1 ∧ i = j
    · simp only [if_pos h2, if_neg h1]
    · simp only [if_neg h2, if_neg h1]
theorem c_Plan_planPart {Γ : gX} {l : Launch} {M : mI} {w p d c : Int} (hw : 0 ≤ w ∧ w ≤ 2) (hp : 0 ≤ p ∧ p < 60) (hd : iR d) (hc : iR c) : Cn Γ l i_Plan_planPart R0 51 [.ref (gb Γ + 24), vI w, vI p, vI d, vI c] M (pV (fun M' => M' = mU (mU M 25 (w * 60 + p) d) 26 (w * 60 + p) c)) := by
  refine cn_intro (L := [some (.ref (gb Γ + 24)), some (vI w), some (vI p), some (vI d), some (vI c)]) yo_Plan_planPart.1 rfl (Nat.le_of_ble_eq_true rfl) rfl (fun X hX hR => ?_)
  refine g_aload_n hX d_Plan_planPart_0 rfl ?_
  refine g_getR hX fl_Plan_9 d_Plan_planPart_1 ⟨rfl, by decide⟩ rfl rfl ?_
  refine g_iload_n hX d_Plan_planPart_4 rfl ?_
  refine g_bipush hX d_Plan_planPart_5 rfl ?_
  refine g_imul hX d_Plan_planPart_7 ?_
  refine g_iload_n hX d_Plan_planPart_8 rfl ?_
  refine g_iadd hX d_Plan_planPart_9 ?_
  refine g_iload_n hX d_Plan_planPart_10 rfl ?_
  refine g_callSN (host := "WindowCopies") hX yo_WC_store (by unfold nestWs; simp) d_Plan_planPart_11 (c_WC_store (k := 25) rfl (by decide) (n := 180) (by omega) hd) rfl rfl (by decide) (Nat.le_of_ble_eq_true rfl) ⟨Nat.zero_le _, Nat.zero_le _⟩ (k_void fun M_11 hp_11 => ?_)
  replace hp_11 := hp_11.symm; subst hp_11
  refine g_aload_n hX d_Plan_planPart_14 rfl ?_
  refine g_getR hX fl_Plan_15 d_Plan_planPart_15 ⟨rfl, by decide⟩ rfl rfl ?_
  refine g_iload_n hX d_Plan_planPart_18 rfl ?_
  refine g_bipush hX d_Plan_planPart_19 rfl ?_
  refine g_imul hX d_Plan_planPart_21 ?_
  refine g_iload_n hX d_Plan_planPart_22 rfl ?_
  refine g_iadd hX d_Plan_planPart_23 ?_
  refine g_iload hX d_Plan_planPart_24 rfl ?_
  refine g_callSN (host := "WindowCopies") hX yo_WC_store (by unfold nestWs; simp) d_Plan_planPart_26 (c_WC_store (k := 26) rfl (by decide) (n := 180) (by omega) hc) rfl rfl (by decide) (Nat.le_of_ble_eq_true rfl) ⟨Nat.zero_le _, Nat.zero_le _⟩ (k_void fun M_26 hp_26 => ?_)
  replace hp_26 := hp_26.symm; subst hp_26
  refine g_vret hX hR d_Plan_planPart_29 ?_
  rfl
theorem c_Plan_planLetter {Γ : gX} {l : Launch} {M : mI} {w p : Int} (hw : 0 ≤ w ∧ w ≤ 2) (hp : 0 ≤ p ∧ p < 60) : Cn Γ l i_Plan_planLetter R0 51 [.ref (gb Γ + 24), vI w, vI p] M (pV (fun M' => M' = mU (mU M 25 (w * 60 + p) 0) 26 (w * 60 + p) 1)) := by
  refine cn_intro (L := [some (.ref (gb Γ + 24)), some (vI w), some (vI p)]) yo_Plan_planLetter.1 rfl (Nat.le_of_ble_eq_true rfl) rfl (fun X hX hR => ?_)
  refine g_aload_n hX d_Plan_planLetter_0 rfl ?_
  refine g_iload_n hX d_Plan_planLetter_1 rfl ?_
  refine g_iload_n hX d_Plan_planLetter_2 rfl ?_
  refine g_iconst hX d_Plan_planLetter_3 ?_
  refine g_iconst hX d_Plan_planLetter_4 ?_
  refine g_callV hX yo_Plan_planPart q_393 d_Plan_planLetter_5 (c_Plan_planPart hw hp (by omega) (by omega)) rfl rfl ⟨rfl, by decide⟩ rfl (by decide) (Nat.le_of_ble_eq_true rfl) ⟨Nat.zero_le _, Nat.zero_le _⟩ (k_void fun M_5 hp_5 => ?_)
  replace hp_5 := hp_5.symm; subst hp_5
  refine g_vret hX hR d_Plan_planLetter_8 ?_
  rfl
theorem c_Plan_distanceAt {Γ : gX} {l : Launch} {M : mI} {w p : Int} (hw : 0 ≤ w ∧ w ≤ 2) (hp : 0 ≤ p ∧ p < 60) : Cn Γ l i_Plan_distanceAt R0 51 [.ref (gb Γ + 24), vI w, vI p] M (pI (fun r M' => r = M 25 (w * 60 + p) ∧ M' = M)) := by
  refine cn_intro (L := [some (.ref (gb Γ + 24)), some (vI w), some (vI p)]) yo_Plan_distanceAt.1 rfl (Nat.le_of_ble_eq_true rfl) rfl (fun X hX hR => ?_)
  refine g_aload_n hX d_Plan_distanceAt_0 rfl ?_
  refine g_getR hX fl_Plan_9 d_Plan_distanceAt_1 ⟨rfl, by decide⟩ rfl rfl ?_
  refine g_iload_n hX d_Plan_distanceAt_4 rfl ?_
  refine g_bipush hX d_Plan_distanceAt_5 rfl ?_
  refine g_imul hX d_Plan_distanceAt_7 ?_
  refine g_iload_n hX d_Plan_distanceAt_8 rfl ?_
  refine g_iadd hX d_Plan_distanceAt_9 ?_
  refine g_callSN (host := "WindowCopies") hX yo_WC_at (by unfold nestWs; simp) d_Plan_distanceAt_10 (c_WC_at (k := 25) rfl (by decide) (n := 180) (by omega)) rfl rfl (by decide) (Nat.le_of_ble_eq_true rfl) ⟨Nat.zero_le _, Nat.zero_le _⟩ (k_int fun r_10 M_10 ir_10 hp_10 => ?_)
  obtain ⟨er_10, eM_10⟩ := hp_10; replace er_10 := er_10.symm; replace eM_10 := eM_10.symm; subst er_10; subst eM_10
  refine g_iret hX hR d_Plan_distanceAt_13 (by omega) ?_
  exact ⟨rfl, rfl⟩
theorem c_Plan_lengthAt {Γ : gX} {l : Launch} {M : mI} {w p : Int} (hw : 0 ≤ w ∧ w ≤ 2) (hp : 0 ≤ p ∧ p < 60) : Cn Γ l i_Plan_lengthAt R0 51 [.ref (gb Γ + 24), vI w, vI p] M (pI (fun r M' => r = M 26 (w * 60 + p) ∧ M' = M)) := by
  refine cn_intro (L := [some (.ref (gb Γ + 24)), some (vI w), some (vI p)]) yo_Plan_lengthAt.1 rfl (Nat.le_of_ble_eq_true rfl) rfl (fun X hX hR => ?_)
  refine g_aload_n hX d_Plan_lengthAt_0 rfl ?_
  refine g_getR hX fl_Plan_15 d_Plan_lengthAt_1 ⟨rfl, by decide⟩ rfl rfl ?_
  refine g_iload_n hX d_Plan_lengthAt_4 rfl ?_
  refine g_bipush hX d_Plan_lengthAt_5 rfl ?_
  refine g_imul hX d_Plan_lengthAt_7 ?_
  refine g_iload_n hX d_Plan_lengthAt_8 rfl ?_
  refine g_iadd hX d_Plan_lengthAt_9 ?_
  refine g_callSN (host := "WindowCopies") hX yo_WC_at (by unfold nestWs; simp) d_Plan_lengthAt_10 (c_WC_at (k := 26) rfl (by decide) (n := 180) (by omega)) rfl rfl (by decide) (Nat.le_of_ble_eq_true rfl) ⟨Nat.zero_le _, Nat.zero_le _⟩ (k_int fun r_10 M_10 ir_10 hp_10 => ?_)
  obtain ⟨er_10, eM_10⟩ := hp_10; replace er_10 := er_10.symm; replace eM_10 := eM_10.symm; subst er_10; subst eM_10
  refine g_iret hX hR d_Plan_lengthAt_13 (by omega) ?_
  exact ⟨rfl, rfl⟩
theorem c_Plan_beginOf {Γ : gX} {l : Launch} {M : mI} {i : Int} (hi : 0 ≤ i ∧ i < 60) : Cn Γ l i_Plan_beginOf R0 51 [.ref (gb Γ + 24), vI i] M (pI (fun r M' => r = M 29 i ∧ M' = M)) := by
  refine cn_intro (L := [some (.ref (gb Γ + 24)), some (vI i)]) yo_Plan_beginOf.1 rfl (Nat.le_of_ble_eq_true rfl) rfl (fun X hX hR => ?_)
  refine g_aload_n hX d_Plan_beginOf_0 rfl ?_
  refine g_getR hX fl_Plan_24 d_Plan_beginOf_1 ⟨rfl, by decide⟩ rfl rfl ?_
  refine g_iload_n hX d_Plan_beginOf_4 rfl ?_
  refine g_callSN (host := "WindowCopies") hX yo_WC_at (by unfold nestWs; simp) d_Plan_beginOf_5 (c_WC_at (k := 29) rfl (by decide) (n := 60) (by omega)) rfl rfl (by decide) (Nat.le_of_ble_eq_true rfl) ⟨Nat.zero_le _, Nat.zero_le _⟩ (k_int fun r_5 M_5 ir_5 hp_5 => ?_)
  obtain ⟨er_5, eM_5⟩ := hp_5; replace er_5 := er_5.symm; replace eM_5 := eM_5.symm; subst er_5; subst eM_5
  refine g_iret hX hR d_Plan_beginOf_8 (by omega) ?_
  exact ⟨rfl, rfl⟩
theorem c_Plan_parts {Γ : gX} {l : Launch} {M : mI} : Cn Γ l i_Plan_parts R0 51 [.ref (gb Γ + 24)] M (pI (fun r M' => r = M 24 7 ∧ M' = M)) := by
  refine cn_intro (L := [some (.ref (gb Γ + 24))]) yo_Plan_parts.1 rfl (Nat.le_of_ble_eq_true rfl) rfl (fun X hX hR => ?_)
  refine g_aload_n hX d_Plan_parts_0 rfl ?_
  refine g_getI hX fl_Plan_27 d_Plan_parts_1 7 ⟨rfl, by decide⟩ rfl rfl (fun r_1 => ?_)
  refine g_iret hX hR d_Plan_parts_4 (by omega) ?_
  exact ⟨rfl, rfl⟩
theorem c_Plan_copies {Γ : gX} {l : Launch} {M : mI} : Cn Γ l i_Plan_copies R0 51 [.ref (gb Γ + 24)] M (pI (fun r M' => r = M 24 8 ∧ M' = M)) := by
  refine cn_intro (L := [some (.ref (gb Γ + 24))]) yo_Plan_copies.1 rfl (Nat.le_of_ble_eq_true rfl) rfl (fun X hX hR => ?_)
  refine g_aload_n hX d_Plan_copies_0 rfl ?_
  refine g_getI hX fl_Plan_31 d_Plan_copies_1 8 ⟨rfl, by decide⟩ rfl rfl (fun r_1 => ?_)
  refine g_iret hX hR d_Plan_copies_4 (by omega) ?_
  exact ⟨rfl, rfl⟩
theorem c_Plan_copiedLetters {Γ : gX} {l : Launch} {M : mI} : Cn Γ l i_Plan_copiedLetters R0 51 [.ref (gb Γ + 24)] M (pI (fun r M' => r = M 24 9 ∧ M' = M)) := by
  refine cn_intro (L := [some (.ref (gb Γ + 24))]) yo_Plan_copiedLetters.1 rfl (Nat.le_of_ble_eq_true rfl) rfl (fun X hX hR => ?_)
  refine g_aload_n hX d_Plan_copiedLetters_0 rfl ?_
  refine g_getI hX fl_Plan_34 d_Plan_copiedLetters_1 9 ⟨rfl, by decide⟩ rfl rfl (fun r_1 => ?_)
  refine g_iret hX hR d_Plan_copiedLetters_4 (by omega) ?_
  exact ⟨rfl, rfl⟩
theorem c_Plan_longestCopy {Γ : gX} {l : Launch} {M : mI} : Cn Γ l i_Plan_longestCopy R0 51 [.ref (gb Γ + 24)] M (pI (fun r M' => r = M 24 10 ∧ M' = M)) := by
  refine cn_intro (L := [some (.ref (gb Γ + 24))]) yo_Plan_longestCopy.1 rfl (Nat.le_of_ble_eq_true rfl) rfl (fun X hX hR => ?_)
  refine g_aload_n hX d_Plan_longestCopy_0 rfl ?_
  refine g_getI hX fl_Plan_37 d_Plan_longestCopy_1 10 ⟨rfl, by decide⟩ rfl rfl (fun r_1 => ?_)
  refine g_iret hX hR d_Plan_longestCopy_4 (by omega) ?_
  exact ⟨rfl, rfl⟩
theorem c_Plan_countCopy {Γ : gX} {l : Launch} {M : mI} {c : Int} (h8 : iR (M 24 8 + 1)) (h9 : iR (M 24 9 + c)) (hc : iR c) : Cn Γ l i_Plan_countCopy R0 51 [.ref (gb Γ + 24), vI c] M (pV (fun M' => M' = mU (mU (mU M 24 8 (M 24 8 + 1)) 24 9 (M 24 9 + c)) 24 10 (max (M 24 10) c))) := by
  refine cn_intro (L := [some (.ref (gb Γ + 24)), some (vI c)]) yo_Plan_countCopy.1 rfl (Nat.le_of_ble_eq_true rfl) rfl (fun X hX hR => ?_)
  refine g_aload_n hX d_Plan_countCopy_0 rfl ?_
  refine g_dup hX d_Plan_countCopy_1 rfl ?_
  refine g_getI hX fl_Plan_31 d_Plan_countCopy_2 8 ⟨rfl, by decide⟩ rfl rfl (fun r_2 => ?_)
  refine g_iconst hX d_Plan_countCopy_5 ?_
  refine g_iadd hX d_Plan_countCopy_6 ?_
  refine g_putI hX fl_Plan_31 d_Plan_countCopy_7 8 ⟨rfl, by decide⟩ rfl rfl (fun q h => by cases h; rfl) rfl (by omega) ?_
  refine g_aload_n hX d_Plan_countCopy_10 rfl ?_
  refine g_dup hX d_Plan_countCopy_11 rfl ?_
  refine g_getI hX fl_Plan_34 d_Plan_countCopy_12 9 ⟨rfl, by decide⟩ rfl rfl (fun r_12 => ?_)
  rw [mU_slot (by omega)] at r_12 ⊢
  refine g_iload_n hX d_Plan_countCopy_15 rfl ?_
  refine g_iadd hX d_Plan_countCopy_16 ?_
  refine g_putI hX fl_Plan_34 d_Plan_countCopy_17 9 ⟨rfl, by decide⟩ rfl rfl (fun q h => by cases h; rfl) rfl (by omega) ?_
  refine g_aload_n hX d_Plan_countCopy_20 rfl ?_
  refine g_aload_n hX d_Plan_countCopy_21 rfl ?_
  refine g_getI hX fl_Plan_37 d_Plan_countCopy_22 10 ⟨rfl, by decide⟩ rfl rfl (fun r_22 => ?_)
  rw [mU_slot (by omega), mU_slot (by omega)] at r_22 ⊢
  refine g_iload_n hX d_Plan_countCopy_25 rfl ?_
  refine g_max hX d_Plan_countCopy_26 q_419 (by omega) (by omega) (by decide) (Nat.le_of_ble_eq_true rfl) ⟨Nat.zero_le _, Nat.zero_le _⟩ ?_
  refine g_putI hX fl_Plan_37 d_Plan_countCopy_29 10 ⟨rfl, by decide⟩ rfl rfl (fun q h => by cases h; rfl) rfl (by omega) ?_
  refine g_vret hX hR d_Plan_countCopy_32 ?_
  rfl
theorem c_Plan_cost {Γ : gX} {l : Launch} {M : mI} {n : Int} {x g : Int → Int} (hv : Sv M 1 n x g) (hg : Og g) (h8 : 0 ≤ M 24 8 ∧ M 24 8 ≤ M 24 7 ∧ M 24 7 ≤ 60) : Cn Γ l i_Plan_cost R0 51 [.ref (gb Γ + 24)] M (pI (fun r M' => r = (M 24 7 - M 24 8) * g 3 + M 24 8 * g 4 ∧ M' = M)) := by
  refine cn_intro (L := [some (.ref (gb Γ + 24))]) yo_Plan_cost.1 rfl (Nat.le_of_ble_eq_true rfl) rfl (fun X hX hR => ?_)
  obtain ⟨v1, v2, v3, v4, v5⟩ := id hv
  obtain ⟨⟨g0, g0'⟩, ⟨g1, g1'⟩, ⟨g2, g2'⟩, ⟨g3, g3'⟩, ⟨g4, g4'⟩⟩ := id hg
  have zm1 := mul_bd (a := M 24 7 - M 24 8) (b := g 3) (c := 60) (d := 60) (by omega) (by omega) (by omega) (by omega)
  have zm2 := mul_bd (a := M 24 8) (b := g 4) (c := 60) (d := 60) (by omega) (by omega) (by omega) (by omega)
  refine g_aload_n hX d_Plan_cost_0 rfl ?_
  refine g_getI hX fl_Plan_27 d_Plan_cost_1 7 ⟨rfl, by decide⟩ rfl rfl (fun r_1 => ?_)
  refine g_aload_n hX d_Plan_cost_4 rfl ?_
  refine g_getI hX fl_Plan_31 d_Plan_cost_5 8 ⟨rfl, by decide⟩ rfl rfl (fun r_5 => ?_)
  refine g_isub hX d_Plan_cost_8 ?_
  refine g_aload_n hX d_Plan_cost_9 rfl ?_
  refine g_getR hX fl_Plan_40 d_Plan_cost_10 ⟨rfl, by decide⟩ rfl rfl ?_
  refine g_iconst hX d_Plan_cost_13 ?_
  refine g_callV hX yo_State_setting q_417 d_Plan_cost_14 (c_State_setting st_1 (p := 3) (by omega)) rfl rfl ⟨rfl, by decide⟩ rfl (by decide) (Nat.le_of_ble_eq_true rfl) ⟨Nat.zero_le _, Nat.zero_le _⟩ (k_int fun r_14 M_14 ir_14 hp_14 => ?_)
  obtain ⟨er_14, eM_14⟩ := hp_14; replace er_14 := er_14.symm; replace eM_14 := eM_14.symm; subst er_14; subst eM_14
  rw [v5 3 (by omega) (by omega)] at ir_14 ⊢
  refine g_imul hX d_Plan_cost_17 ?_
  refine g_aload_n hX d_Plan_cost_18 rfl ?_
  refine g_getI hX fl_Plan_31 d_Plan_cost_19 8 ⟨rfl, by decide⟩ rfl rfl (fun r_19 => ?_)
  refine g_aload_n hX d_Plan_cost_22 rfl ?_
  refine g_getR hX fl_Plan_40 d_Plan_cost_23 ⟨rfl, by decide⟩ rfl rfl ?_
  refine g_iconst hX d_Plan_cost_26 ?_
  refine g_callV hX yo_State_setting q_417 d_Plan_cost_27 (c_State_setting st_1 (p := 4) (by omega)) rfl rfl ⟨rfl, by decide⟩ rfl (by decide) (Nat.le_of_ble_eq_true rfl) ⟨Nat.zero_le _, Nat.zero_le _⟩ (k_int fun r_27 M_27 ir_27 hp_27 => ?_)
  obtain ⟨er_27, eM_27⟩ := hp_27; replace er_27 := er_27.symm; replace eM_27 := eM_27.symm; subst er_27; subst eM_27
  rw [v5 4 (by omega) (by omega)] at ir_27 ⊢
  refine g_imul hX d_Plan_cost_30 ?_
  refine g_iadd hX d_Plan_cost_31 ?_
  refine g_iret hX hR d_Plan_cost_32 (by omega) ?_
  exact ⟨rfl, rfl⟩
theorem pP0_none {n : Int} {x g : Int → Int} {p : Int} (h : bD n x g p = -10004) : pD n x g 0 p = 0 ∧ pL n x g 0 p = 1 ∧ sv n x g p = 0 := by
  unfold pD pL pP sv
  rw [if_neg (by decide), if_pos h, if_pos h]
  exact ⟨rfl, rfl, rfl⟩
theorem pP0_some {n : Int} {x g : Int → Int} {p : Int} (h : bD n x g p ≠ -10004) : pD n x g 0 p = bD n x g p ∧ pL n x g 0 p = rc n x p (bD n x g p) ∧ sv n x g p = rc n x p (bD n x g p) * g 3 - g 4 := by
  unfold pD pL pP sv
  rw [if_neg (by decide), if_neg h, if_pos rfl, if_neg h]
  exact ⟨rfl, rfl, rfl⟩
theorem sv_bd {n : Int} {x g : Int → Int} {p : Int} (hg : Og g) (hp : 0 ≤ p) (hn : p ≤ n) : -60 ≤ sv n x g p ∧ sv n x g p ≤ 400 := by
  unfold sv
  split
  · omega
  · have hb := @rc_b n x p (bD n x g p) hn
    obtain ⟨⟨g0, g0'⟩, ⟨g1, g1'⟩, ⟨g2, g2'⟩, ⟨g3, g3'⟩, ⟨g4, g4'⟩⟩ := hg
    have zm1 := mul_bd (a := rc n x p (bD n x g p)) (b := g 3) (c := 20) (d := 20) (by omega) (by omega) (by omega) (by omega)
    omega
theorem c_Plan_planFound {Γ : gX} {l : Launch} {M : mI} {n p : Int} {x g : Int → Int} (hv : Sv M 1 n x g) (hg : Og g) (hc : Cp M n x g p) (hp : 0 ≤ p ∧ p < n) : Cn Γ l i_Plan_planFound R0 51 [.ref (gb Γ + 24), vI p] M (pV (fun M' => M' = mU (mU (mU M 25 (0 * 60 + p) (pD n x g 0 p)) 26 (0 * 60 + p) (pL n x g 0 p)) 27 p (sv n x g p))) := by
  refine cn_intro (L := [some (.ref (gb Γ + 24)), some (vI p), none, none]) yo_Plan_planFound.1 rfl (Nat.le_of_ble_eq_true rfl) rfl (fun X hX hR => ?_)
  obtain ⟨v1, v2, v3, v4, v5⟩ := id hv
  have zs1 := sv_bd (x := x) hg hp.1 (show p ≤ n by omega)
  refine g_aload_n hX d_Plan_planFound_0 rfl ?_
  refine g_getR hX fl_Plan_44 d_Plan_planFound_1 ⟨rfl, by decide⟩ rfl rfl ?_
  refine g_callV hX yo_Cand_best q_388 d_Plan_planFound_4 (c_Cand_best hv hc hg ⟨hp.1, by omega⟩) rfl rfl ⟨rfl, by decide⟩ rfl (by decide) (Nat.le_of_ble_eq_true rfl) ⟨Nat.zero_le _, Nat.zero_le _⟩ (k_int fun r_4 M_4 ir_4 hp_4 => ?_)
  obtain ⟨hp4, eM_4⟩ := hp_4; replace eM_4 := eM_4.symm; subst eM_4
  refine g_istore_n hX d_Plan_planFound_7 (by decide) ?_
  refine g_iload_n hX d_Plan_planFound_8 rfl ?_
  refine g_iconst hX d_Plan_planFound_9 ?_
  refine g_icmp_ne 31 hX d_Plan_planFound_10 (by decide) (by omega) (by omega) (fun h_10 => ?_) (fun h_10 => ?_)
  · obtain ⟨k, hk, hz1⟩ : ∃ k : Nat, (cs n x g p)[k]? = some (bD n x g p) ∧ r_4 = k := by rcases hp4 with ⟨_, hz1⟩ | hz1; exact absurd hz1 h_10; exact hz1
    subst hz1
    obtain ⟨e1, e2, e3⟩ := pP0_some (show bD n x g p ≠ -10004 by have := cs_at hk hp.1; omega)
    refine g_aload_n hX d_Plan_planFound_31 rfl ?_
    refine g_getR hX fl_Plan_44 d_Plan_planFound_32 ⟨rfl, by decide⟩ rfl rfl ?_
    refine g_iload_n hX d_Plan_planFound_35 rfl ?_
    refine g_callV hX yo_Cand_reach q_397 d_Plan_planFound_36 (c_Cand_reach hc hg hk ⟨hp.1, by omega, v3⟩) rfl rfl ⟨rfl, by decide⟩ rfl (by decide) (Nat.le_of_ble_eq_true rfl) ⟨Nat.zero_le _, Nat.zero_le _⟩ (k_int fun r_36 M_36 ir_36 hp_36 => ?_)
    obtain ⟨er_36, eM_36⟩ := hp_36; replace er_36 := er_36.symm; replace eM_36 := eM_36.symm; subst er_36; subst eM_36
    refine g_istore_n hX d_Plan_planFound_39 (by decide) ?_
    refine g_aload_n hX d_Plan_planFound_40 rfl ?_
    refine g_iconst hX d_Plan_planFound_41 ?_
    refine g_iload_n hX d_Plan_planFound_42 rfl ?_
    refine g_aload_n hX d_Plan_planFound_43 rfl ?_
    refine g_getR hX fl_Plan_44 d_Plan_planFound_44 ⟨rfl, by decide⟩ rfl rfl ?_
    refine g_iload_n hX d_Plan_planFound_47 rfl ?_
    refine g_callV hX yo_Cand_distance q_398 d_Plan_planFound_48 (c_Cand_distance hc hg hk) rfl rfl ⟨rfl, by decide⟩ rfl (by decide) (Nat.le_of_ble_eq_true rfl) ⟨Nat.zero_le _, Nat.zero_le _⟩ (k_int fun r_48 M_48 ir_48 hp_48 => ?_)
    obtain ⟨er_48, eM_48⟩ := hp_48; replace er_48 := er_48.symm; replace eM_48 := eM_48.symm; subst er_48; subst eM_48
    refine g_iload_n hX d_Plan_planFound_51 rfl ?_
    refine g_callV hX yo_Plan_planPart q_393 d_Plan_planFound_52 (c_Plan_planPart (by omega) (by omega) (by omega) (by omega)) rfl rfl ⟨rfl, by decide⟩ rfl (by decide) (Nat.le_of_ble_eq_true rfl) ⟨Nat.zero_le _, Nat.zero_le _⟩ (k_void fun M_52 hp_52 => ?_)
    replace hp_52 := hp_52.symm; subst hp_52
    refine g_aload_n hX d_Plan_planFound_55 rfl ?_
    refine g_getR hX fl_Plan_18 d_Plan_planFound_56 ⟨rfl, by decide⟩ rfl rfl ?_
    refine g_iload_n hX d_Plan_planFound_59 rfl ?_
    refine g_aload_n hX d_Plan_planFound_60 rfl ?_
    refine g_getR hX fl_Plan_40 d_Plan_planFound_61 ⟨rfl, by decide⟩ rfl rfl ?_
    refine g_iload_n hX d_Plan_planFound_64 rfl ?_
    refine g_callV hX yo_State_savingOf q_399 d_Plan_planFound_65 (c_State_savingOf st_1 (by rw [mU_cell (by omega), mU_cell (by omega), v5 3 (by omega) (by omega), v5 4 (by omega) (by omega), ← e3]; omega)) rfl rfl ⟨rfl, by decide⟩ rfl (by decide) (Nat.le_of_ble_eq_true rfl) ⟨Nat.zero_le _, Nat.zero_le _⟩ (k_int fun r_65 M_65 ir_65 hp_65 => ?_)
    obtain ⟨er_65, eM_65⟩ := hp_65; replace er_65 := er_65.symm; replace eM_65 := eM_65.symm; subst er_65; subst eM_65
    rw [mU_cell (by omega), mU_cell (by omega), v5 3 (by omega) (by omega), v5 4 (by omega) (by omega), ← e3] at ir_65 ⊢
    refine g_callSN (host := "WindowCopies") hX yo_WC_store (by unfold nestWs; simp) d_Plan_planFound_68 (c_WC_store (k := 27) rfl (by decide) (n := 62) (by omega) (by omega)) rfl rfl (by decide) (Nat.le_of_ble_eq_true rfl) ⟨Nat.zero_le _, Nat.zero_le _⟩ (k_void fun M_68 hp_68 => ?_)
    replace hp_68 := hp_68.symm; subst hp_68
    refine g_vret hX hR d_Plan_planFound_71 ?_
    first | rw [e1, e2, e3] | rw [e1, e2]
  · have hz0 : bD n x g p = -10004 := by rcases hp4 with ⟨hz1, _⟩ | ⟨k, hk, hz1⟩; exact hz1; omega
    obtain ⟨e1, e2, e3⟩ := pP0_none hz0
    refine g_aload_n hX d_Plan_planFound_13 rfl ?_
    refine g_iconst hX d_Plan_planFound_14 ?_
    refine g_iload_n hX d_Plan_planFound_15 rfl ?_
    refine g_callV hX yo_Plan_planLetter q_389 d_Plan_planFound_16 (c_Plan_planLetter (by omega) (by omega)) rfl rfl ⟨rfl, by decide⟩ rfl (by decide) (Nat.le_of_ble_eq_true rfl) ⟨Nat.zero_le _, Nat.zero_le _⟩ (k_void fun M_16 hp_16 => ?_)
    replace hp_16 := hp_16.symm; subst hp_16
    refine g_aload_n hX d_Plan_planFound_19 rfl ?_
    refine g_getR hX fl_Plan_18 d_Plan_planFound_20 ⟨rfl, by decide⟩ rfl rfl ?_
    refine g_iload_n hX d_Plan_planFound_23 rfl ?_
    refine g_iconst hX d_Plan_planFound_24 ?_
    refine g_callSN (host := "WindowCopies") hX yo_WC_store (by unfold nestWs; simp) d_Plan_planFound_25 (c_WC_store (k := 27) rfl (by decide) (n := 62) (by omega) (by omega)) rfl rfl (by decide) (Nat.le_of_ble_eq_true rfl) ⟨Nat.zero_le _, Nat.zero_le _⟩ (k_void fun M_25 hp_25 => ?_)
    replace hp_25 := hp_25.symm; subst hp_25
    refine g_goto 71 hX d_Plan_planFound_28 (by decide) ?_
    refine g_vret hX hR d_Plan_planFound_71 ?_
    first | rw [e1, e2, e3] | rw [e1, e2]
theorem pP1_yes {n : Int} {x g : Int → Int} {p : Int} (h : 0 < sv n x g p) (h2 : sv n x g (p + 1) ≤ sv n x g p) (h3 : sv n x g (p + 2) ≤ sv n x g p) : pD n x g 1 p = pD n x g 0 p ∧ pL n x g 1 p = pL n x g 0 p := by
  unfold pD pL pP
  rw [if_neg (show ¬ (1 : Int) = 2 by decide), if_neg (show ¬ (0 : Int) = 2 by decide)]
  by_cases hb : bD n x g p = -10004
  · simp only [if_pos hb, and_self]
  · simp [hb, h, h2, h3]
theorem pP1_no {n : Int} {x g : Int → Int} {p : Int} (h : ¬ (0 < sv n x g p ∧ sv n x g (p + 1) ≤ sv n x g p ∧ sv n x g (p + 2) ≤ sv n x g p)) : pD n x g 1 p = 0 ∧ pL n x g 1 p = 1 := by
  unfold pD pL pP
  rw [if_neg (by decide)]
  by_cases hb : bD n x g p = -10004
  · rw [if_pos hb]; exact ⟨rfl, rfl⟩
  · rw [if_neg hb, if_neg (by decide), if_neg h]; exact ⟨rfl, rfl⟩
theorem c_Plan_planWeighed {Γ : gX} {l : Launch} {M : mI} {n p : Int} {x g : Int → Int} (hg : Og g) (hp : 0 ≤ p ∧ p < n ∧ n ≤ 60) (h0 : M 27 p = sv n x g p) (h1 : M 27 (p + 1) = sv n x g (p + 1)) (h2 : M 27 (p + 2) = sv n x g (p + 2)) (hd : M 25 (0 * 60 + p) = pD n x g 0 p) (hl : M 26 (0 * 60 + p) = pL n x g 0 p) : Cn Γ l i_Plan_planWeighed R0 51 [.ref (gb Γ + 24), vI p] M (pV (fun M' => M' = mU (mU M 25 (1 * 60 + p) (pD n x g 1 p)) 26 (1 * 60 + p) (pL n x g 1 p))) := by
  refine cn_intro (L := [some (.ref (gb Γ + 24)), some (vI p), none, none]) yo_Plan_planWeighed.1 rfl (Nat.le_of_ble_eq_true rfl) rfl (fun X hX hR => ?_)
  refine g_aload_n hX d_Plan_planWeighed_0 rfl ?_
  refine g_getR hX fl_Plan_18 d_Plan_planWeighed_1 ⟨rfl, by decide⟩ rfl rfl ?_
  refine g_iload_n hX d_Plan_planWeighed_4 rfl ?_
  refine g_callSN (host := "WindowCopies") hX yo_WC_at (by unfold nestWs; simp) d_Plan_planWeighed_5 (c_WC_at (k := 27) rfl (by decide) (n := 62) (by omega)) rfl rfl (by decide) (Nat.le_of_ble_eq_true rfl) ⟨Nat.zero_le _, Nat.zero_le _⟩ (k_int fun r_5 M_5 ir_5 hp_5 => ?_)
  obtain ⟨er_5, eM_5⟩ := hp_5; replace er_5 := er_5.symm; replace eM_5 := eM_5.symm; subst er_5; subst eM_5
  rw [h0] at ir_5 ⊢
  refine g_istore_n hX d_Plan_planWeighed_8 (by decide) ?_
  refine g_aload_n hX d_Plan_planWeighed_9 rfl ?_
  refine g_getR hX fl_Plan_18 d_Plan_planWeighed_10 ⟨rfl, by decide⟩ rfl rfl ?_
  refine g_iload_n hX d_Plan_planWeighed_13 rfl ?_
  refine g_iconst hX d_Plan_planWeighed_14 ?_
  refine g_iadd hX d_Plan_planWeighed_15 ?_
  refine g_callSN (host := "WindowCopies") hX yo_WC_at (by unfold nestWs; simp) d_Plan_planWeighed_16 (c_WC_at (k := 27) rfl (by decide) (n := 62) (by omega)) rfl rfl (by decide) (Nat.le_of_ble_eq_true rfl) ⟨Nat.zero_le _, Nat.zero_le _⟩ (k_int fun r_16 M_16 ir_16 hp_16 => ?_)
  obtain ⟨er_16, eM_16⟩ := hp_16; replace er_16 := er_16.symm; replace eM_16 := eM_16.symm; subst er_16; subst eM_16
  rw [h1] at ir_16 ⊢
  refine g_iload_n hX d_Plan_planWeighed_19 rfl ?_
  refine g_icmp_gt 37 hX d_Plan_planWeighed_20 (by decide) (by omega) (by omega) (fun h_20 => ?_) (fun h_20 => ?_)
  · refine g_iconst hX d_Plan_planWeighed_37 ?_
    refine g_goto 42 hX d_Plan_planWeighed_38 (by decide) ?_
    refine g_istore_n hX d_Plan_planWeighed_42 (by decide) ?_
    refine g_iload_n hX d_Plan_planWeighed_43 rfl ?_
    refine g_if_le 72 hX d_Plan_planWeighed_44 (by decide) (by omega) (fun h_44 => ?_) (fun h_44 => ?_)
    · refine g_aload_n hX d_Plan_planWeighed_72 rfl ?_
      refine g_iconst hX d_Plan_planWeighed_73 ?_
      refine g_iload_n hX d_Plan_planWeighed_74 rfl ?_
      refine g_callV hX yo_Plan_planLetter q_389 d_Plan_planWeighed_75 (c_Plan_planLetter (by omega) (by omega)) rfl rfl ⟨rfl, by decide⟩ rfl (by decide) (Nat.le_of_ble_eq_true rfl) ⟨Nat.zero_le _, Nat.zero_le _⟩ (k_void fun M_75 hp_75 => ?_)
      replace hp_75 := hp_75.symm; subst hp_75
      refine g_vret hX hR d_Plan_planWeighed_78 ?_
      first | (obtain ⟨e1, e2⟩ := pP1_no (n := n) (x := x) (g := g) (p := p) (by omega); rw [e1, e2]; done) | (obtain ⟨e1, e2⟩ := pP1_yes (n := n) (x := x) (g := g) (p := p) (by omega) (by omega) (by omega); rw [e1, e2]; done) | omega
    · refine g_iload_n hX d_Plan_planWeighed_47 rfl ?_
      refine g_if_ne 72 hX d_Plan_planWeighed_48 (by decide) (by omega) (fun h_48 => ?_) (fun h_48 => ?_)
      · refine g_aload_n hX d_Plan_planWeighed_72 rfl ?_
        refine g_iconst hX d_Plan_planWeighed_73 ?_
        refine g_iload_n hX d_Plan_planWeighed_74 rfl ?_
        refine g_callV hX yo_Plan_planLetter q_389 d_Plan_planWeighed_75 (c_Plan_planLetter (by omega) (by omega)) rfl rfl ⟨rfl, by decide⟩ rfl (by decide) (Nat.le_of_ble_eq_true rfl) ⟨Nat.zero_le _, Nat.zero_le _⟩ (k_void fun M_75 hp_75 => ?_)
        replace hp_75 := hp_75.symm; subst hp_75
        refine g_vret hX hR d_Plan_planWeighed_78 ?_
        first | (obtain ⟨e1, e2⟩ := pP1_no (n := n) (x := x) (g := g) (p := p) (by omega); rw [e1, e2]; done) | (obtain ⟨e1, e2⟩ := pP1_yes (n := n) (x := x) (g := g) (p := p) (by omega) (by omega) (by omega); rw [e1, e2]; done) | omega
      · refine g_aload_n hX d_Plan_planWeighed_51 rfl ?_
        refine g_iconst hX d_Plan_planWeighed_52 ?_
        refine g_iload_n hX d_Plan_planWeighed_53 rfl ?_
        refine g_aload_n hX d_Plan_planWeighed_54 rfl ?_
        refine g_iconst hX d_Plan_planWeighed_55 ?_
        refine g_iload_n hX d_Plan_planWeighed_56 rfl ?_
        refine g_callV hX yo_Plan_distanceAt q_405 d_Plan_planWeighed_57 (c_Plan_distanceAt (by omega) (by omega)) rfl rfl ⟨rfl, by decide⟩ rfl (by decide) (Nat.le_of_ble_eq_true rfl) ⟨Nat.zero_le _, Nat.zero_le _⟩ (k_int fun r_57 M_57 ir_57 hp_57 => ?_)
        obtain ⟨er_57, eM_57⟩ := hp_57; replace er_57 := er_57.symm; replace eM_57 := eM_57.symm; subst er_57; subst eM_57
        rw [hd] at ir_57 ⊢
        refine g_aload_n hX d_Plan_planWeighed_60 rfl ?_
        refine g_iconst hX d_Plan_planWeighed_61 ?_
        refine g_iload_n hX d_Plan_planWeighed_62 rfl ?_
        refine g_callV hX yo_Plan_lengthAt q_409 d_Plan_planWeighed_63 (c_Plan_lengthAt (by omega) (by omega)) rfl rfl ⟨rfl, by decide⟩ rfl (by decide) (Nat.le_of_ble_eq_true rfl) ⟨Nat.zero_le _, Nat.zero_le _⟩ (k_int fun r_63 M_63 ir_63 hp_63 => ?_)
        obtain ⟨er_63, eM_63⟩ := hp_63; replace er_63 := er_63.symm; replace eM_63 := eM_63.symm; subst er_63; subst eM_63
        rw [hl] at ir_63 ⊢
        refine g_callV hX yo_Plan_planPart q_393 d_Plan_planWeighed_66 (c_Plan_planPart (by omega) (by omega) (by omega) (by omega)) rfl rfl ⟨rfl, by decide⟩ rfl (by decide) (Nat.le_of_ble_eq_true rfl) ⟨Nat.zero_le _, Nat.zero_le _⟩ (k_void fun M_66 hp_66 => ?_)
        replace hp_66 := hp_66.symm; subst hp_66
        refine g_goto 78 hX d_Plan_planWeighed_69 (by decide) ?_
        refine g_vret hX hR d_Plan_planWeighed_78 ?_
        first | (obtain ⟨e1, e2⟩ := pP1_no (n := n) (x := x) (g := g) (p := p) (by omega); rw [e1, e2]; done) | (obtain ⟨e1, e2⟩ := pP1_yes (n := n) (x := x) (g := g) (p := p) (by omega) (by omega) (by omega); rw [e1, e2]; done) | omega
  · refine g_aload_n hX d_Plan_planWeighed_23 rfl ?_
    refine g_getR hX fl_Plan_18 d_Plan_planWeighed_24 ⟨rfl, by decide⟩ rfl rfl ?_
    refine g_iload_n hX d_Plan_planWeighed_27 rfl ?_
    refine g_iconst hX d_Plan_planWeighed_28 ?_
    refine g_iadd hX d_Plan_planWeighed_29 ?_
    refine g_callSN (host := "WindowCopies") hX yo_WC_at (by unfold nestWs; simp) d_Plan_planWeighed_30 (c_WC_at (k := 27) rfl (by decide) (n := 62) (by omega)) rfl rfl (by decide) (Nat.le_of_ble_eq_true rfl) ⟨Nat.zero_le _, Nat.zero_le _⟩ (k_int fun r_30 M_30 ir_30 hp_30 => ?_)
    obtain ⟨er_30, eM_30⟩ := hp_30; replace er_30 := er_30.symm; replace eM_30 := eM_30.symm; subst er_30; subst eM_30
    rw [h2] at ir_30 ⊢
    refine g_iload_n hX d_Plan_planWeighed_33 rfl ?_
    refine g_icmp_le 41 hX d_Plan_planWeighed_34 (by decide) (by omega) (by omega) (fun h_34 => ?_) (fun h_34 => ?_)
    · refine g_iconst hX d_Plan_planWeighed_41 ?_
      refine g_istore_n hX d_Plan_planWeighed_42 (by decide) ?_
      refine g_iload_n hX d_Plan_planWeighed_43 rfl ?_
      refine g_if_le 72 hX d_Plan_planWeighed_44 (by decide) (by omega) (fun h_44 => ?_) (fun h_44 => ?_)
      · refine g_aload_n hX d_Plan_planWeighed_72 rfl ?_
        refine g_iconst hX d_Plan_planWeighed_73 ?_
        refine g_iload_n hX d_Plan_planWeighed_74 rfl ?_
        refine g_callV hX yo_Plan_planLetter q_389 d_Plan_planWeighed_75 (c_Plan_planLetter (by omega) (by omega)) rfl rfl ⟨rfl, by decide⟩ rfl (by decide) (Nat.le_of_ble_eq_true rfl) ⟨Nat.zero_le _, Nat.zero_le _⟩ (k_void fun M_75 hp_75 => ?_)
        replace hp_75 := hp_75.symm; subst hp_75
        refine g_vret hX hR d_Plan_planWeighed_78 ?_
        first | (obtain ⟨e1, e2⟩ := pP1_no (n := n) (x := x) (g := g) (p := p) (by omega); rw [e1, e2]; done) | (obtain ⟨e1, e2⟩ := pP1_yes (n := n) (x := x) (g := g) (p := p) (by omega) (by omega) (by omega); rw [e1, e2]; done) | omega
      · refine g_iload_n hX d_Plan_planWeighed_47 rfl ?_
        refine g_if_ne 72 hX d_Plan_planWeighed_48 (by decide) (by omega) (fun h_48 => ?_) (fun h_48 => ?_)
        · refine g_aload_n hX d_Plan_planWeighed_72 rfl ?_
          refine g_iconst hX d_Plan_planWeighed_73 ?_
          refine g_iload_n hX d_Plan_planWeighed_74 rfl ?_
          refine g_callV hX yo_Plan_planLetter q_389 d_Plan_planWeighed_75 (c_Plan_planLetter (by omega) (by omega)) rfl rfl ⟨rfl, by decide⟩ rfl (by decide) (Nat.le_of_ble_eq_true rfl) ⟨Nat.zero_le _, Nat.zero_le _⟩ (k_void fun M_75 hp_75 => ?_)
          replace hp_75 := hp_75.symm; subst hp_75
          refine g_vret hX hR d_Plan_planWeighed_78 ?_
          first | (obtain ⟨e1, e2⟩ := pP1_no (n := n) (x := x) (g := g) (p := p) (by omega); rw [e1, e2]; done) | (obtain ⟨e1, e2⟩ := pP1_yes (n := n) (x := x) (g := g) (p := p) (by omega) (by omega) (by omega); rw [e1, e2]; done) | omega
        · refine g_aload_n hX d_Plan_planWeighed_51 rfl ?_
          refine g_iconst hX d_Plan_planWeighed_52 ?_
          refine g_iload_n hX d_Plan_planWeighed_53 rfl ?_
          refine g_aload_n hX d_Plan_planWeighed_54 rfl ?_
          refine g_iconst hX d_Plan_planWeighed_55 ?_
          refine g_iload_n hX d_Plan_planWeighed_56 rfl ?_
          refine g_callV hX yo_Plan_distanceAt q_405 d_Plan_planWeighed_57 (c_Plan_distanceAt (by omega) (by omega)) rfl rfl ⟨rfl, by decide⟩ rfl (by decide) (Nat.le_of_ble_eq_true rfl) ⟨Nat.zero_le _, Nat.zero_le _⟩ (k_int fun r_57 M_57 ir_57 hp_57 => ?_)
          obtain ⟨er_57, eM_57⟩ := hp_57; replace er_57 := er_57.symm; replace eM_57 := eM_57.symm; subst er_57; subst eM_57
          rw [hd] at ir_57 ⊢
          refine g_aload_n hX d_Plan_planWeighed_60 rfl ?_
          refine g_iconst hX d_Plan_planWeighed_61 ?_
          refine g_iload_n hX d_Plan_planWeighed_62 rfl ?_
          refine g_callV hX yo_Plan_lengthAt q_409 d_Plan_planWeighed_63 (c_Plan_lengthAt (by omega) (by omega)) rfl rfl ⟨rfl, by decide⟩ rfl (by decide) (Nat.le_of_ble_eq_true rfl) ⟨Nat.zero_le _, Nat.zero_le _⟩ (k_int fun r_63 M_63 ir_63 hp_63 => ?_)
          obtain ⟨er_63, eM_63⟩ := hp_63; replace er_63 := er_63.symm; replace eM_63 := eM_63.symm; subst er_63; subst eM_63
          rw [hl] at ir_63 ⊢
          refine g_callV hX yo_Plan_planPart q_393 d_Plan_planWeighed_66 (c_Plan_planPart (by omega) (by omega) (by omega) (by omega)) rfl rfl ⟨rfl, by decide⟩ rfl (by decide) (Nat.le_of_ble_eq_true rfl) ⟨Nat.zero_le _, Nat.zero_le _⟩ (k_void fun M_66 hp_66 => ?_)
          replace hp_66 := hp_66.symm; subst hp_66
          refine g_goto 78 hX d_Plan_planWeighed_69 (by decide) ?_
          refine g_vret hX hR d_Plan_planWeighed_78 ?_
          first | (obtain ⟨e1, e2⟩ := pP1_no (n := n) (x := x) (g := g) (p := p) (by omega); rw [e1, e2]; done) | (obtain ⟨e1, e2⟩ := pP1_yes (n := n) (x := x) (g := g) (p := p) (by omega) (by omega) (by omega); rw [e1, e2]; done) | omega
    · refine g_iconst hX d_Plan_planWeighed_37 ?_
      refine g_goto 42 hX d_Plan_planWeighed_38 (by decide) ?_
      refine g_istore_n hX d_Plan_planWeighed_42 (by decide) ?_
      refine g_iload_n hX d_Plan_planWeighed_43 rfl ?_
      refine g_if_le 72 hX d_Plan_planWeighed_44 (by decide) (by omega) (fun h_44 => ?_) (fun h_44 => ?_)
      · refine g_aload_n hX d_Plan_planWeighed_72 rfl ?_
        refine g_iconst hX d_Plan_planWeighed_73 ?_
        refine g_iload_n hX d_Plan_planWeighed_74 rfl ?_
        refine g_callV hX yo_Plan_planLetter q_389 d_Plan_planWeighed_75 (c_Plan_planLetter (by omega) (by omega)) rfl rfl ⟨rfl, by decide⟩ rfl (by decide) (Nat.le_of_ble_eq_true rfl) ⟨Nat.zero_le _, Nat.zero_le _⟩ (k_void fun M_75 hp_75 => ?_)
        replace hp_75 := hp_75.symm; subst hp_75
        refine g_vret hX hR d_Plan_planWeighed_78 ?_
        first | (obtain ⟨e1, e2⟩ := pP1_no (n := n) (x := x) (g := g) (p := p) (by omega); rw [e1, e2]; done) | (obtain ⟨e1, e2⟩ := pP1_yes (n := n) (x := x) (g := g) (p := p) (by omega) (by omega) (by omega); rw [e1, e2]; done) | omega
      · refine g_iload_n hX d_Plan_planWeighed_47 rfl ?_
        refine g_if_ne 72 hX d_Plan_planWeighed_48 (by decide) (by omega) (fun h_48 => ?_) (fun h_48 => ?_)
        · refine g_aload_n hX d_Plan_planWeighed_72 rfl ?_
          refine g_iconst hX d_Plan_planWeighed_73 ?_
          refine g_iload_n hX d_Plan_planWeighed_74 rfl ?_
          refine g_callV hX yo_Plan_planLetter q_389 d_Plan_planWeighed_75 (c_Plan_planLetter (by omega) (by omega)) rfl rfl ⟨rfl, by decide⟩ rfl (by decide) (Nat.le_of_ble_eq_true rfl) ⟨Nat.zero_le _, Nat.zero_le _⟩ (k_void fun M_75 hp_75 => ?_)
          replace hp_75 := hp_75.symm; subst hp_75
          refine g_vret hX hR d_Plan_planWeighed_78 ?_
          first | (obtain ⟨e1, e2⟩ := pP1_no (n := n) (x := x) (g := g) (p := p) (by omega); rw [e1, e2]; done) | (obtain ⟨e1, e2⟩ := pP1_yes (n := n) (x := x) (g := g) (p := p) (by omega) (by omega) (by omega); rw [e1, e2]; done) | omega
        · refine g_aload_n hX d_Plan_planWeighed_51 rfl ?_
          refine g_iconst hX d_Plan_planWeighed_52 ?_
          refine g_iload_n hX d_Plan_planWeighed_53 rfl ?_
          refine g_aload_n hX d_Plan_planWeighed_54 rfl ?_
          refine g_iconst hX d_Plan_planWeighed_55 ?_
          refine g_iload_n hX d_Plan_planWeighed_56 rfl ?_
          refine g_callV hX yo_Plan_distanceAt q_405 d_Plan_planWeighed_57 (c_Plan_distanceAt (by omega) (by omega)) rfl rfl ⟨rfl, by decide⟩ rfl (by decide) (Nat.le_of_ble_eq_true rfl) ⟨Nat.zero_le _, Nat.zero_le _⟩ (k_int fun r_57 M_57 ir_57 hp_57 => ?_)
          obtain ⟨er_57, eM_57⟩ := hp_57; replace er_57 := er_57.symm; replace eM_57 := eM_57.symm; subst er_57; subst eM_57
          rw [hd] at ir_57 ⊢
          refine g_aload_n hX d_Plan_planWeighed_60 rfl ?_
          refine g_iconst hX d_Plan_planWeighed_61 ?_
          refine g_iload_n hX d_Plan_planWeighed_62 rfl ?_
          refine g_callV hX yo_Plan_lengthAt q_409 d_Plan_planWeighed_63 (c_Plan_lengthAt (by omega) (by omega)) rfl rfl ⟨rfl, by decide⟩ rfl (by decide) (Nat.le_of_ble_eq_true rfl) ⟨Nat.zero_le _, Nat.zero_le _⟩ (k_int fun r_63 M_63 ir_63 hp_63 => ?_)
          obtain ⟨er_63, eM_63⟩ := hp_63; replace er_63 := er_63.symm; replace eM_63 := eM_63.symm; subst er_63; subst eM_63
          rw [hl] at ir_63 ⊢
          refine g_callV hX yo_Plan_planPart q_393 d_Plan_planWeighed_66 (c_Plan_planPart (by omega) (by omega) (by omega) (by omega)) rfl rfl ⟨rfl, by decide⟩ rfl (by decide) (Nat.le_of_ble_eq_true rfl) ⟨Nat.zero_le _, Nat.zero_le _⟩ (k_void fun M_66 hp_66 => ?_)
          replace hp_66 := hp_66.symm; subst hp_66
          refine g_goto 78 hX d_Plan_planWeighed_69 (by decide) ?_
          refine g_vret hX hR d_Plan_planWeighed_78 ?_
          first | (obtain ⟨e1, e2⟩ := pP1_no (n := n) (x := x) (g := g) (p := p) (by omega); rw [e1, e2]; done) | (obtain ⟨e1, e2⟩ := pP1_yes (n := n) (x := x) (g := g) (p := p) (by omega) (by omega) (by omega); rw [e1, e2]; done) | omega
theorem pP2 (n : Int) (x g : Int → Int) (p : Int) : pD n x g 2 p = (w2 n x g (cC n x g) p).2.2 ∧ pL n x g 2 p = (w2 n x g (cC n x g) p).2.1 := by
  unfold pD pL pP
  rw [if_pos rfl]
  exact ⟨rfl, rfl⟩
def mS (M : mI) (p : Int) (s : Int × Int × Int) : mI := mU (mU M 25 (2 * 60 + p) s.2.2) 26 (2 * 60 + p) s.2.1
theorem mS_o {M : mI} {p : Int} {s : Int × Int × Int} {a : Nat} (h1 : a ≠ 25) (h2 : a ≠ 26) : mS M p s a = M a := by
  unfold mS
  rw [mU_cell h2, mU_cell h1]
theorem c_Plan_planCheapest {Γ : gX} {l : Launch} {M : mI} {n p : Int} {x g : Int → Int} (hv : Sv M 1 n x g) (hg : Og g) (hc : Cp M n x g p) (hp : 0 ≤ p ∧ p < n) (hC : ∀ q, p < q → q ≤ n → M 28 q = cC n x g q) : Cn Γ l i_Plan_planCheapest R0 51 [.ref (gb Γ + 24), vI p] M (pV (fun M' => M' = mU (mU (mU M 25 (2 * 60 + p) (pD n x g 2 p)) 26 (2 * 60 + p) (pL n x g 2 p)) 28 p (cC n x g p))) := by
  refine cn_intro (L := [some (.ref (gb Γ + 24)), some (vI p), none, none, none, none, none, none]) yo_Plan_planCheapest.1 rfl (Nat.le_of_ble_eq_true rfl) rfl (fun X hX hR => ?_)
  obtain ⟨v1, v2, v3, v4, v5⟩ := id hv
  obtain ⟨⟨g0, g0'⟩, ⟨g1, g1'⟩, ⟨g2, g2'⟩, ⟨g3, g3'⟩, ⟨g4, g4'⟩⟩ := id hg
  obtain ⟨zp1, zp2⟩ := pP2 n x g p
  have zc1 := hc.2.2.2.1
  have zc2 : ((cs n x g p).length : Int) ≤ g 2 := (cl_len n x g p p.toNat g2).1
  have hcS : ∀ s, Cp (mS M p s) n x g p := fun s => hc.to (mS_o (by decide) (by decide)) (mS_o (by decide) (by decide)) (mS_o (by decide) (by decide))
  have OUT : ∀ (q : Nat) (i : Nat) (s : Int × Int × Int) (sh : Int), i + q = (cs n x g p).length → ((cs n x g p).drop i).foldl (fun s d => wI (cC n x g) (g 4) p d s (rc n x p d) (rc n x p d - g 1 + 1).toNat) s = w2 n x g (cC n x g) p → g 1 ≤ sh → sh ≤ 21 → (∀ j, g 1 ≤ j → j < sh → s.1 ≤ g 4 + cC n x g (p + j)) → 0 ≤ s.1 ∧ s.1 ≤ 1300 → G Γ X 8 (R0, 51, 0, 0) 48 [some (.ref (gb Γ + 24)), some (vI p), some (vI s.1), some (vI sh), some (vI (g 4)), some (vI i), none, none] [] (mS M p s) := by
    intro q
    induction q with
    | zero =>
      intro i s sh hq hf h1 h2 h3 h4
      rw [List.drop_eq_nil_of_le (by omega), List.foldl_nil] at hf
      have zt1 : (mS M p s) 21 5 = M 21 5 := by rw [mS_o (by decide) (by decide)]
      refine g_iload hX d_Plan_planCheapest_48 rfl ?_
      refine g_aload_n hX d_Plan_planCheapest_50 rfl ?_
      refine g_getR hX fl_Plan_44 d_Plan_planCheapest_51 ⟨rfl, by decide⟩ rfl rfl ?_
      refine g_callV hX yo_Cand_lookedAt q_418 d_Plan_planCheapest_54 c_Cand_lookedAt rfl rfl ⟨rfl, by decide⟩ rfl (by decide) (Nat.le_of_ble_eq_true rfl) ⟨Nat.zero_le _, Nat.zero_le _⟩ (k_int fun r_54 M_54 ir_54 hp_54 => ?_)
      obtain ⟨er_54, eM_54⟩ := hp_54; replace er_54 := er_54.symm; replace eM_54 := eM_54.symm; subst er_54; subst eM_54
      rw [zt1] at ir_54 ⊢
      refine g_icmp_ge 147 hX d_Plan_planCheapest_57 (by decide) (by omega) (by omega) (fun h_57 => ?_) (fun h_57 => ?_)
      · refine g_aload_n hX d_Plan_planCheapest_147 rfl ?_
        refine g_getR hX fl_Plan_21 d_Plan_planCheapest_148 ⟨rfl, by decide⟩ rfl rfl ?_
        refine g_iload_n hX d_Plan_planCheapest_151 rfl ?_
        refine g_iload_n hX d_Plan_planCheapest_152 rfl ?_
        refine g_callSN (host := "WindowCopies") hX yo_WC_store (by unfold nestWs; simp) d_Plan_planCheapest_153 (c_WC_store (k := 28) rfl (by decide) (n := 61) (by omega) (by omega)) rfl rfl (by decide) (Nat.le_of_ble_eq_true rfl) ⟨Nat.zero_le _, Nat.zero_le _⟩ (k_void fun M_153 hp_153 => ?_)
        replace hp_153 := hp_153.symm; subst hp_153
        refine g_vret hX hR d_Plan_planCheapest_156 ?_
        rw [zp1, zp2, cC_at hg hp.1 hp.2, hf]; rfl
      · exact absurd h_57 (by omega)
    | succ q ih =>
      intro i s sh hq hf h1 h2 h3 h4
      have hl : (cs n x g p)[i]? = some ((cs n x g p).getD i 0) := by
        rw [List.getD_eq_getElem?_getD, List.getElem?_eq_getElem (by omega)]; rfl
      have hdr : (cs n x g p).drop i = (cs n x g p).getD i 0 :: (cs n x g p).drop (i + 1) := by
        rw [List.drop_eq_getElem_cons (by omega), List.getD_eq_getElem?_getD, List.getElem?_eq_getElem (by omega)]; rfl
      rw [hdr, List.foldl_cons] at hf
      generalize hd : (cs n x g p).getD i 0 = d at hl hf
      have zd := cs_at hl hp.1
      have zr := @rc_b n x p d (by omega)
      have zt1 : (mS M p s) 21 5 = M 21 5 := by rw [mS_o (by decide) (by decide)]
      rw [wI_skip h1 h3] at hf
      have zle := wI_least (T := cC n x g) (c := g 4) (p := p) (d := d) (rc n x p d - sh + 1).toNat s (rc n x p d)
      have zge := wI_b (T := cC n x g) (c := g 4) (p := p) (d := d) (by omega) (rc n x p d - sh + 1).toNat s (rc n x p d) h4.1 (fun j q1 q2 => (cC_bound (x := x) hg (show 0 ≤ p + j by omega) (by omega) v3).1)
      generalize hs' : wI (cC n x g) (g 4) p d s (rc n x p d) (rc n x p d - sh + 1).toNat = s' at hf zle zge
      have EX : G Γ X 8 (R0, 51, 0, 0) 125 [some (.ref (gb Γ + 24)), some (vI p), some (vI s'.1), some (vI sh), some (vI (g 4)), some (vI i), none, none] [] (mS M p s') := by
        refine g_iload_n hX d_Plan_planCheapest_125 rfl ?_
        refine g_aload_n hX d_Plan_planCheapest_126 rfl ?_
        refine g_getR hX fl_Plan_44 d_Plan_planCheapest_127 ⟨rfl, by decide⟩ rfl rfl ?_
        refine g_iload hX d_Plan_planCheapest_130 rfl ?_
        refine g_callV hX yo_Cand_reach q_397 d_Plan_planCheapest_132 (c_Cand_reach (hcS s') hg hl ⟨hp.1, by omega, v3⟩) rfl rfl ⟨rfl, by decide⟩ rfl (by decide) (Nat.le_of_ble_eq_true rfl) ⟨Nat.zero_le _, Nat.zero_le _⟩ (k_int fun r_132 M_132 ir_132 hp_132 => ?_)
        obtain ⟨er_132, eM_132⟩ := hp_132; replace er_132 := er_132.symm; replace eM_132 := eM_132.symm; subst er_132; subst eM_132
        refine g_iconst hX d_Plan_planCheapest_135 ?_
        refine g_iadd hX d_Plan_planCheapest_136 ?_
        refine g_max hX d_Plan_planCheapest_137 q_419 (by omega) (by omega) (by decide) (Nat.le_of_ble_eq_true rfl) ⟨Nat.zero_le _, Nat.zero_le _⟩ ?_
        refine g_istore_n hX d_Plan_planCheapest_140 (by decide) ?_
        refine g_iinc hX d_Plan_planCheapest_141 rfl (by decide) ?_
        refine g_goto 48 hX d_Plan_planCheapest_144 (by decide) ?_
        refine ih (i + 1) s' (max sh (rc n x p d + 1)) (by omega) hf (by omega) (by omega) (fun j q1 q2 => ?_) ⟨zge.1, by omega⟩
        by_cases q3 : j < sh
        · have zq := h3 j q1 q3; omega
        · exact zle.2 j (by omega) (by omega)
      have INN : ∀ (k : Nat) (l : Int) (s : Int × Int × Int), (l - sh + 1).toNat = k → l ≤ rc n x p d → 1 ≤ l + 1 → wI (cC n x g) (g 4) p d s l k = s' → 0 ≤ s.1 ∧ s.1 ≤ 1300 → G Γ X 8 (R0, 51, 0, 0) 71 [some (.ref (gb Γ + 24)), some (vI p), some (vI s.1), some (vI sh), some (vI (g 4)), some (vI i), some (vI l), none] [] (mS M p s) := by
        intro k
        induction k with
        | zero =>
          intro l s q1 q2 q3 q4 q5
          have q6 : s = s' := q4
          subst q6
          refine g_iload hX d_Plan_planCheapest_71 rfl ?_
          refine g_iload_n hX d_Plan_planCheapest_73 rfl ?_
          refine g_icmp_lt 125 hX d_Plan_planCheapest_74 (by decide) (by omega) (by omega) (fun h_74 => ?_) (fun h_74 => ?_)
          · refine g_drop 6 ?_
            exact EX
          · exact absurd h_74 (by omega)
        | succ k ih2 =>
          intro l s q1 q2 q3 q4 q5
          rw [wI_succ] at q4
          have zb := cC_bound (x := x) hg (show 0 ≤ p + l by omega) (by omega) v3
          have zt2 : (mS M p s) 28 (p + l) = cC n x g (p + l) := by rw [mS_o (by decide) (by decide)]; exact hC _ (by omega) (by omega)
          refine g_iload hX d_Plan_planCheapest_71 rfl ?_
          refine g_iload_n hX d_Plan_planCheapest_73 rfl ?_
          refine g_icmp_lt 125 hX d_Plan_planCheapest_74 (by decide) (by omega) (by omega) (fun h_74 => ?_) (fun h_74 => ?_)
          · exact absurd h_74 (by omega)
          · refine g_iload hX d_Plan_planCheapest_77 rfl ?_
            refine g_aload_n hX d_Plan_planCheapest_79 rfl ?_
            refine g_getR hX fl_Plan_21 d_Plan_planCheapest_80 ⟨rfl, by decide⟩ rfl rfl ?_
            refine g_iload_n hX d_Plan_planCheapest_83 rfl ?_
            refine g_iload hX d_Plan_planCheapest_84 rfl ?_
            refine g_iadd hX d_Plan_planCheapest_86 ?_
            refine g_callSN (host := "WindowCopies") hX yo_WC_at (by unfold nestWs; simp) d_Plan_planCheapest_87 (c_WC_at (k := 28) rfl (by decide) (n := 61) (by omega)) rfl rfl (by decide) (Nat.le_of_ble_eq_true rfl) ⟨Nat.zero_le _, Nat.zero_le _⟩ (k_int fun r_87 M_87 ir_87 hp_87 => ?_)
            obtain ⟨er_87, eM_87⟩ := hp_87; replace er_87 := er_87.symm; replace eM_87 := eM_87.symm; subst er_87; subst eM_87
            rw [zt2] at ir_87 ⊢
            refine g_iadd hX d_Plan_planCheapest_90 ?_
            refine g_istore hX d_Plan_planCheapest_91 (by decide) ?_
            refine g_iload hX d_Plan_planCheapest_93 rfl ?_
            refine g_iload_n hX d_Plan_planCheapest_95 rfl ?_
            refine g_icmp_ge 119 hX d_Plan_planCheapest_96 (by decide) (by omega) (by omega) (fun h_96 => ?_) (fun h_96 => ?_)
            · rw [if_neg (by omega)] at q4
              have zm : mS M p s = mS M p s := rfl
              refine g_iinc hX d_Plan_planCheapest_119 rfl (by decide) ?_
              refine g_goto 71 hX d_Plan_planCheapest_122 (by decide) ?_
              refine g_drop 7 ?_
              rw [zm]
              exact ih2 (l + -1) _ (by omega) (by omega) (by omega) q4 (by first | exact q5 | exact ⟨by show 0 ≤ g 4 + cC n x g (p + l); omega, by show g 4 + cC n x g (p + l) ≤ 1300; omega⟩)
            · rw [if_pos (by omega)] at q4
              have zm : mU (mU (mS M p s) 25 (2 * 60 + p) d) 26 (2 * 60 + p) l = mS M p (g 4 + cC n x g (p + l), l, d) := mU_over2 M 25 26 _ _ _ _ _ (by decide)
              refine g_iload hX d_Plan_planCheapest_99 rfl ?_
              refine g_istore_n hX d_Plan_planCheapest_101 (by decide) ?_
              refine g_aload_n hX d_Plan_planCheapest_102 rfl ?_
              refine g_iconst hX d_Plan_planCheapest_103 ?_
              refine g_iload_n hX d_Plan_planCheapest_104 rfl ?_
              refine g_aload_n hX d_Plan_planCheapest_105 rfl ?_
              refine g_getR hX fl_Plan_44 d_Plan_planCheapest_106 ⟨rfl, by decide⟩ rfl rfl ?_
              refine g_iload hX d_Plan_planCheapest_109 rfl ?_
              refine g_callV hX yo_Cand_distance q_398 d_Plan_planCheapest_111 (c_Cand_distance (hcS s) hg hl) rfl rfl ⟨rfl, by decide⟩ rfl (by decide) (Nat.le_of_ble_eq_true rfl) ⟨Nat.zero_le _, Nat.zero_le _⟩ (k_int fun r_111 M_111 ir_111 hp_111 => ?_)
              obtain ⟨er_111, eM_111⟩ := hp_111; replace er_111 := er_111.symm; replace eM_111 := eM_111.symm; subst er_111; subst eM_111
              refine g_iload hX d_Plan_planCheapest_114 rfl ?_
              refine g_callV hX yo_Plan_planPart q_393 d_Plan_planCheapest_116 (c_Plan_planPart (by omega) (by omega) (by omega) (by omega)) rfl rfl ⟨rfl, by decide⟩ rfl (by decide) (Nat.le_of_ble_eq_true rfl) ⟨Nat.zero_le _, Nat.zero_le _⟩ (k_void fun M_116 hp_116 => ?_)
              replace hp_116 := hp_116.symm; subst hp_116
              refine g_iinc hX d_Plan_planCheapest_119 rfl (by decide) ?_
              refine g_goto 71 hX d_Plan_planCheapest_122 (by decide) ?_
              refine g_drop 7 ?_
              rw [zm]
              exact ih2 (l + -1) _ (by omega) (by omega) (by omega) q4 (by first | exact q5 | exact ⟨by show 0 ≤ g 4 + cC n x g (p + l); omega, by show g 4 + cC n x g (p + l) ≤ 1300; omega⟩)
      refine g_iload hX d_Plan_planCheapest_48 rfl ?_
      refine g_aload_n hX d_Plan_planCheapest_50 rfl ?_
      refine g_getR hX fl_Plan_44 d_Plan_planCheapest_51 ⟨rfl, by decide⟩ rfl rfl ?_
      refine g_callV hX yo_Cand_lookedAt q_418 d_Plan_planCheapest_54 c_Cand_lookedAt rfl rfl ⟨rfl, by decide⟩ rfl (by decide) (Nat.le_of_ble_eq_true rfl) ⟨Nat.zero_le _, Nat.zero_le _⟩ (k_int fun r_54 M_54 ir_54 hp_54 => ?_)
      obtain ⟨er_54, eM_54⟩ := hp_54; replace er_54 := er_54.symm; replace eM_54 := eM_54.symm; subst er_54; subst eM_54
      rw [zt1] at ir_54 ⊢
      refine g_icmp_ge 147 hX d_Plan_planCheapest_57 (by decide) (by omega) (by omega) (fun h_57 => ?_) (fun h_57 => ?_)
      · exact absurd h_57 (by omega)
      · refine g_aload_n hX d_Plan_planCheapest_60 rfl ?_
        refine g_getR hX fl_Plan_44 d_Plan_planCheapest_61 ⟨rfl, by decide⟩ rfl rfl ?_
        refine g_iload hX d_Plan_planCheapest_64 rfl ?_
        refine g_callV hX yo_Cand_reach q_397 d_Plan_planCheapest_66 (c_Cand_reach (hcS s) hg hl ⟨hp.1, by omega, v3⟩) rfl rfl ⟨rfl, by decide⟩ rfl (by decide) (Nat.le_of_ble_eq_true rfl) ⟨Nat.zero_le _, Nat.zero_le _⟩ (k_int fun r_66 M_66 ir_66 hp_66 => ?_)
        obtain ⟨er_66, eM_66⟩ := hp_66; replace er_66 := er_66.symm; replace eM_66 := eM_66.symm; subst er_66; subst eM_66
        refine g_istore hX d_Plan_planCheapest_69 (by decide) ?_
        exact INN _ _ s rfl (by omega) (by omega) hs' h4
  have zb1 := cC_bound (x := x) hg (show 0 ≤ p + 1 by omega) (by omega) v3
  refine g_aload_n hX d_Plan_planCheapest_0 rfl ?_
  refine g_getR hX fl_Plan_40 d_Plan_planCheapest_1 ⟨rfl, by decide⟩ rfl rfl ?_
  refine g_iconst hX d_Plan_planCheapest_4 ?_
  refine g_callV hX yo_State_setting q_417 d_Plan_planCheapest_5 (c_State_setting st_1 (p := 3) (by omega)) rfl rfl ⟨rfl, by decide⟩ rfl (by decide) (Nat.le_of_ble_eq_true rfl) ⟨Nat.zero_le _, Nat.zero_le _⟩ (k_int fun r_5 M_5 ir_5 hp_5 => ?_)
  obtain ⟨er_5, eM_5⟩ := hp_5; replace er_5 := er_5.symm; replace eM_5 := eM_5.symm; subst er_5; subst eM_5
  rw [v5 3 (by omega) (by omega)] at ir_5 ⊢
  refine g_aload_n hX d_Plan_planCheapest_8 rfl ?_
  refine g_getR hX fl_Plan_21 d_Plan_planCheapest_9 ⟨rfl, by decide⟩ rfl rfl ?_
  refine g_iload_n hX d_Plan_planCheapest_12 rfl ?_
  refine g_iconst hX d_Plan_planCheapest_13 ?_
  refine g_iadd hX d_Plan_planCheapest_14 ?_
  refine g_callSN (host := "WindowCopies") hX yo_WC_at (by unfold nestWs; simp) d_Plan_planCheapest_15 (c_WC_at (k := 28) rfl (by decide) (n := 61) (by omega)) rfl rfl (by decide) (Nat.le_of_ble_eq_true rfl) ⟨Nat.zero_le _, Nat.zero_le _⟩ (k_int fun r_15 M_15 ir_15 hp_15 => ?_)
  obtain ⟨er_15, eM_15⟩ := hp_15; replace er_15 := er_15.symm; replace eM_15 := eM_15.symm; subst er_15; subst eM_15
  rw [hC (p + 1) (by omega) (by omega)] at ir_15 ⊢
  refine g_iadd hX d_Plan_planCheapest_18 ?_
  refine g_istore_n hX d_Plan_planCheapest_19 (by decide) ?_
  refine g_aload_n hX d_Plan_planCheapest_20 rfl ?_
  refine g_iconst hX d_Plan_planCheapest_21 ?_
  refine g_iload_n hX d_Plan_planCheapest_22 rfl ?_
  refine g_callV hX yo_Plan_planLetter q_389 d_Plan_planCheapest_23 (c_Plan_planLetter (by omega) (by omega)) rfl rfl ⟨rfl, by decide⟩ rfl (by decide) (Nat.le_of_ble_eq_true rfl) ⟨Nat.zero_le _, Nat.zero_le _⟩ (k_void fun M_23 hp_23 => ?_)
  replace hp_23 := hp_23.symm; subst hp_23
  refine g_aload_n hX d_Plan_planCheapest_26 rfl ?_
  refine g_getR hX fl_Plan_40 d_Plan_planCheapest_27 ⟨rfl, by decide⟩ rfl rfl ?_
  refine g_iconst hX d_Plan_planCheapest_30 ?_
  refine g_callV hX yo_State_setting q_417 d_Plan_planCheapest_31 (c_State_setting st_1 (p := 1) (by omega)) rfl rfl ⟨rfl, by decide⟩ rfl (by decide) (Nat.le_of_ble_eq_true rfl) ⟨Nat.zero_le _, Nat.zero_le _⟩ (k_int fun r_31 M_31 ir_31 hp_31 => ?_)
  obtain ⟨er_31, eM_31⟩ := hp_31; replace er_31 := er_31.symm; replace eM_31 := eM_31.symm; subst er_31; subst eM_31
  rw [mU_cell (by omega), mU_cell (by omega), v5 1 (by omega) (by omega)] at ir_31 ⊢
  refine g_istore_n hX d_Plan_planCheapest_34 (by decide) ?_
  refine g_aload_n hX d_Plan_planCheapest_35 rfl ?_
  refine g_getR hX fl_Plan_40 d_Plan_planCheapest_36 ⟨rfl, by decide⟩ rfl rfl ?_
  refine g_iconst hX d_Plan_planCheapest_39 ?_
  refine g_callV hX yo_State_setting q_417 d_Plan_planCheapest_40 (c_State_setting st_1 (p := 4) (by omega)) rfl rfl ⟨rfl, by decide⟩ rfl (by decide) (Nat.le_of_ble_eq_true rfl) ⟨Nat.zero_le _, Nat.zero_le _⟩ (k_int fun r_40 M_40 ir_40 hp_40 => ?_)
  obtain ⟨er_40, eM_40⟩ := hp_40; replace er_40 := er_40.symm; replace eM_40 := eM_40.symm; subst er_40; subst eM_40
  rw [mU_cell (by omega), mU_cell (by omega), v5 4 (by omega) (by omega)] at ir_40 ⊢
  refine g_istore hX d_Plan_planCheapest_43 (by decide) ?_
  refine g_iconst hX d_Plan_planCheapest_45 ?_
  refine g_istore hX d_Plan_planCheapest_46 (by decide) ?_
  exact OUT _ 0 (g 3 + cC n x g (p + 1), 1, 0) (g 1) (Nat.zero_add _) rfl (Int.le_refl _) (by omega) (fun j q1 q2 => by omega) ⟨by show 0 ≤ g 3 + cC n x g (p + 1); omega, by show g 3 + cC n x g (p + 1) ≤ 1300; omega⟩
/-- from place p on all three ways are planned -/
def Pp (M : mI) (n : Int) (x g : Int → Int) (p : Int) : Prop := (∀ w q, 0 ≤ w → w ≤ 2 → p ≤ q → q < n → M 25 (w * 60 + q) = pD n x g w q ∧ M 26 (w * 60 + q) = pL n x g w q) ∧ (∀ q, p ≤ q → q ≤ n + 1 → M 27 q = sv n x g q) ∧ ∀ q, p ≤ q → q ≤ n → M 28 q = cC n x g q
theorem Pp.to {M M' : mI} {n : Int} {x g : Int → Int} {p : Int} (h : Pp M n x g p) (h5 : M' 25 = M 25) (h6 : M' 26 = M 26) (h7 : M' 27 = M 27) (h8 : M' 28 = M 28) : Pp M' n x g p := by
  unfold Pp
  rw [h5, h6, h7, h8]
  exact h
theorem c_Plan_make {Γ : gX} {l : Launch} {M : mI} {n : Int} {x g : Int → Int} (hv : Sv M 1 n x g) (hg : Og g) : Cn Γ l i_Plan_make R0 51 [.ref (gb Γ + 24)] M (pV (fun M' => Pp M' n x g 0 ∧ ∀ a, a ≠ 21 → a ≠ 22 → a ≠ 23 → a ≠ 25 → a ≠ 26 → a ≠ 27 → a ≠ 28 → M' a = M a)) := by
  refine cn_intro (L := [some (.ref (gb Γ + 24)), none, none]) yo_Plan_make.1 rfl (Nat.le_of_ble_eq_true rfl) rfl (fun X hX hR => ?_)
  obtain ⟨v1, v2, v3, v4, v5⟩ := id hv
  have LOOP : ∀ (q : Nat) (j : Int) (M1 : mI), (j + 1).toNat = q → -1 ≤ j → j < n → Cp M1 n x g (j + 1) → Pp M1 n x g (j + 1) → (∀ a, a ≠ 21 → a ≠ 22 → a ≠ 23 → a ≠ 25 → a ≠ 26 → a ≠ 27 → a ≠ 28 → M1 a = M a) → G Γ X 3 (R0, 51, 0, 0) 48 [some (.ref (gb Γ + 24)), some (vI n), some (vI j)] [] M1 := by
    intro q
    induction q with
    | zero =>
      intro j M1 hq h0 h1 h2 h3 h4
      refine g_iload_n hX d_Plan_make_48 rfl ?_
      refine g_if_lt 80 hX d_Plan_make_49 (by decide) (by omega) (fun h_49 => ?_) (fun h_49 => ?_)
      · refine g_vret hX hR d_Plan_make_80 ?_
        rw [show j + 1 = 0 by omega] at h3
        exact ⟨h3, h4⟩
      · exact absurd h_49 (by omega)
    | succ q ih =>
      intro j M1 hq h0 h1 h2 h3 h4
      have hv1 : Sv M1 1 n x g := hv.to (h4 1 (by decide) (by decide) (by decide) (by decide) (by decide) (by decide) (by decide)) (h4 2 (by decide) (by decide) (by decide) (by decide) (by decide) (by decide) (by decide)) (h4 3 (by decide) (by decide) (by decide) (by decide) (by decide) (by decide) (by decide))
      obtain ⟨y1, y2, y3⟩ := h3
      refine g_iload_n hX d_Plan_make_48 rfl ?_
      refine g_if_lt 80 hX d_Plan_make_49 (by decide) (by omega) (fun h_49 => ?_) (fun h_49 => ?_)
      · exact absurd h_49 (by omega)
      · refine g_aload_n hX d_Plan_make_52 rfl ?_
        refine g_getR hX fl_Plan_44 d_Plan_make_53 ⟨rfl, by decide⟩ rfl rfl ?_
        refine g_callV hX yo_Cand_stepAhead q_383 d_Plan_make_56 (c_Cand_stepAhead (p := j) hv1 hg h2 (by omega)) rfl rfl ⟨rfl, by decide⟩ rfl (by decide) (Nat.le_of_ble_eq_true rfl) ⟨Nat.zero_le _, Nat.zero_le _⟩ (k_void fun M_56 hp_56 => ?_)
        obtain ⟨p1, p2⟩ := hp_56
        have hv2 : Sv M_56 1 n x g := hv1.to (p2 1 (by decide) (by decide) (by decide)) (p2 2 (by decide) (by decide) (by decide)) (p2 3 (by decide) (by decide) (by decide))
        have e5 := p2 25 (by decide) (by decide) (by decide)
        have e6 := p2 26 (by decide) (by decide) (by decide)
        have e7 := p2 27 (by decide) (by decide) (by decide)
        have e8 := p2 28 (by decide) (by decide) (by decide)
        rw [← e5, ← e6] at y1
        rw [← e7] at y2
        rw [← e8] at y3
        refine g_aload_n hX d_Plan_make_59 rfl ?_
        refine g_iload_n hX d_Plan_make_60 rfl ?_
        refine g_callV hX yo_Plan_planFound q_384 d_Plan_make_61 (c_Plan_planFound hv2 hg p1 (by omega)) rfl rfl ⟨rfl, by decide⟩ rfl (by decide) (Nat.le_of_ble_eq_true rfl) ⟨Nat.zero_le _, Nat.zero_le _⟩ (k_void fun M_61 hp_61 => ?_)
        obtain ⟨M_61', zM61⟩ : ∃ M_61', M_61' = M_61 := ⟨_, rfl⟩
        subst zM61
        refine g_aload_n hX d_Plan_make_64 rfl ?_
        refine g_iload_n hX d_Plan_make_65 rfl ?_
        refine g_callV hX yo_Plan_planWeighed q_400 d_Plan_make_66 (c_Plan_planWeighed (n := n) (x := x) hg (by omega) (by rw [hp_61, mU_self]) (by rw [hp_61, mU_slot (by omega), mU_cell (by omega), mU_cell (by omega)]; exact y2 _ (by omega) (by omega)) (by rw [hp_61, mU_slot (by omega), mU_cell (by omega), mU_cell (by omega)]; exact y2 _ (by omega) (by omega)) (by rw [hp_61, mU_cell (by omega), mU_cell (by omega), mU_self]) (by rw [hp_61, mU_cell (by omega), mU_self])) rfl rfl ⟨rfl, by decide⟩ rfl (by decide) (Nat.le_of_ble_eq_true rfl) ⟨Nat.zero_le _, Nat.zero_le _⟩ (k_void fun M_66 hp_66 => ?_)
        have ho66 : ∀ a, a ≠ 25 → a ≠ 26 → a ≠ 27 → M_66 a = M_56 a := fun a u v w => by rw [hp_66, mU_cell v, mU_cell u, hp_61, mU_cell w, mU_cell v, mU_cell u]
        refine g_aload_n hX d_Plan_make_69 rfl ?_
        refine g_iload_n hX d_Plan_make_70 rfl ?_
        refine g_callV hX yo_Plan_planCheapest q_413 d_Plan_make_71 (c_Plan_planCheapest (n := n) (x := x) (g := g) (hv2.to (ho66 1 (by decide) (by decide) (by decide)) (ho66 2 (by decide) (by decide) (by decide)) (ho66 3 (by decide) (by decide) (by decide))) hg (p1.to (ho66 21 (by decide) (by decide) (by decide)) (ho66 22 (by decide) (by decide) (by decide)) (ho66 23 (by decide) (by decide) (by decide))) (by omega) (fun q u v => by rw [ho66 28 (by decide) (by decide) (by decide)]; exact y3 q (by omega) v)) rfl rfl ⟨rfl, by decide⟩ rfl (by decide) (Nat.le_of_ble_eq_true rfl) ⟨Nat.zero_le _, Nat.zero_le _⟩ (k_void fun M_71 hp_71 => ?_)
        have ho71 : ∀ a, a ≠ 25 → a ≠ 26 → a ≠ 27 → a ≠ 28 → M_71 a = M_56 a := fun a u v w t => by rw [hp_71, mU_cell t, mU_cell v, mU_cell u]; exact ho66 a u v w
        refine g_iinc hX d_Plan_make_74 rfl (by decide) ?_
        refine g_goto 48 hX d_Plan_make_77 (by decide) ?_
        refine ih (j + -1) _ (by omega) (by omega) (by omega) ?_ ⟨fun w q u v s t => ?_, fun q u v => ?_, fun q u v => ?_⟩ (fun a t1 t2 t3 t4 t5 t6 t7 => by rw [ho71 a t4 t5 t6 t7, p2 a t1 t2 t3]; exact h4 a t1 t2 t3 t4 t5 t6 t7)
        · rw [show j + -1 + 1 = j by omega]
          exact p1.to (ho71 21 (by decide) (by decide) (by decide) (by decide)) (ho71 22 (by decide) (by decide) (by decide) (by decide)) (ho71 23 (by decide) (by decide) (by decide) (by decide))
        · rw [show j + -1 + 1 = j by omega] at s
          by_cases hj : q = j
          · subst hj
            rcases (show w = 0 ∨ w = 1 ∨ w = 2 by omega) with hw | hw | hw
            · subst hw; exact ⟨by rw [hp_71, mU_cell (by omega), mU_cell (by omega), mU_slot (by omega), hp_66, mU_cell (by omega), mU_slot (by omega), hp_61, mU_cell (by omega), mU_cell (by omega), mU_self], by rw [hp_71, mU_cell (by omega), mU_slot (by omega), mU_cell (by omega), hp_66, mU_slot (by omega), mU_cell (by omega), hp_61, mU_cell (by omega), mU_self]⟩
            · subst hw; exact ⟨by rw [hp_71, mU_cell (by omega), mU_cell (by omega), mU_slot (by omega), hp_66, mU_cell (by omega), mU_self], by rw [hp_71, mU_cell (by omega), mU_slot (by omega), mU_cell (by omega), hp_66, mU_self]⟩
            · subst hw; exact ⟨by rw [hp_71, mU_cell (by omega), mU_cell (by omega), mU_self], by rw [hp_71, mU_cell (by omega), mU_self]⟩
          · have zq := y1 w q u v (by omega) t
            exact ⟨by rw [hp_71, mU_cell (by omega), mU_cell (by omega), mU_slot (by omega), hp_66, mU_cell (by omega), mU_slot (by omega), hp_61, mU_cell (by omega), mU_cell (by omega), mU_slot (by omega)]; exact zq.1, by rw [hp_71, mU_cell (by omega), mU_slot (by omega), mU_cell (by omega), hp_66, mU_slot (by omega), mU_cell (by omega), hp_61, mU_cell (by omega), mU_slot (by omega), mU_cell (by omega)]; exact zq.2⟩
        · rw [hp_71, mU_cell (by omega), mU_cell (by omega), mU_cell (by omega), hp_66, mU_cell (by omega), mU_cell (by omega), hp_61]
          by_cases hj : q = j
          · subst hj; rw [mU_self]
          · rw [mU_slot hj, mU_cell (by omega), mU_cell (by omega)]; exact y2 q (by omega) v
        · rw [hp_71]
          by_cases hj : q = j
          · subst hj; rw [mU_self]
          · rw [mU_slot hj, mU_cell (by omega), mU_cell (by omega), ho66 28 (by decide) (by decide) (by decide)]; exact y3 q (by omega) v
  refine g_aload_n hX d_Plan_make_0 rfl ?_
  refine g_getR hX fl_Plan_40 d_Plan_make_1 ⟨rfl, by decide⟩ rfl rfl ?_
  refine g_callV hX yo_State_size q_380 d_Plan_make_4 (c_State_size st_1) rfl rfl ⟨rfl, by decide⟩ rfl (by decide) (Nat.le_of_ble_eq_true rfl) ⟨Nat.zero_le _, Nat.zero_le _⟩ (k_int fun r_4 M_4 ir_4 hp_4 => ?_)
  obtain ⟨er_4, eM_4⟩ := hp_4; replace er_4 := er_4.symm; replace eM_4 := eM_4.symm; subst er_4; subst eM_4
  rw [v1] at ir_4 ⊢
  refine g_istore_n hX d_Plan_make_7 (by decide) ?_
  refine g_aload_n hX d_Plan_make_8 rfl ?_
  refine g_getR hX fl_Plan_18 d_Plan_make_9 ⟨rfl, by decide⟩ rfl rfl ?_
  refine g_iload_n hX d_Plan_make_12 rfl ?_
  refine g_iconst hX d_Plan_make_13 ?_
  refine g_callSN (host := "WindowCopies") hX yo_WC_store (by unfold nestWs; simp) d_Plan_make_14 (c_WC_store (k := 27) rfl (by decide) (n := 62) (by omega) (by omega)) rfl rfl (by decide) (Nat.le_of_ble_eq_true rfl) ⟨Nat.zero_le _, Nat.zero_le _⟩ (k_void fun M_14 hp_14 => ?_)
  replace hp_14 := hp_14.symm; subst hp_14
  refine g_aload_n hX d_Plan_make_17 rfl ?_
  refine g_getR hX fl_Plan_18 d_Plan_make_18 ⟨rfl, by decide⟩ rfl rfl ?_
  refine g_iload_n hX d_Plan_make_21 rfl ?_
  refine g_iconst hX d_Plan_make_22 ?_
  refine g_iadd hX d_Plan_make_23 ?_
  refine g_iconst hX d_Plan_make_24 ?_
  refine g_callSN (host := "WindowCopies") hX yo_WC_store (by unfold nestWs; simp) d_Plan_make_25 (c_WC_store (k := 27) rfl (by decide) (n := 62) (by omega) (by omega)) rfl rfl (by decide) (Nat.le_of_ble_eq_true rfl) ⟨Nat.zero_le _, Nat.zero_le _⟩ (k_void fun M_25 hp_25 => ?_)
  replace hp_25 := hp_25.symm; subst hp_25
  refine g_aload_n hX d_Plan_make_28 rfl ?_
  refine g_getR hX fl_Plan_21 d_Plan_make_29 ⟨rfl, by decide⟩ rfl rfl ?_
  refine g_iload_n hX d_Plan_make_32 rfl ?_
  refine g_iconst hX d_Plan_make_33 ?_
  refine g_callSN (host := "WindowCopies") hX yo_WC_store (by unfold nestWs; simp) d_Plan_make_34 (c_WC_store (k := 28) rfl (by decide) (n := 61) (by omega) (by omega)) rfl rfl (by decide) (Nat.le_of_ble_eq_true rfl) ⟨Nat.zero_le _, Nat.zero_le _⟩ (k_void fun M_34 hp_34 => ?_)
  replace hp_34 := hp_34.symm; subst hp_34
  refine g_aload_n hX d_Plan_make_37 rfl ?_
  refine g_getR hX fl_Plan_44 d_Plan_make_38 ⟨rfl, by decide⟩ rfl rfl ?_
  refine g_callV hX yo_Cand_beginBehindRow q_382 d_Plan_make_41 (c_Cand_beginBehindRow (n := n) (x := x) (g := g) (hv.to (by rw [mU_cell (by omega), mU_cell (by omega), mU_cell (by omega)]) (by rw [mU_cell (by omega), mU_cell (by omega), mU_cell (by omega)]) (by rw [mU_cell (by omega), mU_cell (by omega), mU_cell (by omega)]))) rfl rfl ⟨rfl, by decide⟩ rfl (by decide) (Nat.le_of_ble_eq_true rfl) ⟨Nat.zero_le _, Nat.zero_le _⟩ (k_void fun M_41 hp_41 => ?_)
  obtain ⟨p1, p2⟩ := hp_41
  refine g_iload_n hX d_Plan_make_44 rfl ?_
  refine g_iconst hX d_Plan_make_45 ?_
  refine g_isub hX d_Plan_make_46 ?_
  refine g_istore_n hX d_Plan_make_47 (by decide) ?_
  refine LOOP _ (n - 1) M_41 rfl (by omega) (by omega) (by rw [show n - 1 + 1 = n by omega]; exact p1) ⟨fun w q u v s t => by omega, fun q u v => ?_, fun q u v => ?_⟩ (fun a t1 t2 t3 t4 t5 t6 t7 => by rw [p2 a t1 t2 t3, mU_cell t7, mU_cell t6, mU_cell t6])
  · rw [p2 27 (by decide) (by decide) (by decide), mU_cell (by omega), sv_past n x g (by omega)]
    by_cases hq : q = n + 1
    · subst hq; rw [mU_self]
    · rw [mU_slot hq, show q = n by omega, mU_self]
  · rw [p2 28 (by decide) (by decide) (by decide), show q = n by omega, mU_self, cC_end n x g v2]
theorem pL_b {n : Int} {x g : Int → Int} (hg : Og g) (w p : Int) (hp : 0 ≤ p) (hn : p < n) : 1 ≤ pL n x g w p ∧ pL n x g w p ≤ 20 ∧ p + pL n x g w p ≤ n ∧ 0 ≤ pD n x g w p ∧ pD n x g w p ≤ p ∧ pD n x g w p ≤ g 0 := by
  have zo := pP_ok (x := x) (w := w) hg hp hn
  exact ⟨zo.1, zo.2.1, zo.2.2.1, zo.2.2.2.1, zo.2.2.2.2.1, zo.2.2.2.2.2.1⟩
theorem ly_step {L : Int → Int} {n p : Int} (hL : ∀ q, 0 ≤ q → q < n → 1 ≤ L q) (h0 : 0 ≤ p) (hp : p < n) : ly L n n.toNat p = p :: ly L n n.toNat (p + L p) := by
  obtain ⟨k, hk⟩ : ∃ k : Nat, n.toNat = k + 1 := ⟨n.toNat - 1, by omega⟩
  have zl := hL p h0 hp
  rw [hk, ly_succ, if_pos hp]
  congr 1
  exact (ly_more hL k 1 (p + L p) (by omega) (by omega)).symm
/-- the parts of way w are listed and counted -/
def Lp (M : mI) (n : Int) (x g : Int → Int) (w : Int) : Prop := M 24 7 = ((bgs n x g w).length : Int) ∧ (∀ (i : Nat) (b : Int), (bgs n x g w)[i]? = some b → M 29 i = b) ∧ M 24 8 = (sts n x g w).1 ∧ M 24 9 = (sts n x g w).2.1 ∧ M 24 10 = (sts n x g w).2.2
theorem Lp.to {M M' : mI} {n : Int} {x g : Int → Int} {w : Int} (h : Lp M n x g w) (h4 : M' 24 = M 24) (h9 : M' 29 = M 29) : Lp M' n x g w := by
  unfold Lp
  rw [h4, h9]
  exact h
theorem row_snoc {M : mI} {k : Nat} {bs : List Int} {b v : Int} (h : ∀ (i : Nat) (c : Int), bs[i]? = some c → M k i = c) (hb : b = bs.length) : ∀ (i : Nat) (c : Int), (bs ++ [v])[i]? = some c → mU M k b v k i = c := by
  intro i c hc
  subst hb
  by_cases hi : i < bs.length
  · rw [List.getElem?_append_left hi] at hc
    rw [mU_slot (by omega)]
    exact h i c hc
  · have hi2 : i = bs.length := by
      have zz := (List.getElem?_eq_some_iff.mp hc).1
      simp at zz
      omega
    subst hi2
    rw [mU_self]
    simpa using hc
/-- what layOut has counted, of the parts bs -/
def Lq (M : mI) (D L : Int → Int) (bs : List Int) : Prop := M 24 7 = (bs.length : Int) ∧ (∀ (i : Nat) (b : Int), bs[i]? = some b → M 29 i = b) ∧ M 24 8 = (stF D L bs).1 ∧ M 24 9 = (stF D L bs).2.1 ∧ M 24 10 = (stF D L bs).2.2
theorem stS_0 {D L : Int → Int} {s : Int × Int × Int} {q : Int} (h : D q = 0) : stS D L s q = s := by unfold stS; rw [if_neg (by omega)]
theorem stS_1 {D L : Int → Int} {s : Int × Int × Int} {q : Int} (h : D q ≠ 0) : stS D L s q = (s.1 + 1, s.2.1 + L q, max s.2.2 (L q)) := by unfold stS; rw [if_pos h]
theorem c_Plan_layOut {Γ : gX} {l : Launch} {M : mI} {n w : Int} {x g : Int → Int} (hv : Sv M 1 n x g) (hg : Og g) (hw : 0 ≤ w ∧ w ≤ 2) (hP : Pp M n x g 0) : Cn Γ l i_Plan_layOut R0 51 [.ref (gb Γ + 24), vI w] M (pV (fun M' => Lp M' n x g w ∧ ∀ a, a ≠ 24 → a ≠ 29 → M' a = M a)) := by
  refine cn_intro (L := [some (.ref (gb Γ + 24)), some (vI w), none, none]) yo_Plan_layOut.1 rfl (Nat.le_of_ble_eq_true rfl) rfl (fun X hX hR => ?_)
  obtain ⟨v1, v2, v3, v4, v5⟩ := id hv
  have hL1 : ∀ q, 0 ≤ q → q < n → 1 ≤ pL n x g w q := fun q u v => (pL_b hg w q u v).1
  have LOOP : ∀ (q : Nat) (p nx : Int) (bs : List Int) (M1 : mI), (n - p).toNat = q → 0 ≤ p → p ≤ n → p ≤ nx → nx ≤ n → bs ++ ly (pL n x g w) n n.toNat nx = bgs n x g w → (bs.length : Int) ≤ p → Lq M1 (pD n x g w) (pL n x g w) bs → 0 ≤ M1 24 8 ∧ M1 24 8 ≤ bs.length → 0 ≤ M1 24 9 ∧ M1 24 9 ≤ nx → 0 ≤ M1 24 10 ∧ M1 24 10 ≤ 20 → (∀ a, a ≠ 24 → a ≠ 29 → M1 a = M a) → G Γ X 4 (R0, 51, 0, 0) 24 [some (.ref (gb Γ + 24)), some (vI w), some (vI nx), some (vI p)] [] M1 := by
    intro q
    induction q with
    | zero =>
      intro p nx bs M1 hq h0 h1 h2 h3 h4 h5 h6 h7 h8 h9 h10
      have e1 : M1 1 2 = n := by rw [h10 1 (by decide) (by decide)]; exact v1
      refine g_iload_n hX d_Plan_layOut_24 rfl ?_
      refine g_aload_n hX d_Plan_layOut_25 rfl ?_
      refine g_getR hX fl_Plan_40 d_Plan_layOut_26 ⟨rfl, by decide⟩ rfl rfl ?_
      refine g_callV hX yo_State_size q_380 d_Plan_layOut_29 (c_State_size st_1) rfl rfl ⟨rfl, by decide⟩ rfl (by decide) (Nat.le_of_ble_eq_true rfl) ⟨Nat.zero_le _, Nat.zero_le _⟩ (k_int fun r_29 M_29 ir_29 hp_29 => ?_)
      obtain ⟨er_29, eM_29⟩ := hp_29; replace er_29 := er_29.symm; replace eM_29 := eM_29.symm; subst er_29; subst eM_29
      refine g_icmp_ge 96 hX d_Plan_layOut_32 (by decide) (by omega) (by omega) (fun h_32 => ?_) (fun h_32 => ?_)
      · refine g_vret hX hR d_Plan_layOut_96 ?_
        rw [ly_end _ _ _ _ (by omega), List.append_nil] at h4
        subst h4
        exact ⟨h6, h10⟩
      · exact absurd h_32 (by omega)
    | succ q ih =>
      intro p nx bs M1 hq h0 h1 h2 h3 h4 h5 h6 h7 h8 h9 h10
      have e1 : M1 1 2 = n := by rw [h10 1 (by decide) (by decide)]; exact v1
      have zl := pL_b (n := n) (x := x) hg w p h0 (by omega)
      obtain ⟨zP, -, -⟩ := hP
      have zp := zP w p hw.1 hw.2 h0 (by omega)
      obtain ⟨l1, l2, l3, l4, l5⟩ := id h6
      refine g_iload_n hX d_Plan_layOut_24 rfl ?_
      refine g_aload_n hX d_Plan_layOut_25 rfl ?_
      refine g_getR hX fl_Plan_40 d_Plan_layOut_26 ⟨rfl, by decide⟩ rfl rfl ?_
      refine g_callV hX yo_State_size q_380 d_Plan_layOut_29 (c_State_size st_1) rfl rfl ⟨rfl, by decide⟩ rfl (by decide) (Nat.le_of_ble_eq_true rfl) ⟨Nat.zero_le _, Nat.zero_le _⟩ (k_int fun r_29 M_29 ir_29 hp_29 => ?_)
      obtain ⟨er_29, eM_29⟩ := hp_29; replace er_29 := er_29.symm; replace eM_29 := eM_29.symm; subst er_29; subst eM_29
      refine g_icmp_ge 96 hX d_Plan_layOut_32 (by decide) (by omega) (by omega) (fun h_32 => ?_) (fun h_32 => ?_)
      · exact absurd h_32 (by omega)
      · refine g_iload_n hX d_Plan_layOut_35 rfl ?_
        refine g_iload_n hX d_Plan_layOut_36 rfl ?_
        refine g_icmp_ne 90 hX d_Plan_layOut_37 (by decide) (by omega) (by omega) (fun h_37 => ?_) (fun h_37 => ?_)
        · have zz90 := h_37
          refine g_iinc hX d_Plan_layOut_90 rfl (by decide) ?_
          refine g_goto 24 hX d_Plan_layOut_93 (by decide) ?_
          first | (exact ih (p + 1) nx bs M1 (by omega) (by omega) (by omega) (by omega) h3 h4 (by omega) h6 h7 h8 h9 h10) | (rw [stS_1 h_68] at zst; exact ih (p + 1) (p + pL n x g w p) (bs ++ [p]) _ (by omega) (by omega) (by omega) (by omega) (by omega) (by rw [← h4]; simp) (by simp; omega) ⟨by rw [mU_slot (by omega), mU_slot (by omega), mU_slot (by omega), mU_self]; simp; omega, fun i b hb => by rw [mU_cell (by omega), mU_cell (by omega), mU_cell (by omega), mU_cell (by omega)]; exact l2' i b hb, by rw [mU_slot (by omega), mU_slot (by omega), mU_self, zst, l3], by rw [mU_slot (by omega), mU_self, zst, l4], by rw [mU_self, zst, l5]⟩ (by rw [mU_slot (by omega), mU_slot (by omega), mU_self]; simp; omega) (by rw [mU_slot (by omega), mU_self]; omega) (by rw [mU_self]; omega) f6) | (rw [stS_0 h_68] at zst; exact ih (p + 1) (p + pL n x g w p) (bs ++ [p]) _ (by omega) (by omega) (by omega) (by omega) (by omega) (by rw [← h4]; simp) (by simp; omega) ⟨by rw [mU_self]; simp; omega, fun i b hb => by rw [mU_cell (by omega)]; exact l2' i b hb, by rw [mU_slot (by omega), mU_cell (by omega), zst]; exact l3, by rw [mU_slot (by omega), mU_cell (by omega), zst]; exact l4, by rw [mU_slot (by omega), mU_cell (by omega), zst]; exact l5⟩ (by rw [mU_slot (by omega), mU_cell (by omega)]; simp; omega) (by rw [mU_slot (by omega), mU_cell (by omega)]; omega) (by rw [mU_slot (by omega), mU_cell (by omega)]; omega) f6)
        · have zz40 := h_37
          subst zz40
          rw [ly_step hL1 h0 (by omega)] at h4
          have f5 : ∀ a, a ≠ 24 → a ≠ 29 → mU (mU M1 29 (M1 24 7) p) 24 7 (M1 24 7 + 1) a = M a := fun a u v => by rw [mU_cell u, mU_cell v]; exact h10 a u v
          have zst := stF_app (pD n x g w) (pL n x g w) bs p
          have l2' := row_snoc (v := p) l2 l1
          refine g_aload_n hX d_Plan_layOut_40 rfl ?_
          refine g_getR hX fl_Plan_24 d_Plan_layOut_41 ⟨rfl, by decide⟩ rfl rfl ?_
          refine g_aload_n hX d_Plan_layOut_44 rfl ?_
          refine g_getI hX fl_Plan_27 d_Plan_layOut_45 7 ⟨rfl, by decide⟩ rfl rfl (fun r_45 => ?_)
          refine g_iload_n hX d_Plan_layOut_48 rfl ?_
          refine g_callSN (host := "WindowCopies") hX yo_WC_store (by unfold nestWs; simp) d_Plan_layOut_49 (c_WC_store (k := 29) rfl (by decide) (n := 60) (by omega) (by omega)) rfl rfl (by decide) (Nat.le_of_ble_eq_true rfl) ⟨Nat.zero_le _, Nat.zero_le _⟩ (k_void fun M_49 hp_49 => ?_)
          replace hp_49 := hp_49.symm; subst hp_49
          refine g_aload_n hX d_Plan_layOut_52 rfl ?_
          refine g_dup hX d_Plan_layOut_53 rfl ?_
          refine g_getI hX fl_Plan_27 d_Plan_layOut_54 7 ⟨rfl, by decide⟩ rfl rfl (fun r_54 => ?_)
          rw [mU_cell (by omega)] at r_54 ⊢
          refine g_iconst hX d_Plan_layOut_57 ?_
          refine g_iadd hX d_Plan_layOut_58 ?_
          refine g_putI hX fl_Plan_27 d_Plan_layOut_59 7 ⟨rfl, by decide⟩ rfl rfl (fun q h => by cases h; rfl) rfl (by omega) ?_
          refine g_aload_n hX d_Plan_layOut_62 rfl ?_
          refine g_iload_n hX d_Plan_layOut_63 rfl ?_
          refine g_iload_n hX d_Plan_layOut_64 rfl ?_
          refine g_callV hX yo_Plan_distanceAt q_405 d_Plan_layOut_65 (c_Plan_distanceAt hw (by omega)) rfl rfl ⟨rfl, by decide⟩ rfl (by decide) (Nat.le_of_ble_eq_true rfl) ⟨Nat.zero_le _, Nat.zero_le _⟩ (k_int fun r_65 M_65 ir_65 hp_65 => ?_)
          obtain ⟨er_65, eM_65⟩ := hp_65; replace er_65 := er_65.symm; replace eM_65 := eM_65.symm; subst er_65; subst eM_65
          rw [f5 25 (by decide) (by decide), zp.1] at ir_65 ⊢
          refine g_if_eq 81 hX d_Plan_layOut_68 (by decide) (by omega) (fun h_68 => ?_) (fun h_68 => ?_)
          · have f6 := f5
            refine g_iload_n hX d_Plan_layOut_81 rfl ?_
            refine g_aload_n hX d_Plan_layOut_82 rfl ?_
            refine g_iload_n hX d_Plan_layOut_83 rfl ?_
            refine g_iload_n hX d_Plan_layOut_84 rfl ?_
            refine g_callV hX yo_Plan_lengthAt q_409 d_Plan_layOut_85 (c_Plan_lengthAt hw (by omega)) rfl rfl ⟨rfl, by decide⟩ rfl (by decide) (Nat.le_of_ble_eq_true rfl) ⟨Nat.zero_le _, Nat.zero_le _⟩ (k_int fun r_85 M_85 ir_85 hp_85 => ?_)
            obtain ⟨er_85, eM_85⟩ := hp_85; replace er_85 := er_85.symm; replace eM_85 := eM_85.symm; subst er_85; subst eM_85
            rw [f6 26 (by decide) (by decide), zp.2] at ir_85 ⊢
            refine g_iadd hX d_Plan_layOut_88 ?_
            refine g_istore_n hX d_Plan_layOut_89 (by decide) ?_
            refine g_iinc hX d_Plan_layOut_90 rfl (by decide) ?_
            refine g_goto 24 hX d_Plan_layOut_93 (by decide) ?_
            first | (exact ih (p + 1) nx bs M1 (by omega) (by omega) (by omega) (by omega) h3 h4 (by omega) h6 h7 h8 h9 h10) | (rw [stS_1 h_68] at zst; exact ih (p + 1) (p + pL n x g w p) (bs ++ [p]) _ (by omega) (by omega) (by omega) (by omega) (by omega) (by rw [← h4]; simp) (by simp; omega) ⟨by rw [mU_slot (by omega), mU_slot (by omega), mU_slot (by omega), mU_self]; simp; omega, fun i b hb => by rw [mU_cell (by omega), mU_cell (by omega), mU_cell (by omega), mU_cell (by omega)]; exact l2' i b hb, by rw [mU_slot (by omega), mU_slot (by omega), mU_self, zst, l3], by rw [mU_slot (by omega), mU_self, zst, l4], by rw [mU_self, zst, l5]⟩ (by rw [mU_slot (by omega), mU_slot (by omega), mU_self]; simp; omega) (by rw [mU_slot (by omega), mU_self]; omega) (by rw [mU_self]; omega) f6) | (rw [stS_0 h_68] at zst; exact ih (p + 1) (p + pL n x g w p) (bs ++ [p]) _ (by omega) (by omega) (by omega) (by omega) (by omega) (by rw [← h4]; simp) (by simp; omega) ⟨by rw [mU_self]; simp; omega, fun i b hb => by rw [mU_cell (by omega)]; exact l2' i b hb, by rw [mU_slot (by omega), mU_cell (by omega), zst]; exact l3, by rw [mU_slot (by omega), mU_cell (by omega), zst]; exact l4, by rw [mU_slot (by omega), mU_cell (by omega), zst]; exact l5⟩ (by rw [mU_slot (by omega), mU_cell (by omega)]; simp; omega) (by rw [mU_slot (by omega), mU_cell (by omega)]; omega) (by rw [mU_slot (by omega), mU_cell (by omega)]; omega) f6)
          · refine g_aload_n hX d_Plan_layOut_71 rfl ?_
            refine g_aload_n hX d_Plan_layOut_72 rfl ?_
            refine g_iload_n hX d_Plan_layOut_73 rfl ?_
            refine g_iload_n hX d_Plan_layOut_74 rfl ?_
            refine g_callV hX yo_Plan_lengthAt q_409 d_Plan_layOut_75 (c_Plan_lengthAt hw (by omega)) rfl rfl ⟨rfl, by decide⟩ rfl (by decide) (Nat.le_of_ble_eq_true rfl) ⟨Nat.zero_le _, Nat.zero_le _⟩ (k_int fun r_75 M_75 ir_75 hp_75 => ?_)
            obtain ⟨er_75, eM_75⟩ := hp_75; replace er_75 := er_75.symm; replace eM_75 := eM_75.symm; subst er_75; subst eM_75
            rw [f5 26 (by decide) (by decide), zp.2] at ir_75 ⊢
            refine g_callV hX yo_Plan_countCopy q_424 d_Plan_layOut_78 (c_Plan_countCopy (by rw [mU_slot (by omega), mU_cell (by omega)]; omega) (by rw [mU_slot (by omega), mU_cell (by omega)]; omega) (by omega)) rfl rfl ⟨rfl, by decide⟩ rfl (by decide) (Nat.le_of_ble_eq_true rfl) ⟨Nat.zero_le _, Nat.zero_le _⟩ (k_void fun M_78 hp_78 => ?_)
            rw [mU_slot (show (8 : Int) ≠ 7 by omega), mU_cell (show (24 : Nat) ≠ 29 by omega), mU_slot (show (9 : Int) ≠ 7 by omega), mU_slot (show (10 : Int) ≠ 7 by omega), mU_cell (show (24 : Nat) ≠ 29 by omega)] at hp_78
            replace hp_78 := hp_78.symm; subst hp_78
            have f6 : ∀ a, a ≠ 24 → a ≠ 29 → mU (mU (mU (mU (mU M1 29 (M1 24 7) p) 24 7 (M1 24 7 + 1)) 24 8 (M1 24 8 + 1)) 24 9 (M1 24 9 + pL n x g w p)) 24 10 (max (M1 24 10) (pL n x g w p)) a = M a := fun a u v => by rw [mU_cell u, mU_cell u, mU_cell u]; exact f5 a u v
            refine g_iload_n hX d_Plan_layOut_81 rfl ?_
            refine g_aload_n hX d_Plan_layOut_82 rfl ?_
            refine g_iload_n hX d_Plan_layOut_83 rfl ?_
            refine g_iload_n hX d_Plan_layOut_84 rfl ?_
            refine g_callV hX yo_Plan_lengthAt q_409 d_Plan_layOut_85 (c_Plan_lengthAt hw (by omega)) rfl rfl ⟨rfl, by decide⟩ rfl (by decide) (Nat.le_of_ble_eq_true rfl) ⟨Nat.zero_le _, Nat.zero_le _⟩ (k_int fun r_85 M_85 ir_85 hp_85 => ?_)
            obtain ⟨er_85, eM_85⟩ := hp_85; replace er_85 := er_85.symm; replace eM_85 := eM_85.symm; subst er_85; subst eM_85
            rw [f6 26 (by decide) (by decide), zp.2] at ir_85 ⊢
            refine g_iadd hX d_Plan_layOut_88 ?_
            refine g_istore_n hX d_Plan_layOut_89 (by decide) ?_
            refine g_iinc hX d_Plan_layOut_90 rfl (by decide) ?_
            refine g_goto 24 hX d_Plan_layOut_93 (by decide) ?_
            first | (exact ih (p + 1) nx bs M1 (by omega) (by omega) (by omega) (by omega) h3 h4 (by omega) h6 h7 h8 h9 h10) | (rw [stS_1 h_68] at zst; exact ih (p + 1) (p + pL n x g w p) (bs ++ [p]) _ (by omega) (by omega) (by omega) (by omega) (by omega) (by rw [← h4]; simp) (by simp; omega) ⟨by rw [mU_slot (by omega), mU_slot (by omega), mU_slot (by omega), mU_self]; simp; omega, fun i b hb => by rw [mU_cell (by omega), mU_cell (by omega), mU_cell (by omega), mU_cell (by omega)]; exact l2' i b hb, by rw [mU_slot (by omega), mU_slot (by omega), mU_self, zst, l3], by rw [mU_slot (by omega), mU_self, zst, l4], by rw [mU_self, zst, l5]⟩ (by rw [mU_slot (by omega), mU_slot (by omega), mU_self]; simp; omega) (by rw [mU_slot (by omega), mU_self]; omega) (by rw [mU_self]; omega) f6) | (rw [stS_0 h_68] at zst; exact ih (p + 1) (p + pL n x g w p) (bs ++ [p]) _ (by omega) (by omega) (by omega) (by omega) (by omega) (by rw [← h4]; simp) (by simp; omega) ⟨by rw [mU_self]; simp; omega, fun i b hb => by rw [mU_cell (by omega)]; exact l2' i b hb, by rw [mU_slot (by omega), mU_cell (by omega), zst]; exact l3, by rw [mU_slot (by omega), mU_cell (by omega), zst]; exact l4, by rw [mU_slot (by omega), mU_cell (by omega), zst]; exact l5⟩ (by rw [mU_slot (by omega), mU_cell (by omega)]; simp; omega) (by rw [mU_slot (by omega), mU_cell (by omega)]; omega) (by rw [mU_slot (by omega), mU_cell (by omega)]; omega) f6)
  refine g_aload_n hX d_Plan_layOut_0 rfl ?_
  refine g_iconst hX d_Plan_layOut_1 ?_
  refine g_putI hX fl_Plan_27 d_Plan_layOut_2 7 ⟨rfl, by decide⟩ rfl rfl (fun q h => by cases h; rfl) rfl (by omega) ?_
  refine g_aload_n hX d_Plan_layOut_5 rfl ?_
  refine g_iconst hX d_Plan_layOut_6 ?_
  refine g_putI hX fl_Plan_31 d_Plan_layOut_7 8 ⟨rfl, by decide⟩ rfl rfl (fun q h => by cases h; rfl) rfl (by omega) ?_
  refine g_aload_n hX d_Plan_layOut_10 rfl ?_
  refine g_iconst hX d_Plan_layOut_11 ?_
  refine g_putI hX fl_Plan_34 d_Plan_layOut_12 9 ⟨rfl, by decide⟩ rfl rfl (fun q h => by cases h; rfl) rfl (by omega) ?_
  refine g_aload_n hX d_Plan_layOut_15 rfl ?_
  refine g_iconst hX d_Plan_layOut_16 ?_
  refine g_putI hX fl_Plan_37 d_Plan_layOut_17 10 ⟨rfl, by decide⟩ rfl rfl (fun q h => by cases h; rfl) rfl (by omega) ?_
  refine g_iconst hX d_Plan_layOut_20 ?_
  refine g_istore_n hX d_Plan_layOut_21 (by decide) ?_
  refine g_iconst hX d_Plan_layOut_22 ?_
  refine g_istore_n hX d_Plan_layOut_23 (by decide) ?_
  exact LOOP _ 0 0 [] _ rfl (by omega) v2 (by omega) v2 rfl (by simp) ⟨by rw [mU_slot (by omega), mU_slot (by omega), mU_slot (by omega), mU_self]; rfl, fun i b hb => by simp at hb, by rw [mU_slot (by omega), mU_slot (by omega), mU_self]; rfl, by rw [mU_slot (by omega), mU_self]; rfl, by rw [mU_self]; rfl⟩ (by rw [mU_slot (by omega), mU_slot (by omega), mU_self]; simp) (by rw [mU_slot (by omega), mU_self]; omega) (by rw [mU_self]; omega) (fun a u v => by rw [mU_cell u, mU_cell u, mU_cell u, mU_cell u])
/-- the index of the part that tells place p, of parts that begin at l -/
def ixF (l : List Int) (p : Int) : Nat → Nat → Nat
  | 0, i => i
  | k + 1, i => if i + 1 < l.length ∧ l.getD (i + 1) 0 ≤ p then ixF l p k (i + 1) else i
def ixP (n : Int) (x g : Int → Int) (w p : Int) : Int := ixF (bgs n x g w) p (bgs n x g w).length 0
theorem ixF_succ (l : List Int) (p : Int) (k i : Nat) : ixF l p (k + 1) i = if i + 1 < l.length ∧ l.getD (i + 1) 0 ≤ p then ixF l p k (i + 1) else i := rfl
theorem ly_mem {L : Int → Int} {n : Int} (hL : ∀ q, 0 ≤ q → q < n → 1 ≤ L q) (k : Nat) : ∀ (p : Int), 0 ≤ p → ∀ b ∈ ly L n k p, p ≤ b ∧ b < n := by
  induction k with
  | zero => intro p _ b hb; cases hb
  | succ k ih =>
    intro p h0 b hb
    rw [ly_succ] at hb
    split at hb
    · rename_i hp
      rcases List.mem_cons.mp hb with rfl | hb
      · omega
      · have zl := hL p h0 hp
        have zi := ih (p + L p) (by omega) b hb
        omega
    · cases hb
theorem ly_len {L : Int → Int} {n : Int} (k : Nat) : ∀ (p : Int), (ly L n k p).length ≤ k := by
  induction k with
  | zero => intro p; exact Nat.le_refl _
  | succ k ih =>
    intro p
    rw [ly_succ]
    split
    · have zi := ih (p + L p); simp; omega
    · simp
theorem bgs_len (n : Int) (x g : Int → Int) (w : Int) (hn : 0 ≤ n) : ((bgs n x g w).length : Int) ≤ n := by
  have zl := ly_len (L := pL n x g w) (n := n) n.toNat 0
  unfold bgs
  omega
theorem bgs_mem {n : Int} {x g : Int → Int} (hg : Og g) {w b : Int} (h : b ∈ bgs n x g w) : 0 ≤ b ∧ b < n := ly_mem (fun q u v => (pL_b hg w q u v).1) n.toNat 0 (Int.le_refl _) b h
theorem c_Plan_indexAt {Γ : gX} {l : Launch} {M : mI} {n w p : Int} {x g : Int → Int} (hn : 0 ≤ n ∧ n ≤ 60) (hg : Og g) (hP : Lp M n x g w) (hp : iR p) : Cn Γ l i_Plan_indexAt R0 51 [.ref (gb Γ + 24), vI p] M (pI (fun r M' => r = ixP n x g w p ∧ M' = M)) := by
  refine cn_intro (L := [some (.ref (gb Γ + 24)), some (vI p), none]) yo_Plan_indexAt.1 rfl (Nat.le_of_ble_eq_true rfl) rfl (fun X hX hR => ?_)
  obtain ⟨l1, l2, -, -, -⟩ := hP
  have zl := bgs_len n x g w hn.1
  have LOOP : ∀ (k : Nat) (i : Nat), (bgs n x g w).length ≤ i + k + 1 → i < (bgs n x g w).length ∨ i = 0 → ((ixF (bgs n x g w) p k i : Nat) : Int) = ixP n x g w p → G Γ X 3 (R0, 51, 0, 0) 2 [some (.ref (gb Γ + 24)), some (vI p), some (vI i)] [] M := by
    intro k
    induction k with
    | zero =>
      intro i hk hi hf
      refine g_iload_n hX d_Plan_indexAt_2 rfl ?_
      refine g_iconst hX d_Plan_indexAt_3 ?_
      refine g_iadd hX d_Plan_indexAt_4 ?_
      refine g_aload_n hX d_Plan_indexAt_5 rfl ?_
      refine g_getI hX fl_Plan_27 d_Plan_indexAt_6 7 ⟨rfl, by decide⟩ rfl rfl (fun r_6 => ?_)
      refine g_icmp_ge 29 hX d_Plan_indexAt_9 (by decide) (by omega) (by omega) (fun h_9 => ?_) (fun h_9 => ?_)
      · refine g_iload_n hX d_Plan_indexAt_29 rfl ?_
        refine g_iret hX hR d_Plan_indexAt_30 (by omega) ?_
        exact ⟨hf, rfl⟩
      · exact absurd h_9 (by omega)
    | succ k ih =>
      intro i hk hi hf
      rw [ixF_succ] at hf
      refine g_iload_n hX d_Plan_indexAt_2 rfl ?_
      refine g_iconst hX d_Plan_indexAt_3 ?_
      refine g_iadd hX d_Plan_indexAt_4 ?_
      refine g_aload_n hX d_Plan_indexAt_5 rfl ?_
      refine g_getI hX fl_Plan_27 d_Plan_indexAt_6 7 ⟨rfl, by decide⟩ rfl rfl (fun r_6 => ?_)
      refine g_icmp_ge 29 hX d_Plan_indexAt_9 (by decide) (by omega) (by omega) (fun h_9 => ?_) (fun h_9 => ?_)
      · refine g_iload_n hX d_Plan_indexAt_29 rfl ?_
        refine g_iret hX hR d_Plan_indexAt_30 (by omega) ?_
        refine ⟨?_, rfl⟩
        rw [if_neg (by omega)] at hf
        exact hf
      · have hl : (bgs n x g w)[i + 1]? = some ((bgs n x g w).getD (i + 1) 0) := by (rw [List.getD_eq_getElem?_getD, List.getElem?_eq_getElem (by omega)]; rfl)
        have zm := l2 (i + 1) _ hl
        refine g_aload_n hX d_Plan_indexAt_12 rfl ?_
        refine g_iload_n hX d_Plan_indexAt_13 rfl ?_
        refine g_iconst hX d_Plan_indexAt_14 ?_
        refine g_iadd hX d_Plan_indexAt_15 ?_
        refine g_callV hX yo_Plan_beginOf q_466 d_Plan_indexAt_16 (c_Plan_beginOf (by omega)) rfl rfl ⟨rfl, by decide⟩ rfl (by decide) (Nat.le_of_ble_eq_true rfl) ⟨Nat.zero_le _, Nat.zero_le _⟩ (k_int fun r_16 M_16 ir_16 hp_16 => ?_)
        obtain ⟨er_16, eM_16⟩ := hp_16; replace er_16 := er_16.symm; replace eM_16 := eM_16.symm; subst er_16; subst eM_16
        rw [show ((i : Int) + 1) = ((i + 1 : Nat) : Int) by omega, zm] at ir_16 ⊢
        refine g_iload_n hX d_Plan_indexAt_19 rfl ?_
        refine g_icmp_gt 29 hX d_Plan_indexAt_20 (by decide) (by omega) (by omega) (fun h_20 => ?_) (fun h_20 => ?_)
        · refine g_iload_n hX d_Plan_indexAt_29 rfl ?_
          refine g_iret hX hR d_Plan_indexAt_30 (by omega) ?_
          refine ⟨?_, rfl⟩
          rw [if_neg (by omega)] at hf
          exact hf
        · refine g_iinc hX d_Plan_indexAt_23 rfl (by decide) ?_
          refine g_goto 2 hX d_Plan_indexAt_26 (by decide) ?_
          exact ih (i + 1) (by omega) (Or.inl (by omega)) (by rw [if_pos ⟨by omega, by omega⟩] at hf; exact hf)
  refine g_iconst hX d_Plan_indexAt_0 ?_
  refine g_istore_n hX d_Plan_indexAt_1 (by decide) ?_
  exact LOOP (bgs n x g w).length 0 (by omega) (Or.inr rfl) rfl
/-- the first place at which two rows of parts tell parts that are not the same; -1 if there is none -/
def fuF (n : Int) (D1 L1 D2 L2 : Int → Int) : Nat → Int → Int
  | 0, _ => -1
  | k + 1, p => if p < n then (if D1 p ≠ D2 p ∨ L1 p ≠ L2 p then p else fuF n D1 L1 D2 L2 k (p + L1 p)) else -1
def fuP (n : Int) (x g : Int → Int) (v w : Int) : Int := fuF n (pD n x g v) (pL n x g v) (pD n x g w) (pL n x g w) n.toNat 0
theorem fuF_succ (n : Int) (D1 L1 D2 L2 : Int → Int) (k : Nat) (p : Int) : fuF n D1 L1 D2 L2 (k + 1) p = if p < n then (if D1 p ≠ D2 p ∨ L1 p ≠ L2 p then p else fuF n D1 L1 D2 L2 k (p + L1 p)) else -1 := rfl
theorem fuF_end (n : Int) (D1 L1 D2 L2 : Int → Int) (k : Nat) (p : Int) (h : n ≤ p) : fuF n D1 L1 D2 L2 k p = -1 := by
  cases k with
  | zero => rfl
  | succ k => rw [fuF_succ, if_neg (by omega)]
theorem fuF_more {n : Int} {D1 L1 D2 L2 : Int → Int} (hL : ∀ q, 0 ≤ q → q < n → 1 ≤ L1 q) (k : Nat) : ∀ (m : Nat) (p : Int), 0 ≤ p → n - p ≤ k → fuF n D1 L1 D2 L2 (k + m) p = fuF n D1 L1 D2 L2 k p := by
  induction k with
  | zero => intro m p h0 h; rw [fuF_end _ _ _ _ _ _ p (by omega), fuF_end _ _ _ _ _ _ p (by omega)]
  | succ k ih =>
    intro m p h0 h
    rw [show k + 1 + m = (k + m) + 1 by omega, fuF_succ, fuF_succ]
    by_cases hp : p < n
    · have zl := hL p h0 hp
      rw [if_pos hp, if_pos hp, ih m (p + L1 p) (by omega) (by omega)]
    · rw [if_neg hp, if_neg hp]
theorem fuF_step {n : Int} {D1 L1 D2 L2 : Int → Int} (hL : ∀ q, 0 ≤ q → q < n → 1 ≤ L1 q) {p : Int} (h0 : 0 ≤ p) (hp : p < n) : fuF n D1 L1 D2 L2 n.toNat p = if D1 p ≠ D2 p ∨ L1 p ≠ L2 p then p else fuF n D1 L1 D2 L2 n.toNat (p + L1 p) := by
  obtain ⟨k, hk⟩ : ∃ k : Nat, n.toNat = k + 1 := ⟨n.toNat - 1, by omega⟩
  have zl := hL p h0 hp
  rw [hk, fuF_succ, if_pos hp]
  congr 1
  exact (fuF_more hL k 1 (p + L1 p) (by omega) (by omega)).symm
theorem c_Plan_firstUnlike {Γ : gX} {l : Launch} {M : mI} {n v w : Int} {x g : Int → Int} (hv : Sv M 1 n x g) (hg : Og g) (hw : 0 ≤ v ∧ v ≤ 2) (hw2 : 0 ≤ w ∧ w ≤ 2) (hP : Pp M n x g 0) : Cn Γ l i_Plan_firstUnlike R0 51 [.ref (gb Γ + 24), vI v, vI w] M (pI (fun r M' => r = fuP n x g v w ∧ M' = M)) := by
  refine cn_intro (L := [some (.ref (gb Γ + 24)), some (vI v), some (vI w), none, none]) yo_Plan_firstUnlike.1 rfl (Nat.le_of_ble_eq_true rfl) rfl (fun X hX hR => ?_)
  obtain ⟨v1, v2, v3, v4, v5⟩ := id hv
  have hL1 : ∀ q, 0 ≤ q → q < n → 1 ≤ pL n x g v q := fun q a b => (pL_b hg v q a b).1
  have LOOP : ∀ (q : Nat) (p nx : Int), (n - p).toNat = q → 0 ≤ p → p ≤ n → p ≤ nx → nx ≤ n → fuF n (pD n x g v) (pL n x g v) (pD n x g w) (pL n x g w) n.toNat nx = fuP n x g v w → G Γ X 5 (R0, 51, 0, 0) 5 [some (.ref (gb Γ + 24)), some (vI v), some (vI w), some (vI nx), some (vI p)] [] M := by
    intro q
    induction q with
    | zero =>
      intro p nx hq h0 h1 h2 h3 h4
      refine g_iload hX d_Plan_firstUnlike_5 rfl ?_
      refine g_aload_n hX d_Plan_firstUnlike_7 rfl ?_
      refine g_getR hX fl_Plan_40 d_Plan_firstUnlike_8 ⟨rfl, by decide⟩ rfl rfl ?_
      refine g_callV hX yo_State_size q_380 d_Plan_firstUnlike_11 (c_State_size st_1) rfl rfl ⟨rfl, by decide⟩ rfl (by decide) (Nat.le_of_ble_eq_true rfl) ⟨Nat.zero_le _, Nat.zero_le _⟩ (k_int fun r_11 M_11 ir_11 hp_11 => ?_)
      obtain ⟨er_11, eM_11⟩ := hp_11; replace er_11 := er_11.symm; replace eM_11 := eM_11.symm; subst er_11; subst eM_11
      refine g_icmp_ge 77 hX d_Plan_firstUnlike_14 (by decide) (by omega) (by omega) (fun h_14 => ?_) (fun h_14 => ?_)
      · refine g_iconst hX d_Plan_firstUnlike_77 ?_
        refine g_iret hX hR d_Plan_firstUnlike_78 (by omega) ?_
        rw [fuF_end _ _ _ _ _ _ _ (by omega)] at h4
        exact ⟨h4, rfl⟩
      · exact absurd h_14 (by omega)
    | succ q ih =>
      intro p nx hq h0 h1 h2 h3 h4
      have zl := pL_b (n := n) (x := x) hg v p h0 (by omega)
      obtain ⟨zP, -, -⟩ := hP
      have zp := zP v p hw.1 hw.2 h0 (by omega)
      have zw := zP w p hw2.1 hw2.2 h0 (by omega)
      refine g_iload hX d_Plan_firstUnlike_5 rfl ?_
      refine g_aload_n hX d_Plan_firstUnlike_7 rfl ?_
      refine g_getR hX fl_Plan_40 d_Plan_firstUnlike_8 ⟨rfl, by decide⟩ rfl rfl ?_
      refine g_callV hX yo_State_size q_380 d_Plan_firstUnlike_11 (c_State_size st_1) rfl rfl ⟨rfl, by decide⟩ rfl (by decide) (Nat.le_of_ble_eq_true rfl) ⟨Nat.zero_le _, Nat.zero_le _⟩ (k_int fun r_11 M_11 ir_11 hp_11 => ?_)
      obtain ⟨er_11, eM_11⟩ := hp_11; replace er_11 := er_11.symm; replace eM_11 := eM_11.symm; subst er_11; subst eM_11
      refine g_icmp_ge 77 hX d_Plan_firstUnlike_14 (by decide) (by omega) (by omega) (fun h_14 => ?_) (fun h_14 => ?_)
      · exact absurd h_14 (by omega)
      · refine g_iload hX d_Plan_firstUnlike_17 rfl ?_
        refine g_iload_n hX d_Plan_firstUnlike_19 rfl ?_
        refine g_icmp_ne 71 hX d_Plan_firstUnlike_20 (by decide) (by omega) (by omega) (fun h_20 => ?_) (fun h_20 => ?_)
        · refine g_iinc hX d_Plan_firstUnlike_71 rfl (by decide) ?_
          refine g_goto 5 hX d_Plan_firstUnlike_74 (by decide) ?_
          first | exact ih (p + 1) nx (by omega) (by omega) (by omega) (by omega) h3 h4 | exact ih (p + 1) (p + pL n x g v p) (by omega) (by omega) (by omega) (by omega) (by omega) (by rw [if_neg (by omega)] at h4; exact h4)
        · have zz := h_20
          subst zz
          rw [fuF_step hL1 h0 (by omega)] at h4
          refine g_aload_n hX d_Plan_firstUnlike_23 rfl ?_
          refine g_iload_n hX d_Plan_firstUnlike_24 rfl ?_
          refine g_iload hX d_Plan_firstUnlike_25 rfl ?_
          refine g_callV hX yo_Plan_distanceAt q_405 d_Plan_firstUnlike_27 (c_Plan_distanceAt hw (by omega)) rfl rfl ⟨rfl, by decide⟩ rfl (by decide) (Nat.le_of_ble_eq_true rfl) ⟨Nat.zero_le _, Nat.zero_le _⟩ (k_int fun r_27 M_27 ir_27 hp_27 => ?_)
          obtain ⟨er_27, eM_27⟩ := hp_27; replace er_27 := er_27.symm; replace eM_27 := eM_27.symm; subst er_27; subst eM_27
          rw [zp.1] at ir_27 ⊢
          refine g_aload_n hX d_Plan_firstUnlike_30 rfl ?_
          refine g_iload_n hX d_Plan_firstUnlike_31 rfl ?_
          refine g_iload hX d_Plan_firstUnlike_32 rfl ?_
          refine g_callV hX yo_Plan_distanceAt q_405 d_Plan_firstUnlike_34 (c_Plan_distanceAt hw2 (by omega)) rfl rfl ⟨rfl, by decide⟩ rfl (by decide) (Nat.le_of_ble_eq_true rfl) ⟨Nat.zero_le _, Nat.zero_le _⟩ (k_int fun r_34 M_34 ir_34 hp_34 => ?_)
          obtain ⟨er_34, eM_34⟩ := hp_34; replace er_34 := er_34.symm; replace eM_34 := eM_34.symm; subst er_34; subst eM_34
          rw [zw.1] at ir_34 ⊢
          refine g_icmp_ne 57 hX d_Plan_firstUnlike_37 (by decide) (by omega) (by omega) (fun h_37 => ?_) (fun h_37 => ?_)
          · refine g_iload hX d_Plan_firstUnlike_57 rfl ?_
            refine g_iret hX hR d_Plan_firstUnlike_59 (by omega) ?_
            refine ⟨?_, rfl⟩
            rw [if_pos (by omega)] at h4
            exact h4
          · refine g_aload_n hX d_Plan_firstUnlike_40 rfl ?_
            refine g_iload_n hX d_Plan_firstUnlike_41 rfl ?_
            refine g_iload hX d_Plan_firstUnlike_42 rfl ?_
            refine g_callV hX yo_Plan_lengthAt q_409 d_Plan_firstUnlike_44 (c_Plan_lengthAt hw (by omega)) rfl rfl ⟨rfl, by decide⟩ rfl (by decide) (Nat.le_of_ble_eq_true rfl) ⟨Nat.zero_le _, Nat.zero_le _⟩ (k_int fun r_44 M_44 ir_44 hp_44 => ?_)
            obtain ⟨er_44, eM_44⟩ := hp_44; replace er_44 := er_44.symm; replace eM_44 := eM_44.symm; subst er_44; subst eM_44
            rw [zp.2] at ir_44 ⊢
            refine g_aload_n hX d_Plan_firstUnlike_47 rfl ?_
            refine g_iload_n hX d_Plan_firstUnlike_48 rfl ?_
            refine g_iload hX d_Plan_firstUnlike_49 rfl ?_
            refine g_callV hX yo_Plan_lengthAt q_409 d_Plan_firstUnlike_51 (c_Plan_lengthAt hw2 (by omega)) rfl rfl ⟨rfl, by decide⟩ rfl (by decide) (Nat.le_of_ble_eq_true rfl) ⟨Nat.zero_le _, Nat.zero_le _⟩ (k_int fun r_51 M_51 ir_51 hp_51 => ?_)
            obtain ⟨er_51, eM_51⟩ := hp_51; replace er_51 := er_51.symm; replace eM_51 := eM_51.symm; subst er_51; subst eM_51
            rw [zw.2] at ir_51 ⊢
            refine g_icmp_eq 60 hX d_Plan_firstUnlike_54 (by decide) (by omega) (by omega) (fun h_54 => ?_) (fun h_54 => ?_)
            · refine g_iload hX d_Plan_firstUnlike_60 rfl ?_
              refine g_aload_n hX d_Plan_firstUnlike_62 rfl ?_
              refine g_iload_n hX d_Plan_firstUnlike_63 rfl ?_
              refine g_iload hX d_Plan_firstUnlike_64 rfl ?_
              refine g_callV hX yo_Plan_lengthAt q_409 d_Plan_firstUnlike_66 (c_Plan_lengthAt hw (by omega)) rfl rfl ⟨rfl, by decide⟩ rfl (by decide) (Nat.le_of_ble_eq_true rfl) ⟨Nat.zero_le _, Nat.zero_le _⟩ (k_int fun r_66 M_66 ir_66 hp_66 => ?_)
              obtain ⟨er_66, eM_66⟩ := hp_66; replace er_66 := er_66.symm; replace eM_66 := eM_66.symm; subst er_66; subst eM_66
              rw [zp.2] at ir_66 ⊢
              refine g_iadd hX d_Plan_firstUnlike_69 ?_
              refine g_istore_n hX d_Plan_firstUnlike_70 (by decide) ?_
              refine g_iinc hX d_Plan_firstUnlike_71 rfl (by decide) ?_
              refine g_goto 5 hX d_Plan_firstUnlike_74 (by decide) ?_
              first | exact ih (p + 1) nx (by omega) (by omega) (by omega) (by omega) h3 h4 | exact ih (p + 1) (p + pL n x g v p) (by omega) (by omega) (by omega) (by omega) (by omega) (by rw [if_neg (by omega)] at h4; exact h4)
            · refine g_iload hX d_Plan_firstUnlike_57 rfl ?_
              refine g_iret hX hR d_Plan_firstUnlike_59 (by omega) ?_
              refine ⟨?_, rfl⟩
              rw [if_pos (by omega)] at h4
              exact h4
  refine g_iconst hX d_Plan_firstUnlike_0 ?_
  refine g_istore_n hX d_Plan_firstUnlike_1 (by decide) ?_
  refine g_iconst hX d_Plan_firstUnlike_2 ?_
  refine g_istore hX d_Plan_firstUnlike_3 (by decide) ?_
  exact LOOP _ 0 0 rfl (by omega) v2 (by omega) v2 rfl
end
