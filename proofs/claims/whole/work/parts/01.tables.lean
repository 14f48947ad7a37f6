-- ===== PART A: goes FIRST, ahead of the names: the tables' words, and 'selects' of the private methods out of them =====
/-- a private method of a class that the tables say can be made, by its rows of tables_1 -/
def lw_okq (q : MethodName × Nat) : Prop := (q.1.cls ≠ "java/lang/invoke/MethodHandle" ∧ q.1.cls ≠ "java/lang/invoke/VarHandle") ∧ Cond.instantiable q.1.cls q.2 ∈ tables_1 ∧ Cond.privateMethod q.1 ∈ tables_1 ∧ Cond.instanceMethod q.1 ∈ tables_1
theorem lw_p0 : lw_okq (⟨"WinkPurses", "finding", "(I)I"⟩, 7) := ⟨⟨by decide +kernel, by decide +kernel⟩, List.mem_of_getElem? (i := 15) (by decide +kernel), List.mem_of_getElem? (i := 175) (by decide +kernel), List.mem_of_getElem? (i := 176) (by decide +kernel)⟩
theorem lw_p1 : lw_okq (⟨"WinkPurses", "daysUntil", "(III)I"⟩, 7) := ⟨⟨by decide +kernel, by decide +kernel⟩, List.mem_of_getElem? (i := 15) (by decide +kernel), List.mem_of_getElem? (i := 383) (by decide +kernel), List.mem_of_getElem? (i := 384) (by decide +kernel)⟩
theorem lw_p2 : lw_okq (⟨"WinkPurses", "isEvenWithout", "(II)Z"⟩, 7) := ⟨⟨by decide +kernel, by decide +kernel⟩, List.mem_of_getElem? (i := 15) (by decide +kernel), List.mem_of_getElem? (i := 436) (by decide +kernel), List.mem_of_getElem? (i := 437) (by decide +kernel)⟩
theorem lw_p3 : lw_okq (⟨"WinkPurses", "troubleWith", "(II)I"⟩, 7) := ⟨⟨by decide +kernel, by decide +kernel⟩, List.mem_of_getElem? (i := 15) (by decide +kernel), List.mem_of_getElem? (i := 457) (by decide +kernel), List.mem_of_getElem? (i := 458) (by decide +kernel)⟩
theorem lw_p4 : lw_okq (⟨"WinkPurses", "troubleWithSheet", "(I)I"⟩, 7) := ⟨⟨by decide +kernel, by decide +kernel⟩, List.mem_of_getElem? (i := 15) (by decide +kernel), List.mem_of_getElem? (i := 461) (by decide +kernel), List.mem_of_getElem? (i := 462) (by decide +kernel)⟩
theorem lw_p5 : lw_okq (⟨"WinkPurses", "priceFits", "(LWinkPurses$Sheet;II)Z"⟩, 7) := ⟨⟨by decide +kernel, by decide +kernel⟩, List.mem_of_getElem? (i := 15) (by decide +kernel), List.mem_of_getElem? (i := 472) (by decide +kernel), List.mem_of_getElem? (i := 473) (by decide +kernel)⟩
theorem lw_p6 : lw_okq (⟨"WinkPurses", "trialGoesAs", "(LWinkPurses$Sheet;I)Z"⟩, 7) := ⟨⟨by decide +kernel, by decide +kernel⟩, List.mem_of_getElem? (i := 15) (by decide +kernel), List.mem_of_getElem? (i := 477) (by decide +kernel), List.mem_of_getElem? (i := 478) (by decide +kernel)⟩
theorem lw_p7 : lw_okq (⟨"WinkPurses$Town", "nextDraw", "()I"⟩, 8) := ⟨⟨by decide +kernel, by decide +kernel⟩, List.mem_of_getElem? (i := 23) (by decide +kernel), List.mem_of_getElem? (i := 497) (by decide +kernel), List.mem_of_getElem? (i := 498) (by decide +kernel)⟩
theorem lw_p8 : lw_okq (⟨"WinkPurses", "payablePrices", "(I)I"⟩, 7) := ⟨⟨by decide +kernel, by decide +kernel⟩, List.mem_of_getElem? (i := 15) (by decide +kernel), List.mem_of_getElem? (i := 509) (by decide +kernel), List.mem_of_getElem? (i := 510) (by decide +kernel)⟩
theorem lw_p9 : lw_okq (⟨"WinkPurses$Tape", "nextToken", "()V"⟩, 6) := ⟨⟨by decide +kernel, by decide +kernel⟩, List.mem_of_getElem? (i := 97) (by decide +kernel), List.mem_of_getElem? (i := 540) (by decide +kernel), List.mem_of_getElem? (i := 541) (by decide +kernel)⟩
theorem lw_p10 : lw_okq (⟨"WinkPurses$Tape", "passDigits", "()V"⟩, 6) := ⟨⟨by decide +kernel, by decide +kernel⟩, List.mem_of_getElem? (i := 97) (by decide +kernel), List.mem_of_getElem? (i := 550) (by decide +kernel), List.mem_of_getElem? (i := 551) (by decide +kernel)⟩
theorem lw_p11 : lw_okq (⟨"WinkPurses$Tape", "isWord", "(Ljava/lang/String;)Z"⟩, 6) := ⟨⟨by decide +kernel, by decide +kernel⟩, List.mem_of_getElem? (i := 97) (by decide +kernel), List.mem_of_getElem? (i := 556) (by decide +kernel), List.mem_of_getElem? (i := 557) (by decide +kernel)⟩
theorem lw_p12 : lw_okq (⟨"WinkPurses$Tape", "readPayment", "(LWinkPurses$Town;)Z"⟩, 6) := ⟨⟨by decide +kernel, by decide +kernel⟩, List.mem_of_getElem? (i := 97) (by decide +kernel), List.mem_of_getElem? (i := 608) (by decide +kernel), List.mem_of_getElem? (i := 609) (by decide +kernel)⟩
theorem lw_p13 : lw_okq (⟨"WinkPurses$Tape", "takeNumber", "(I)I"⟩, 6) := ⟨⟨by decide +kernel, by decide +kernel⟩, List.mem_of_getElem? (i := 97) (by decide +kernel), List.mem_of_getElem? (i := 612) (by decide +kernel), List.mem_of_getElem? (i := 613) (by decide +kernel)⟩
theorem lw_p14 : lw_okq (⟨"WinkPurses$Tape", "isNumber", "(II)Z"⟩, 6) := ⟨⟨by decide +kernel, by decide +kernel⟩, List.mem_of_getElem? (i := 97) (by decide +kernel), List.mem_of_getElem? (i := 616) (by decide +kernel), List.mem_of_getElem? (i := 617) (by decide +kernel)⟩
theorem lw_p15 : lw_okq (⟨"WinkPurses$Tape", "readRate", "(LWinkPurses$Town;)Z"⟩, 6) := ⟨⟨by decide +kernel, by decide +kernel⟩, List.mem_of_getElem? (i := 97) (by decide +kernel), List.mem_of_getElem? (i := 623) (by decide +kernel), List.mem_of_getElem? (i := 624) (by decide +kernel)⟩
def lw_privs_1 : List (MethodName × Nat) := [(⟨"WinkPurses", "finding", "(I)I"⟩, 7), (⟨"WinkPurses", "daysUntil", "(III)I"⟩, 7), (⟨"WinkPurses", "isEvenWithout", "(II)Z"⟩, 7), (⟨"WinkPurses", "troubleWith", "(II)I"⟩, 7), (⟨"WinkPurses", "troubleWithSheet", "(I)I"⟩, 7), (⟨"WinkPurses", "priceFits", "(LWinkPurses$Sheet;II)Z"⟩, 7), (⟨"WinkPurses", "trialGoesAs", "(LWinkPurses$Sheet;I)Z"⟩, 7), (⟨"WinkPurses$Town", "nextDraw", "()I"⟩, 8), (⟨"WinkPurses", "payablePrices", "(I)I"⟩, 7), (⟨"WinkPurses$Tape", "nextToken", "()V"⟩, 6), (⟨"WinkPurses$Tape", "passDigits", "()V"⟩, 6), (⟨"WinkPurses$Tape", "isWord", "(Ljava/lang/String;)Z"⟩, 6), (⟨"WinkPurses$Tape", "readPayment", "(LWinkPurses$Town;)Z"⟩, 6), (⟨"WinkPurses$Tape", "takeNumber", "(I)I"⟩, 6), (⟨"WinkPurses$Tape", "isNumber", "(II)Z"⟩, 6), (⟨"WinkPurses$Tape", "readRate", "(LWinkPurses$Town;)Z"⟩, 6)]
theorem lw_r1 : ∀ q ∈ lw_privs_1, lw_okq q := List.forall_mem_cons.mpr ⟨lw_p0, List.forall_mem_cons.mpr ⟨lw_p1, List.forall_mem_cons.mpr ⟨lw_p2, List.forall_mem_cons.mpr ⟨lw_p3, List.forall_mem_cons.mpr ⟨lw_p4, List.forall_mem_cons.mpr ⟨lw_p5, List.forall_mem_cons.mpr ⟨lw_p6, List.forall_mem_cons.mpr ⟨lw_p7, List.forall_mem_cons.mpr ⟨lw_p8, List.forall_mem_cons.mpr ⟨lw_p9, List.forall_mem_cons.mpr ⟨lw_p10, List.forall_mem_cons.mpr ⟨lw_p11, List.forall_mem_cons.mpr ⟨lw_p12, List.forall_mem_cons.mpr ⟨lw_p13, List.forall_mem_cons.mpr ⟨lw_p14, List.forall_mem_cons.mpr ⟨lw_p15, fun _ h => absurd h List.not_mem_nil⟩⟩⟩⟩⟩⟩⟩⟩⟩⟩⟩⟩⟩⟩⟩⟩
theorem lw_p16 : lw_okq (⟨"WinkPurses$Tape", "readPerson", "(LWinkPurses$Town;)Z"⟩, 6) := ⟨⟨by decide +kernel, by decide +kernel⟩, List.mem_of_getElem? (i := 97) (by decide +kernel), List.mem_of_getElem? (i := 627) (by decide +kernel), List.mem_of_getElem? (i := 628) (by decide +kernel)⟩
theorem lw_p17 : lw_okq (⟨"WinkPurses$Tape", "kindOfWord", "()I"⟩, 6) := ⟨⟨by decide +kernel, by decide +kernel⟩, List.mem_of_getElem? (i := 97) (by decide +kernel), List.mem_of_getElem? (i := 631) (by decide +kernel), List.mem_of_getElem? (i := 632) (by decide +kernel)⟩
theorem lw_p18 : lw_okq (⟨"WinkPurses$Tape", "readTrait", "(Ljava/lang/String;LWinkPurses$Person;I)Z"⟩, 6) := ⟨⟨by decide +kernel, by decide +kernel⟩, List.mem_of_getElem? (i := 97) (by decide +kernel), List.mem_of_getElem? (i := 648) (by decide +kernel), List.mem_of_getElem? (i := 649) (by decide +kernel)⟩
theorem lw_p19 : lw_okq (⟨"WinkPurses", "allFindings", "()I"⟩, 7) := ⟨⟨by decide +kernel, by decide +kernel⟩, List.mem_of_getElem? (i := 15) (by decide +kernel), List.mem_of_getElem? (i := 731) (by decide +kernel), List.mem_of_getElem? (i := 732) (by decide +kernel)⟩
theorem lw_p20 : lw_okq (⟨"WinkPursesModel", "becomes", "(II)I"⟩, 18) := ⟨⟨by decide +kernel, by decide +kernel⟩, List.mem_of_getElem? (i := 735) (by decide +kernel), List.mem_of_getElem? (i := 806) (by decide +kernel), List.mem_of_getElem? (i := 807) (by decide +kernel)⟩
theorem lw_p21 : lw_okq (⟨"WinkPursesModel", "finds", "(I)I"⟩, 18) := ⟨⟨by decide +kernel, by decide +kernel⟩, List.mem_of_getElem? (i := 735) (by decide +kernel), List.mem_of_getElem? (i := 810) (by decide +kernel), List.mem_of_getElem? (i := 811) (by decide +kernel)⟩
theorem lw_p22 : lw_okq (⟨"WinkPursesModel", "comes", "(II)I"⟩, 18) := ⟨⟨by decide +kernel, by decide +kernel⟩, List.mem_of_getElem? (i := 735) (by decide +kernel), List.mem_of_getElem? (i := 837) (by decide +kernel), List.mem_of_getElem? (i := 838) (by decide +kernel)⟩
theorem lw_p23 : lw_okq (⟨"WinkPursesModel", "sets", "(III)V"⟩, 18) := ⟨⟨by decide +kernel, by decide +kernel⟩, List.mem_of_getElem? (i := 735) (by decide +kernel), List.mem_of_getElem? (i := 841) (by decide +kernel), List.mem_of_getElem? (i := 842) (by decide +kernel)⟩
theorem lw_p24 : lw_okq (⟨"WinkPursesModel", "isPerson", "(I)Z"⟩, 18) := ⟨⟨by decide +kernel, by decide +kernel⟩, List.mem_of_getElem? (i := 735) (by decide +kernel), List.mem_of_getElem? (i := 849) (by decide +kernel), List.mem_of_getElem? (i := 850) (by decide +kernel)⟩
theorem lw_p25 : lw_okq (⟨"WinkPursesModel", "purse", "(I)I"⟩, 18) := ⟨⟨by decide +kernel, by decide +kernel⟩, List.mem_of_getElem? (i := 735) (by decide +kernel), List.mem_of_getElem? (i := 854) (by decide +kernel), List.mem_of_getElem? (i := 855) (by decide +kernel)⟩
theorem lw_p26 : lw_okq (⟨"WinkPursesModel", "its", "(II)I"⟩, 18) := ⟨⟨by decide +kernel, by decide +kernel⟩, List.mem_of_getElem? (i := 735) (by decide +kernel), List.mem_of_getElem? (i := 858) (by decide +kernel), List.mem_of_getElem? (i := 859) (by decide +kernel)⟩
theorem lw_p27 : lw_okq (⟨"WinkPursesModel", "earns", "(I)I"⟩, 18) := ⟨⟨by decide +kernel, by decide +kernel⟩, List.mem_of_getElem? (i := 735) (by decide +kernel), List.mem_of_getElem? (i := 862) (by decide +kernel), List.mem_of_getElem? (i := 863) (by decide +kernel)⟩
theorem lw_p28 : lw_okq (⟨"WinkPursesModel", "changes", "(I)Z"⟩, 18) := ⟨⟨by decide +kernel, by decide +kernel⟩, List.mem_of_getElem? (i := 735) (by decide +kernel), List.mem_of_getElem? (i := 866) (by decide +kernel), List.mem_of_getElem? (i := 867) (by decide +kernel)⟩
theorem lw_p29 : lw_okq (⟨"WinkPursesModel", "gives", "(II)I"⟩, 18) := ⟨⟨by decide +kernel, by decide +kernel⟩, List.mem_of_getElem? (i := 735) (by decide +kernel), List.mem_of_getElem? (i := 882) (by decide +kernel), List.mem_of_getElem? (i := 883) (by decide +kernel)⟩
theorem lw_p30 : lw_okq (⟨"WinkPursesModel", "takes", "(II)I"⟩, 18) := ⟨⟨by decide +kernel, by decide +kernel⟩, List.mem_of_getElem? (i := 735) (by decide +kernel), List.mem_of_getElem? (i := 886) (by decide +kernel), List.mem_of_getElem? (i := 887) (by decide +kernel)⟩
theorem lw_p31 : lw_okq (⟨"WinkPursesModel", "pays", "(III)I"⟩, 18) := ⟨⟨by decide +kernel, by decide +kernel⟩, List.mem_of_getElem? (i := 735) (by decide +kernel), List.mem_of_getElem? (i := 894) (by decide +kernel), List.mem_of_getElem? (i := 895) (by decide +kernel)⟩
def lw_privs_2 : List (MethodName × Nat) := [(⟨"WinkPurses$Tape", "readPerson", "(LWinkPurses$Town;)Z"⟩, 6), (⟨"WinkPurses$Tape", "kindOfWord", "()I"⟩, 6), (⟨"WinkPurses$Tape", "readTrait", "(Ljava/lang/String;LWinkPurses$Person;I)Z"⟩, 6), (⟨"WinkPurses", "allFindings", "()I"⟩, 7), (⟨"WinkPursesModel", "becomes", "(II)I"⟩, 18), (⟨"WinkPursesModel", "finds", "(I)I"⟩, 18), (⟨"WinkPursesModel", "comes", "(II)I"⟩, 18), (⟨"WinkPursesModel", "sets", "(III)V"⟩, 18), (⟨"WinkPursesModel", "isPerson", "(I)Z"⟩, 18), (⟨"WinkPursesModel", "purse", "(I)I"⟩, 18), (⟨"WinkPursesModel", "its", "(II)I"⟩, 18), (⟨"WinkPursesModel", "earns", "(I)I"⟩, 18), (⟨"WinkPursesModel", "changes", "(I)Z"⟩, 18), (⟨"WinkPursesModel", "gives", "(II)I"⟩, 18), (⟨"WinkPursesModel", "takes", "(II)I"⟩, 18), (⟨"WinkPursesModel", "pays", "(III)I"⟩, 18)]
theorem lw_r2 : ∀ q ∈ lw_privs_2, lw_okq q := List.forall_mem_cons.mpr ⟨lw_p16, List.forall_mem_cons.mpr ⟨lw_p17, List.forall_mem_cons.mpr ⟨lw_p18, List.forall_mem_cons.mpr ⟨lw_p19, List.forall_mem_cons.mpr ⟨lw_p20, List.forall_mem_cons.mpr ⟨lw_p21, List.forall_mem_cons.mpr ⟨lw_p22, List.forall_mem_cons.mpr ⟨lw_p23, List.forall_mem_cons.mpr ⟨lw_p24, List.forall_mem_cons.mpr ⟨lw_p25, List.forall_mem_cons.mpr ⟨lw_p26, List.forall_mem_cons.mpr ⟨lw_p27, List.forall_mem_cons.mpr ⟨lw_p28, List.forall_mem_cons.mpr ⟨lw_p29, List.forall_mem_cons.mpr ⟨lw_p30, List.forall_mem_cons.mpr ⟨lw_p31, fun _ h => absurd h List.not_mem_nil⟩⟩⟩⟩⟩⟩⟩⟩⟩⟩⟩⟩⟩⟩⟩⟩
theorem lw_p32 : lw_okq (⟨"WinkPursesModel", "adds", "(IIII)V"⟩, 18) := ⟨⟨by decide +kernel, by decide +kernel⟩, List.mem_of_getElem? (i := 735) (by decide +kernel), List.mem_of_getElem? (i := 901) (by decide +kernel), List.mem_of_getElem? (i := 902) (by decide +kernel)⟩
theorem lw_p33 : lw_okq (⟨"WinkPursesModel", "daysGo", "(I)V"⟩, 18) := ⟨⟨by decide +kernel, by decide +kernel⟩, List.mem_of_getElem? (i := 735) (by decide +kernel), List.mem_of_getElem? (i := 911) (by decide +kernel), List.mem_of_getElem? (i := 912) (by decide +kernel)⟩
theorem lw_p34 : lw_okq (⟨"WinkPursesModel", "dayGoes", "()V"⟩, 18) := ⟨⟨by decide +kernel, by decide +kernel⟩, List.mem_of_getElem? (i := 735) (by decide +kernel), List.mem_of_getElem? (i := 915) (by decide +kernel), List.mem_of_getElem? (i := 916) (by decide +kernel)⟩
theorem lw_p35 : lw_okq (⟨"WinkPursesModel", "purses", "()I"⟩, 18) := ⟨⟨by decide +kernel, by decide +kernel⟩, List.mem_of_getElem? (i := 735) (by decide +kernel), List.mem_of_getElem? (i := 919) (by decide +kernel), List.mem_of_getElem? (i := 920) (by decide +kernel)⟩
theorem lw_p36 : lw_okq (⟨"WinkPursesModel", "sumOf", "(I)I"⟩, 18) := ⟨⟨by decide +kernel, by decide +kernel⟩, List.mem_of_getElem? (i := 735) (by decide +kernel), List.mem_of_getElem? (i := 923) (by decide +kernel), List.mem_of_getElem? (i := 924) (by decide +kernel)⟩
theorem lw_p37 : lw_okq (⟨"WinkPursesModel", "debtors", "()I"⟩, 18) := ⟨⟨by decide +kernel, by decide +kernel⟩, List.mem_of_getElem? (i := 735) (by decide +kernel), List.mem_of_getElem? (i := 931) (by decide +kernel), List.mem_of_getElem? (i := 932) (by decide +kernel)⟩
theorem lw_p38 : lw_okq (⟨"WinkPursesModel", "richest", "()I"⟩, 18) := ⟨⟨by decide +kernel, by decide +kernel⟩, List.mem_of_getElem? (i := 735) (by decide +kernel), List.mem_of_getElem? (i := 935) (by decide +kernel), List.mem_of_getElem? (i := 936) (by decide +kernel)⟩
theorem lw_p39 : lw_okq (⟨"WinkPursesModel", "firstOf", "(II)I"⟩, 18) := ⟨⟨by decide +kernel, by decide +kernel⟩, List.mem_of_getElem? (i := 735) (by decide +kernel), List.mem_of_getElem? (i := 955) (by decide +kernel), List.mem_of_getElem? (i := 956) (by decide +kernel)⟩
theorem lw_p40 : lw_okq (⟨"WinkPursesModel", "priced", "(II)I"⟩, 18) := ⟨⟨by decide +kernel, by decide +kernel⟩, List.mem_of_getElem? (i := 735) (by decide +kernel), List.mem_of_getElem? (i := 974) (by decide +kernel), List.mem_of_getElem? (i := 975) (by decide +kernel)⟩
theorem lw_p41 : lw_okq (⟨"WinkPursesModel", "debtorsBehind", "(I)I"⟩, 18) := ⟨⟨by decide +kernel, by decide +kernel⟩, List.mem_of_getElem? (i := 735) (by decide +kernel), List.mem_of_getElem? (i := 978) (by decide +kernel), List.mem_of_getElem? (i := 979) (by decide +kernel)⟩
theorem lw_p42 : lw_okq (⟨"WinkPursesModel", "purseBehind", "(II)I"⟩, 18) := ⟨⟨by decide +kernel, by decide +kernel⟩, List.mem_of_getElem? (i := 735) (by decide +kernel), List.mem_of_getElem? (i := 990) (by decide +kernel), List.mem_of_getElem? (i := 991) (by decide +kernel)⟩
theorem lw_p43 : lw_okq (⟨"WinkPursesModel", "whyNot", "(II)I"⟩, 18) := ⟨⟨by decide +kernel, by decide +kernel⟩, List.mem_of_getElem? (i := 735) (by decide +kernel), List.mem_of_getElem? (i := 1015) (by decide +kernel), List.mem_of_getElem? (i := 1016) (by decide +kernel)⟩
theorem lw_p44 : lw_okq (⟨"WinkPursesModel", "whyNone", "(I)I"⟩, 18) := ⟨⟨by decide +kernel, by decide +kernel⟩, List.mem_of_getElem? (i := 735) (by decide +kernel), List.mem_of_getElem? (i := 1019) (by decide +kernel), List.mem_of_getElem? (i := 1020) (by decide +kernel)⟩
theorem lw_p45 : lw_okq (⟨"WinkPursesModel", "isFor", "(III)Z"⟩, 18) := ⟨⟨by decide +kernel, by decide +kernel⟩, List.mem_of_getElem? (i := 735) (by decide +kernel), List.mem_of_getElem? (i := 1027) (by decide +kernel), List.mem_of_getElem? (i := 1028) (by decide +kernel)⟩
theorem lw_p46 : lw_okq (⟨"WinkPursesModel", "isTold", "(II)Z"⟩, 18) := ⟨⟨by decide +kernel, by decide +kernel⟩, List.mem_of_getElem? (i := 735) (by decide +kernel), List.mem_of_getElem? (i := 1031) (by decide +kernel), List.mem_of_getElem? (i := 1032) (by decide +kernel)⟩
theorem lw_p47 : lw_okq (⟨"WinkPursesModel", "draw", "()I"⟩, 18) := ⟨⟨by decide +kernel, by decide +kernel⟩, List.mem_of_getElem? (i := 735) (by decide +kernel), List.mem_of_getElem? (i := 1047) (by decide +kernel), List.mem_of_getElem? (i := 1048) (by decide +kernel)⟩
def lw_privs_3 : List (MethodName × Nat) := [(⟨"WinkPursesModel", "adds", "(IIII)V"⟩, 18), (⟨"WinkPursesModel", "daysGo", "(I)V"⟩, 18), (⟨"WinkPursesModel", "dayGoes", "()V"⟩, 18), (⟨"WinkPursesModel", "purses", "()I"⟩, 18), (⟨"WinkPursesModel", "sumOf", "(I)I"⟩, 18), (⟨"WinkPursesModel", "debtors", "()I"⟩, 18), (⟨"WinkPursesModel", "richest", "()I"⟩, 18), (⟨"WinkPursesModel", "firstOf", "(II)I"⟩, 18), (⟨"WinkPursesModel", "priced", "(II)I"⟩, 18), (⟨"WinkPursesModel", "debtorsBehind", "(I)I"⟩, 18), (⟨"WinkPursesModel", "purseBehind", "(II)I"⟩, 18), (⟨"WinkPursesModel", "whyNot", "(II)I"⟩, 18), (⟨"WinkPursesModel", "whyNone", "(I)I"⟩, 18), (⟨"WinkPursesModel", "isFor", "(III)Z"⟩, 18), (⟨"WinkPursesModel", "isTold", "(II)Z"⟩, 18), (⟨"WinkPursesModel", "draw", "()I"⟩, 18)]
theorem lw_r3 : ∀ q ∈ lw_privs_3, lw_okq q := List.forall_mem_cons.mpr ⟨lw_p32, List.forall_mem_cons.mpr ⟨lw_p33, List.forall_mem_cons.mpr ⟨lw_p34, List.forall_mem_cons.mpr ⟨lw_p35, List.forall_mem_cons.mpr ⟨lw_p36, List.forall_mem_cons.mpr ⟨lw_p37, List.forall_mem_cons.mpr ⟨lw_p38, List.forall_mem_cons.mpr ⟨lw_p39, List.forall_mem_cons.mpr ⟨lw_p40, List.forall_mem_cons.mpr ⟨lw_p41, List.forall_mem_cons.mpr ⟨lw_p42, List.forall_mem_cons.mpr ⟨lw_p43, List.forall_mem_cons.mpr ⟨lw_p44, List.forall_mem_cons.mpr ⟨lw_p45, List.forall_mem_cons.mpr ⟨lw_p46, List.forall_mem_cons.mpr ⟨lw_p47, fun _ h => absurd h List.not_mem_nil⟩⟩⟩⟩⟩⟩⟩⟩⟩⟩⟩⟩⟩⟩⟩⟩
theorem lw_p48 : lw_okq (⟨"WinkPursesModel", "items", "()I"⟩, 18) := ⟨⟨by decide +kernel, by decide +kernel⟩, List.mem_of_getElem? (i := 735) (by decide +kernel), List.mem_of_getElem? (i := 1077) (by decide +kernel), List.mem_of_getElem? (i := 1078) (by decide +kernel)⟩
theorem lw_p49 : lw_okq (⟨"WinkPursesModel", "next", "()V"⟩, 18) := ⟨⟨by decide +kernel, by decide +kernel⟩, List.mem_of_getElem? (i := 735) (by decide +kernel), List.mem_of_getElem? (i := 1081) (by decide +kernel), List.mem_of_getElem? (i := 1082) (by decide +kernel)⟩
theorem lw_p50 : lw_okq (⟨"WinkPursesModel", "byteAt", "(I)I"⟩, 18) := ⟨⟨by decide +kernel, by decide +kernel⟩, List.mem_of_getElem? (i := 735) (by decide +kernel), List.mem_of_getElem? (i := 1085) (by decide +kernel), List.mem_of_getElem? (i := 1086) (by decide +kernel)⟩
theorem lw_p51 : lw_okq (⟨"WinkPursesModel", "item", "()V"⟩, 18) := ⟨⟨by decide +kernel, by decide +kernel⟩, List.mem_of_getElem? (i := 735) (by decide +kernel), List.mem_of_getElem? (i := 1099) (by decide +kernel), List.mem_of_getElem? (i := 1100) (by decide +kernel)⟩
theorem lw_p52 : lw_okq (⟨"WinkPursesModel", "kindHere", "()I"⟩, 18) := ⟨⟨by decide +kernel, by decide +kernel⟩, List.mem_of_getElem? (i := 735) (by decide +kernel), List.mem_of_getElem? (i := 1103) (by decide +kernel), List.mem_of_getElem? (i := 1104) (by decide +kernel)⟩
theorem lw_p53 : lw_okq (⟨"WinkPursesModel", "isWord", "(J)Z"⟩, 18) := ⟨⟨by decide +kernel, by decide +kernel⟩, List.mem_of_getElem? (i := 735) (by decide +kernel), List.mem_of_getElem? (i := 1108) (by decide +kernel), List.mem_of_getElem? (i := 1109) (by decide +kernel)⟩
theorem lw_p54 : lw_okq (⟨"WinkPursesModel", "personHere", "(I)V"⟩, 18) := ⟨⟨by decide +kernel, by decide +kernel⟩, List.mem_of_getElem? (i := 735) (by decide +kernel), List.mem_of_getElem? (i := 1118) (by decide +kernel), List.mem_of_getElem? (i := 1119) (by decide +kernel)⟩
theorem lw_p55 : lw_okq (⟨"WinkPursesModel", "wrongHere", "()V"⟩, 18) := ⟨⟨by decide +kernel, by decide +kernel⟩, List.mem_of_getElem? (i := 735) (by decide +kernel), List.mem_of_getElem? (i := 1122) (by decide +kernel), List.mem_of_getElem? (i := 1123) (by decide +kernel)⟩
theorem lw_p56 : lw_okq (⟨"WinkPursesModel", "perhaps", "(JII)V"⟩, 18) := ⟨⟨by decide +kernel, by decide +kernel⟩, List.mem_of_getElem? (i := 735) (by decide +kernel), List.mem_of_getElem? (i := 1127) (by decide +kernel), List.mem_of_getElem? (i := 1128) (by decide +kernel)⟩
theorem lw_p57 : lw_okq (⟨"WinkPursesModel", "numberHere", "(II)I"⟩, 18) := ⟨⟨by decide +kernel, by decide +kernel⟩, List.mem_of_getElem? (i := 735) (by decide +kernel), List.mem_of_getElem? (i := 1131) (by decide +kernel), List.mem_of_getElem? (i := 1132) (by decide +kernel)⟩
theorem lw_p58 : lw_okq (⟨"WinkPursesModel", "payHere", "()V"⟩, 18) := ⟨⟨by decide +kernel, by decide +kernel⟩, List.mem_of_getElem? (i := 735) (by decide +kernel), List.mem_of_getElem? (i := 1138) (by decide +kernel), List.mem_of_getElem? (i := 1139) (by decide +kernel)⟩
theorem lw_p59 : lw_okq (⟨"WinkPursesModel", "holding", "()I"⟩, 18) := ⟨⟨by decide +kernel, by decide +kernel⟩, List.mem_of_getElem? (i := 735) (by decide +kernel), List.mem_of_getElem? (i := 1191) (by decide +kernel), List.mem_of_getElem? (i := 1192) (by decide +kernel)⟩
def lw_privs_4 : List (MethodName × Nat) := [(⟨"WinkPursesModel", "items", "()I"⟩, 18), (⟨"WinkPursesModel", "next", "()V"⟩, 18), (⟨"WinkPursesModel", "byteAt", "(I)I"⟩, 18), (⟨"WinkPursesModel", "item", "()V"⟩, 18), (⟨"WinkPursesModel", "kindHere", "()I"⟩, 18), (⟨"WinkPursesModel", "isWord", "(J)Z"⟩, 18), (⟨"WinkPursesModel", "personHere", "(I)V"⟩, 18), (⟨"WinkPursesModel", "wrongHere", "()V"⟩, 18), (⟨"WinkPursesModel", "perhaps", "(JII)V"⟩, 18), (⟨"WinkPursesModel", "numberHere", "(II)I"⟩, 18), (⟨"WinkPursesModel", "payHere", "()V"⟩, 18), (⟨"WinkPursesModel", "holding", "()I"⟩, 18)]
theorem lw_r4 : ∀ q ∈ lw_privs_4, lw_okq q := List.forall_mem_cons.mpr ⟨lw_p48, List.forall_mem_cons.mpr ⟨lw_p49, List.forall_mem_cons.mpr ⟨lw_p50, List.forall_mem_cons.mpr ⟨lw_p51, List.forall_mem_cons.mpr ⟨lw_p52, List.forall_mem_cons.mpr ⟨lw_p53, List.forall_mem_cons.mpr ⟨lw_p54, List.forall_mem_cons.mpr ⟨lw_p55, List.forall_mem_cons.mpr ⟨lw_p56, List.forall_mem_cons.mpr ⟨lw_p57, List.forall_mem_cons.mpr ⟨lw_p58, List.forall_mem_cons.mpr ⟨lw_p59, fun _ h => absurd h List.not_mem_nil⟩⟩⟩⟩⟩⟩⟩⟩⟩⟩⟩⟩
def lw_privs : List (MethodName × Nat) := lw_privs_1 ++ (lw_privs_2 ++ (lw_privs_3 ++ (lw_privs_4)))
def lw_tbl : List Cond := k2_sels lw_privs ++ tables_1
theorem lw_privs_ok : ∀ q ∈ lw_privs, lw_okq q := by
  show ∀ q ∈ lw_privs_1 ++ (lw_privs_2 ++ (lw_privs_3 ++ (lw_privs_4))), lw_okq q
  exact List.forall_mem_append.mpr ⟨lw_r1, List.forall_mem_append.mpr ⟨lw_r2, List.forall_mem_append.mpr ⟨lw_r3, lw_r4⟩⟩⟩
/-! the program as tables for the pure machine: classes, methods, what the pools name (hints: places in lw_tbl) -/
def cT0 : u_T := fun k => match k with
  | 0 => ("WinkPurses$Person", "kind", "I", false)
  | 1 => ("WinkPurses$Person", "small", "I", false)
  | 2 => ("WinkPurses$Person", "slow", "I", false)
  | 3 => ("WinkPurses$Person", "debt", "I", false)
  | 4 => ("WinkPurses$Person", "worn", "I", false)
  | _ => ("WinkPurses$Person", "timesPaid", "I", false)
def cY0 : Nat → FieldType := fun k => match k with
  | 0 => .int
  | 1 => .int
  | 2 => .int
  | 3 => .int
  | 4 => .int
  | _ => .int
def cT1 : u_T := fun k => match k with
  | 0 => ("WinkPurses$Sheet", "bits", "I", false)
  | 1 => ("WinkPurses$Sheet", "size", "I", false)
  | _ => ("WinkPurses$Sheet", "numbers", "[I", true)
def cY1 : Nat → FieldType := fun k => match k with
  | 0 => .int
  | 1 => .int
  | _ => .array .int
def cT2 : u_T := fun k => match k with
  | 0 => ("WinkPurses$Tape", "bytes", "[I", true)
  | 1 => ("WinkPurses$Tape", "length", "I", false)
  | 2 => ("WinkPurses$Tape", "place", "I", false)
  | 3 => ("WinkPurses$Tape", "token", "I", false)
  | 4 => ("WinkPurses$Tape", "tokenStart", "I", false)
  | _ => ("WinkPurses$Tape", "value", "I", false)
def cY2 : Nat → FieldType := fun k => match k with
  | 0 => .array .int
  | 1 => .int
  | 2 => .int
  | 3 => .int
  | 4 => .int
  | _ => .int
def cT3 : u_T := fun k => match k with
  | 0 => ("WinkPurses$Town", "rate", "I", false)
  | 1 => ("WinkPurses$Town", "falseOnes", "I", false)
  | 2 => ("WinkPurses$Town", "day", "I", false)
  | 3 => ("WinkPurses$Town", "z", "I", false)
  | 4 => ("WinkPurses$Town", "people", "I", false)
  | 5 => ("WinkPurses$Town", "persons", "[LWinkPurses$Person;", true)
  | 6 => ("WinkPurses$Town", "payments", "[I", true)
  | _ => ("WinkPurses$Town", "spots", "[I", true)
def cY3 : Nat → FieldType := fun k => match k with
  | 0 => .int
  | 1 => .int
  | 2 => .int
  | 3 => .int
  | 4 => .int
  | 5 => .array (.object "WinkPurses$Person")
  | 6 => .array .int
  | _ => .array .int
def cT4 : u_T := fun k => match k with
  | 0 => ("WinkPurses", "town", "LWinkPurses$Town;", true)
  | 1 => ("WinkPurses", "trial", "LWinkPurses$Town;", true)
  | 2 => ("WinkPurses", "kept", "LWinkPurses$Town;", true)
  | 3 => ("WinkPurses", "isKept", "Z", false)
  | 4 => ("WinkPurses", "tape", "LWinkPurses$Tape;", true)
  | 5 => ("WinkPurses", "sheets", "[LWinkPurses$Sheet;", true)
  | _ => ("WinkPurses", "findings", "[I", true)
def cY4 : Nat → FieldType := fun k => match k with
  | 0 => .object "WinkPurses$Town"
  | 1 => .object "WinkPurses$Town"
  | 2 => .object "WinkPurses$Town"
  | 3 => .boolean
  | 4 => .object "WinkPurses$Tape"
  | 5 => .array (.object "WinkPurses$Sheet")
  | _ => .array .int
def cT5 : u_T := fun k => match k with
  | 0 => ("WinkPursesModel", "d", "[I", true)
  | 1 => ("WinkPursesModel", "e", "[I", true)
  | 2 => ("WinkPursesModel", "aside", "[I", true)
  | 3 => ("WinkPursesModel", "kept", "[I", true)
  | 4 => ("WinkPursesModel", "isKept", "Z", false)
  | 5 => ("WinkPursesModel", "found", "[I", true)
  | 6 => ("WinkPursesModel", "tape", "[B", true)
  | 7 => ("WinkPursesModel", "taped", "I", false)
  | 8 => ("WinkPursesModel", "striking", "I", false)
  | 9 => ("WinkPursesModel", "at", "I", false)
  | 10 => ("WinkPursesModel", "sort", "I", false)
  | 11 => ("WinkPursesModel", "from", "I", false)
  | 12 => ("WinkPursesModel", "value", "J", false)
  | 13 => ("WinkPursesModel", "fault", "I", false)
  | 14 => ("WinkPursesModel", "bitsOf", "[I", true)
  | 15 => ("WinkPursesModel", "sizeOf", "[I", true)
  | 16 => ("WinkPursesModel", "number", "[I", true)
  | _ => ("WinkPursesModel", "passing", "[I", true)
def cY5 : Nat → FieldType := fun k => match k with
  | 0 => .array .int
  | 1 => .array .int
  | 2 => .array .int
  | 3 => .array .int
  | 4 => .boolean
  | 5 => .array .int
  | 6 => .array .byte
  | 7 => .int
  | 8 => .int
  | 9 => .int
  | 10 => .int
  | 11 => .int
  | 12 => .long
  | 13 => .int
  | 14 => .array .int
  | 15 => .array .int
  | 16 => .array .int
  | _ => .array .int
abbrev cL : List vw_C := [("WinkPurses$Person", cT0, 6), ("WinkPurses$Sheet", cT1, 3), ("WinkPurses$Tape", cT2, 6), ("WinkPurses$Town", cT3, 8), ("WinkPurses", cT4, 7), ("WinkPursesModel", cT5, 18)]
def cY : Nat → Nat → FieldType := fun c => match c with
  | 0 => cY0
  | 1 => cY1
  | 2 => cY2
  | 3 => cY3
  | 4 => cY4
  | _ => cY5
def cF (c k : Nat) : String × String × String × Bool := match cL[c]? with | some q => q.2.1 k | none => ("", "", "", false)
def cN (c : Nat) : Nat := match cL[c]? with | some q => q.2.2 | none => 0
def oN : List String := ["WinkPurses$Person", "WinkPurses$Sheet", "WinkPurses$Tape", "WinkPurses$Town", "WinkPurses", "WinkPursesModel", "java/lang/Integer", "java/lang/Math", "java/lang/String", "java/lang/StringLatin1", "jdk/internal/util/Preconditions", "WinkPursesLaw"]
def oS (o : Nat) : String := oN.getD o ""
abbrev MI : Type := Nat × String × String × ByteArray × Nat × Option FieldType × Nat × Nat
def ML : List MI := [
  (4, "<init>", "()V", prog_1_method_1_code, 2, none, 0, 48),
  (3, "<init>", "()V", prog_5_method_1_code, 2, none, 0, 11),
  (0, "<init>", "()V", prog_2_method_1_code, 1, none, 0, 0),
  (2, "<init>", "()V", prog_4_method_1_code, 1, none, 0, 1),
  (1, "<init>", "()V", prog_3_method_1_code, 1, none, 0, 1),
  (4, "set", "(II)I", prog_1_method_2_code, 4, some .int, 2, 0),
  (4, "isRate", "(I)Z", prog_1_method_55_code, 1, some .boolean, 1, 0),
  (4, "within", "(III)Z", prog_1_method_54_code, 3, some .boolean, 3, 0),
  (4, "finding", "(I)I", prog_1_method_44_code, 2, some .int, 1, 0),
  (4, "list", "(II)I", prog_1_method_3_code, 4, some .int, 2, 0),
  (4, "isPlace", "(I)Z", prog_1_method_58_code, 1, some .boolean, 1, 0),
  (4, "isPayment", "(I)Z", prog_1_method_61_code, 1, some .boolean, 1, 0),
  (4, "payeeIn", "(I)I", prog_1_method_63_code, 1, some .int, 1, 0),
  (4, "listed", "(I)I", prog_1_method_4_code, 2, some .int, 1, 0),
  (4, "person", "(II)I", prog_1_method_5_code, 3, some .int, 2, 0),
  (4, "isKind", "(I)Z", prog_1_method_56_code, 1, some .boolean, 1, 0),
  (3, "isFull", "()Z", prog_5_method_4_code, 1, some .boolean, 0, 0),
  (3, "addPerson", "(II)I", prog_5_method_5_code, 4, some .int, 2, 0),
  (0, "begin", "(II)V", prog_2_method_2_code, 3, none, 2, 0),
  (4, "of", "(II)I", prog_1_method_6_code, 3, some .int, 2, 0),
  (3, "hasPerson", "(I)Z", prog_5_method_3_code, 2, some .boolean, 1, 0),
  (3, "told", "(II)I", prog_5_method_6_code, 3, some .int, 2, 0),
  (3, "purseOf", "(I)I", prog_5_method_7_code, 2, some .int, 1, 0),
  (0, "purseBy", "(I)I", prog_2_method_6_code, 2, some .int, 1, 0),
  (0, "earnsOn", "(I)I", prog_2_method_9_code, 3, some .int, 1, 0),
  (0, "goesToBank", "()Z", prog_2_method_10_code, 1, some .boolean, 0, 0),
  (0, "trait", "(I)I", prog_2_method_4_code, 2, some .int, 1, 0),
  (4, "change", "(III)I", prog_1_method_7_code, 6, some .int, 3, 0),
  (4, "mostOf", "(I)I", prog_1_method_67_code, 1, some .int, 1, 0),
  (0, "setTrait", "(II)V", prog_2_method_5_code, 3, none, 2, 0),
  (4, "price", "(III)I", prog_1_method_8_code, 5, some .int, 3, 0),
  (4, "isPrice", "(I)Z", prog_1_method_57_code, 1, some .boolean, 1, 0),
  (0, "givesFor", "(II)I", prog_2_method_7_code, 6, some .int, 2, 0),
  (0, "takesFor", "(I)I", prog_2_method_8_code, 2, some .int, 1, 0),
  (4, "pay", "(III)I", prog_1_method_9_code, 4, some .int, 3, 0),
  (3, "canPay", "(II)Z", prog_5_method_16_code, 3, some .boolean, 2, 0),
  (3, "makePayment", "(III)I", prog_5_method_17_code, 6, some .int, 3, 0),
  (0, "handOver", "(II)I", prog_2_method_11_code, 4, some .int, 2, 0),
  (0, "receive", "(II)V", prog_2_method_12_code, 4, none, 2, 0),
  (4, "go", "(I)I", prog_1_method_10_code, 2, some .int, 1, 0),
  (3, "passDays", "(I)V", prog_5_method_18_code, 3, none, 1, 0),
  (3, "passDay", "()V", prog_5_method_19_code, 5, none, 0, 0),
  (3, "placeOfDay", "()I", prog_5_method_14_code, 1, some .int, 0, 0),
  (4, "payerIn", "(I)I", prog_1_method_62_code, 1, some .int, 1, 0),
  (4, "priceIn", "(I)I", prog_1_method_64_code, 1, some .int, 1, 0),
  (0, "earnAndRepay", "(I)V", prog_2_method_13_code, 3, none, 1, 0),
  (0, "visitBank", "(I)V", prog_2_method_14_code, 3, none, 1, 0),
  (3, "purses", "()I", prog_5_method_8_code, 1, some .int, 0, 0),
  (3, "sumOf", "(I)I", prog_5_method_9_code, 4, some .int, 1, 0),
  (4, "now", "(I)I", prog_1_method_11_code, 2, some .int, 1, 0),
  (3, "debtors", "()I", prog_5_method_10_code, 3, some .int, 0, 0),
  (3, "richest", "()I", prog_5_method_11_code, 4, some .int, 0, 0),
  (4, "ahead", "(III)I", prog_1_method_12_code, 4, some .int, 3, 0),
  (3, "become", "(LWinkPurses$Town;)V", prog_5_method_2_code, 3, none, 1, 0),
  (0, "become", "(LWinkPurses$Person;)V", prog_2_method_3_code, 2, none, 1, 0),
  (4, "rich", "(II)I", prog_1_method_13_code, 3, some .int, 2, 0),
  (4, "daysUntil", "(III)I", prog_1_method_48_code, 5, some .int, 3, 0),
  (3, "showsEvent", "(III)Z", prog_5_method_21_code, 4, some .boolean, 3, 0),
  (4, "owes", "(I)I", prog_1_method_14_code, 2, some .int, 1, 0),
  (4, "even", "()I", prog_1_method_15_code, 1, some .int, 0, 0),
  (4, "forged", "(I)I", prog_1_method_16_code, 2, some .int, 1, 0),
  (4, "priceFor", "(II)I", prog_1_method_17_code, 4, some .int, 2, 0),
  (3, "setPrice", "(II)V", prog_5_method_15_code, 4, none, 2, 0),
  (4, "rateFor", "(I)I", prog_1_method_18_code, 5, some .int, 1, 0),
  (4, "kindFor", "(II)I", prog_1_method_19_code, 6, some .int, 2, 0),
  (4, "smallFor", "(II)I", prog_1_method_20_code, 4, some .int, 2, 0),
  (4, "strike", "(I)I", prog_1_method_21_code, 4, some .int, 1, 0),
  (6, "bitCount", "(I)I", prog_8_method_49_code, 1, some .int, 1, 0),
  (4, "isEvenWithout", "(II)Z", prog_1_method_49_code, 3, some .boolean, 2, 0),
  (3, "dropPaymentsOf", "(I)V", prog_5_method_20_code, 3, none, 1, 0),
  (4, "coins", "(I)I", prog_1_method_22_code, 2, some .int, 1, 0),
  (3, "fewestCoins", "(I)I", prog_5_method_13_code, 2, some .int, 1, 0),
  (4, "fits", "(II)I", prog_1_method_23_code, 6, some .int, 2, 0),
  (4, "troubleWith", "(II)I", prog_1_method_47_code, 4, some .int, 2, 0),
  (4, "troubleWithSheet", "(I)I", prog_1_method_46_code, 2, some .int, 1, 0),
  (4, "isSheet", "(I)Z", prog_1_method_60_code, 1, some .boolean, 1, 0),
  (1, "isMissing", "()Z", prog_3_method_2_code, 1, some .boolean, 0, 0),
  (4, "priceFits", "(LWinkPurses$Sheet;II)Z", prog_1_method_50_code, 4, some .boolean, 3, 0),
  (4, "trialGoesAs", "(LWinkPurses$Sheet;I)Z", prog_1_method_51_code, 4, some .boolean, 2, 0),
  (4, "paid", "(II)I", prog_1_method_24_code, 5, some .int, 2, 0),
  (4, "kinds", "(II)I", prog_1_method_25_code, 6, some .int, 2, 0),
  (4, "market", "(I)I", prog_1_method_26_code, 3, some .int, 1, 0),
  (3, "drawPayment", "()V", prog_5_method_22_code, 3, none, 0, 0),
  (3, "nextDraw", "()I", prog_5_method_23_code, 1, some .int, 0, 0),
  (4, "paymentOf", "(III)I", prog_1_method_65_code, 3, some .int, 3, 0),
  (4, "odds", "(III)J", prog_1_method_27_code, 10, some .long, 3, 0),
  (4, "payablePrices", "(I)I", prog_1_method_52_code, 5, some .int, 1, 0),
  (4, "commonDivisor", "(II)I", prog_1_method_53_code, 3, some .int, 2, 0),
  (4, "seed", "(I)I", prog_1_method_28_code, 3, some .int, 1, 0),
  (4, "feed", "(II)I", prog_1_method_29_code, 4, some .int, 2, 0),
  (2, "append", "(I)V", prog_4_method_2_code, 2, none, 1, 0),
  (4, "wipe", "()I", prog_1_method_30_code, 2, some .int, 0, 0),
  (4, "text", "()I", prog_1_method_31_code, 2, some .int, 0, 0),
  (2, "readInto", "(LWinkPurses$Town;)I", prog_4_method_3_code, 4, some .int, 1, 0),
  (2, "nextToken", "()V", prog_4_method_13_code, 1, none, 0, 0),
  (2, "isLetter", "(I)Z", prog_4_method_15_code, 1, some .boolean, 1, 0),
  (2, "isDigit", "(I)Z", prog_4_method_16_code, 1, some .boolean, 1, 0),
  (2, "passDigits", "()V", prog_4_method_14_code, 1, none, 0, 0),
  (2, "isWord", "(Ljava/lang/String;)Z", prog_4_method_12_code, 3, some .boolean, 1, 0),
  (8, "length", "()I", prog_10_method_54_code, 1, some .int, 0, 0),
  (8, "coder", "()B", prog_10_method_152_code, 1, some .byte, 0, 0),
  (8, "charAt", "(I)C", prog_10_method_56_code, 2, some .char, 1, 0),
  (8, "isLatin1", "()Z", prog_10_method_154_code, 1, some .boolean, 0, 0),
  (9, "charAt", "([BI)C", prog_11_method_2_code, 2, some .char, 2, 0),
  (8, "checkIndex", "(II)V", prog_10_method_155_code, 2, none, 2, 0),
  (10, "checkIndex", "(IILjava/util/function/BiFunction;)I", prog_14_method_11_code, 3, some .int, 3, 0),
  (2, "readPayment", "(LWinkPurses$Town;)Z", prog_4_method_6_code, 6, some .boolean, 1, 0),
  (2, "takeNumber", "(I)I", prog_4_method_8_code, 3, some .int, 1, 0),
  (2, "isNumber", "(II)Z", prog_4_method_9_code, 3, some .boolean, 2, 0),
  (2, "readRate", "(LWinkPurses$Town;)Z", prog_4_method_7_code, 2, some .boolean, 1, 0),
  (2, "readPerson", "(LWinkPurses$Town;)Z", prog_4_method_4_code, 4, some .boolean, 1, 0),
  (2, "kindOfWord", "()I", prog_4_method_10_code, 2, some .int, 0, 0),
  (2, "wordOf", "(I)Ljava/lang/String;", prog_4_method_11_code, 1, some (.object "java/lang/String"), 1, 0),
  (2, "readTrait", "(Ljava/lang/String;LWinkPurses$Person;I)Z", prog_4_method_5_code, 4, some .boolean, 3, 0),
  (4, "hold", "(II)I", prog_1_method_32_code, 3, some .int, 2, 0),
  (4, "isSpot", "(I)Z", prog_1_method_59_code, 1, some .boolean, 1, 0),
  (4, "as", "(II)I", prog_1_method_33_code, 4, some .int, 2, 0),
  (4, "isUnder", "(II)Z", prog_1_method_66_code, 4, some .boolean, 2, 0),
  (4, "sheet", "(III)I", prog_1_method_34_code, 4, some .int, 3, 0),
  (1, "begin", "(II)V", prog_3_method_3_code, 4, none, 2, 0),
  (4, "write", "(III)I", prog_1_method_35_code, 5, some .int, 3, 0),
  (1, "put", "(II)V", prog_3_method_4_code, 3, none, 2, 0),
  (4, "copy", "(IIIII)I", prog_1_method_36_code, 6, some .int, 5, 0),
  (1, "hasPart", "(II)Z", prog_3_method_5_code, 3, some .boolean, 2, 0),
  (4, "load", "(I)I", prog_1_method_37_code, 6, some .int, 1, 0),
  (4, "judge", "(I)I", prog_1_method_38_code, 4, some .int, 1, 0),
  (4, "image", "()I", prog_1_method_39_code, 1, some .int, 0, 0),
  (4, "undo", "()I", prog_1_method_40_code, 1, some .int, 0, 0),
  (4, "tear", "()I", prog_1_method_41_code, 2, some .int, 0, 0),
  (4, "count", "(I)I", prog_1_method_42_code, 2, some .int, 1, 0),
  (3, "heldSpots", "()I", prog_5_method_12_code, 3, some .int, 0, 0),
  (4, "status", "(I)I", prog_1_method_43_code, 2, some .int, 1, 0),
  (4, "allFindings", "()I", prog_1_method_45_code, 3, some .int, 0, 0),
  (5, "<init>", "()V", prog_7_method_1_code, 2, none, 0, 10),
  (5, "set", "(II)I", prog_7_method_26_code, 3, some .int, 2, 0),
  (5, "in", "(JJJ)Z", prog_7_method_4_code, 6, some .boolean, 3, 0),
  (5, "becomes", "(II)I", prog_7_method_13_code, 4, some .int, 2, 0),
  (5, "finds", "(I)I", prog_7_method_3_code, 2, some .int, 1, 0),
  (5, "list", "(II)I", prog_7_method_27_code, 3, some .int, 2, 0),
  (5, "isPlace", "(I)Z", prog_7_method_8_code, 1, some .boolean, 1, 0),
  (5, "isPayment", "(I)Z", prog_7_method_9_code, 1, some .boolean, 1, 0),
  (5, "listed", "(I)I", prog_7_method_28_code, 2, some .int, 1, 0),
  (5, "person", "(II)I", prog_7_method_30_code, 3, some .int, 2, 0),
  (5, "comes", "(II)I", prog_7_method_29_code, 5, some .int, 2, 0),
  (5, "sets", "(III)V", prog_7_method_11_code, 4, none, 3, 0),
  (5, "of", "(II)I", prog_7_method_31_code, 3, some .int, 2, 0),
  (5, "isPerson", "(I)Z", prog_7_method_7_code, 2, some .boolean, 1, 0),
  (5, "purse", "(I)I", prog_7_method_15_code, 2, some .int, 1, 0),
  (5, "its", "(II)I", prog_7_method_10_code, 3, some .int, 2, 0),
  (5, "earns", "(I)I", prog_7_method_18_code, 3, some .int, 1, 0),
  (5, "changes", "(I)Z", prog_7_method_19_code, 3, some .boolean, 1, 0),
  (5, "change", "(III)I", prog_7_method_33_code, 4, some .int, 3, 0),
  (5, "mostOf", "(I)I", prog_7_method_32_code, 1, some .int, 1, 0),
  (5, "price", "(III)I", prog_7_method_34_code, 4, some .int, 3, 0),
  (5, "gives", "(II)I", prog_7_method_16_code, 6, some .int, 2, 0),
  (5, "takes", "(II)I", prog_7_method_17_code, 3, some .int, 2, 0),
  (5, "pay", "(III)I", prog_7_method_35_code, 4, some .int, 3, 0),
  (5, "pays", "(III)I", prog_7_method_20_code, 6, some .int, 3, 0),
  (5, "held", "(III)I", prog_7_method_5_code, 3, some .int, 3, 0),
  (5, "adds", "(IIII)V", prog_7_method_12_code, 5, none, 4, 0),
  (5, "go", "(I)I", prog_7_method_36_code, 2, some .int, 1, 0),
  (5, "daysGo", "(I)V", prog_7_method_22_code, 3, none, 1, 0),
  (5, "dayGoes", "()V", prog_7_method_21_code, 6, none, 0, 0),
  (5, "purses", "()I", prog_7_method_24_code, 1, some .int, 0, 0),
  (5, "sumOf", "(I)I", prog_7_method_23_code, 4, some .int, 1, 0),
  (5, "now", "(I)I", prog_7_method_38_code, 2, some .int, 1, 0),
  (5, "debtors", "()I", prog_7_method_25_code, 3, some .int, 0, 0),
  (5, "richest", "()I", prog_7_method_37_code, 3, some .int, 0, 0),
  (5, "ahead", "(III)I", prog_7_method_40_code, 5, some .int, 3, 0),
  (5, "copies", "([I[I)V", prog_7_method_6_code, 3, none, 2, 0),
  (5, "rich", "(II)I", prog_7_method_41_code, 5, some .int, 2, 0),
  (5, "owes", "(I)I", prog_7_method_43_code, 2, some .int, 1, 0),
  (5, "firstOf", "(II)I", prog_7_method_42_code, 5, some .int, 2, 0),
  (5, "even", "()I", prog_7_method_44_code, 3, some .int, 0, 0),
  (5, "forged", "(I)I", prog_7_method_45_code, 2, some .int, 1, 0),
  (5, "priceFor", "(II)I", prog_7_method_49_code, 4, some .int, 2, 0),
  (5, "isLong", "(I)Z", prog_7_method_46_code, 1, some .boolean, 1, 0),
  (5, "priced", "(II)I", prog_7_method_48_code, 3, some .int, 2, 0),
  (5, "debtorsBehind", "(I)I", prog_7_method_47_code, 3, some .int, 1, 0),
  (5, "rateFor", "(I)I", prog_7_method_50_code, 6, some .int, 1, 0),
  (5, "kindFor", "(II)I", prog_7_method_51_code, 7, some .int, 2, 0),
  (5, "purseBehind", "(II)I", prog_7_method_39_code, 4, some .int, 2, 0),
  (5, "smallFor", "(II)I", prog_7_method_52_code, 4, some .int, 2, 0),
  (5, "strike", "(I)I", prog_7_method_53_code, 4, some .int, 1, 0),
  (5, "ones", "(I)I", prog_7_method_14_code, 3, some .int, 1, 0),
  (5, "coins", "(I)I", prog_7_method_54_code, 2, some .int, 1, 0),
  (5, "fits", "(II)I", prog_7_method_58_code, 6, some .int, 2, 0),
  (5, "whyNot", "(II)I", prog_7_method_55_code, 4, some .int, 2, 0),
  (5, "whyNone", "(I)I", prog_7_method_87_code, 2, some .int, 1, 0),
  (5, "isSheet", "(I)Z", prog_7_method_85_code, 1, some .boolean, 1, 0),
  (5, "isFor", "(III)Z", prog_7_method_57_code, 5, some .boolean, 3, 0),
  (5, "isTold", "(II)Z", prog_7_method_56_code, 6, some .boolean, 2, 0),
  (5, "paid", "(II)I", prog_7_method_59_code, 5, some .int, 2, 0),
  (5, "kinds", "(II)I", prog_7_method_60_code, 6, some .int, 2, 0),
  (5, "market", "(I)I", prog_7_method_62_code, 5, some .int, 1, 0),
  (5, "draw", "()I", prog_7_method_61_code, 1, some .int, 0, 0),
  (5, "odds", "(III)J", prog_7_method_64_code, 9, some .long, 3, 0),
  (5, "common", "(II)I", prog_7_method_63_code, 5, some .int, 2, 0),
  (5, "seed", "(I)I", prog_7_method_65_code, 2, some .int, 1, 0),
  (5, "feed", "(II)I", prog_7_method_66_code, 4, some .int, 2, 0),
  (5, "wipe", "()I", prog_7_method_67_code, 2, some .int, 0, 0),
  (5, "text", "()I", prog_7_method_81_code, 2, some .int, 0, 0),
  (5, "items", "()I", prog_7_method_80_code, 2, some .int, 0, 0),
  (5, "next", "()V", prog_7_method_71_code, 2, none, 0, 0),
  (5, "byteAt", "(I)I", prog_7_method_70_code, 2, some .int, 1, 0),
  (5, "letter", "(I)I", prog_7_method_68_code, 1, some .int, 1, 0),
  (5, "isDigit", "(I)Z", prog_7_method_69_code, 1, some .boolean, 1, 0),
  (5, "item", "()V", prog_7_method_79_code, 2, none, 0, 0),
  (5, "kindHere", "()I", prog_7_method_74_code, 1, some .int, 0, 0),
  (5, "isWord", "(J)Z", prog_7_method_73_code, 3, some .boolean, 1, 0),
  (5, "personHere", "(I)V", prog_7_method_77_code, 3, none, 1, 0),
  (5, "wrongHere", "()V", prog_7_method_72_code, 1, none, 0, 0),
  (5, "perhaps", "(JII)V", prog_7_method_76_code, 6, none, 3, 0),
  (5, "numberHere", "(II)I", prog_7_method_75_code, 4, some .int, 2, 0),
  (5, "payHere", "()V", prog_7_method_78_code, 5, none, 0, 0),
  (5, "hold", "(II)I", prog_7_method_82_code, 3, some .int, 2, 0),
  (5, "as", "(II)I", prog_7_method_84_code, 5, some .int, 2, 0),
  (5, "above", "(I)I", prog_7_method_83_code, 1, some .int, 1, 0),
  (5, "sheet", "(III)I", prog_7_method_86_code, 5, some .int, 3, 0),
  (5, "write", "(III)I", prog_7_method_88_code, 5, some .int, 3, 0),
  (5, "copy", "(IIIII)I", prog_7_method_89_code, 7, some .int, 5, 0),
  (5, "load", "(I)I", prog_7_method_90_code, 4, some .int, 1, 0),
  (5, "judge", "(I)I", prog_7_method_91_code, 4, some .int, 1, 0),
  (5, "image", "()I", prog_7_method_92_code, 1, some .int, 0, 0),
  (5, "undo", "()I", prog_7_method_93_code, 1, some .int, 0, 0),
  (5, "tear", "()I", prog_7_method_94_code, 2, some .int, 0, 0),
  (5, "count", "(I)I", prog_7_method_96_code, 2, some .int, 1, 0),
  (5, "holding", "()I", prog_7_method_95_code, 3, some .int, 0, 0),
  (5, "status", "(I)I", prog_7_method_97_code, 4, some .int, 1, 0),
  (11, "law", "([I)Z", code, 4, some .boolean, 1, 60)]
abbrev nM : Nat := 229
def mi (y : Nat) : MI := ML.getD y (0, "", "", ByteArray.empty, 0, none, 0, 0)
def yO (y : Nat) : Nat := (mi y).1
def yN (y : Nat) : MethodName := ⟨oS (mi y).1, (mi y).2.1, (mi y).2.2.1⟩
def yB (y : Nat) : ByteArray := (mi y).2.2.2.1
def yL (y : Nat) : Nat := (mi y).2.2.2.2.1
def yR (y : Nat) : Option FieldType := (mi y).2.2.2.2.2.1
def yA (y : Nat) : Nat := (mi y).2.2.2.2.2.2.1
def yU (y : Nat) : Nat := (mi y).2.2.2.2.2.2.2
def yH : List Nat := [78, 86, 93, 160, 187, 227, 230, 233, 237, 242, 245, 248, 251, 255, 259, 262, 266, 270, 274, 278, 282, 286, 290, 294, 298, 302, 306, 310, 313, 318, 322, 325, 329, 336, 340, 344, 349, 354, 361, 366, 371, 375, 379, 382, 386, 392, 398, 404, 408, 413, 418, 422, 426, 430, 434, 441, 445, 449, 455, 459, 463, 467, 471, 475, 479, 484, 488, 491, 498, 502, 507, 511, 515, 519, 523, 526, 530, 534, 539, 543, 547, 551, 555, 559, 563, 567, 571, 574, 578, 582, 586, 590, 594, 598, 602, 605, 608, 612, 618, 622, 626, 632, 636, 639, 642, 647, 670, 674, 678, 685, 689, 693, 696, 710, 719, 722, 726, 729, 735, 739, 743, 747, 751, 755, 760, 765, 769, 773, 777, 781, 785, 789, 793, 798, 858, 863, 868, 872, 877, 880, 884, 889, 893, 899, 903, 907, 911, 916, 920, 924, 928, 932, 935, 939, 944, 948, 952, 956, 959, 963, 967, 973, 977, 981, 985, 989, 993, 997, 1001, 1005, 1009, 1013, 1017, 1021, 1025, 1029, 1032, 1036, 1040, 1044, 1048, 1052, 1056, 1061, 1065, 1069, 1073, 1077, 1081, 1084, 1089, 1093, 1097, 1101, 1105, 1109, 1114, 1118, 1122, 1126, 1131, 1135, 1139, 1143, 1147, 1150, 1155, 1161, 1165, 1170, 1180, 1184, 1189, 1193, 1200, 1205, 1210, 1213, 1217, 1221, 1225, 1229, 1233, 1237, 1241, 1245, 1249, 1253, 1257]
/-- a pool entry that names a field: owner, entry, class, field, place of its word -/
def FLT : List (Nat × Nat × Nat × Nat × Nat) := [(0, 9, 0, 0, 95), (4, 153, 0, 0, 96), (3, 123, 0, 0, 97), (0, 15, 0, 1, 98), (4, 159, 0, 1, 99), (0, 18, 0, 2, 100), (0, 21, 0, 3, 101), (3, 79, 0, 3, 102), (4, 162, 0, 3, 103), (0, 24, 0, 4, 104), (0, 27, 0, 5, 105), (3, 9, 3, 0, 120), (4, 48, 3, 0, 121), (2, 104, 3, 0, 122), (3, 15, 3, 1, 123), (4, 56, 3, 1, 124), (3, 18, 3, 2, 125), (4, 122, 3, 2, 126), (3, 21, 3, 3, 127), (4, 202, 3, 3, 128), (3, 24, 3, 4, 129), (4, 165, 3, 4, 130), (3, 29, 3, 5, 131), (2, 62, 3, 5, 132), (4, 92, 3, 5, 133), (3, 33, 3, 6, 134), (4, 69, 3, 6, 135), (2, 97, 3, 6, 136), (3, 37, 3, 7, 137), (4, 218, 3, 7, 138), (2, 9, 2, 0, 162), (2, 15, 2, 1, 163), (4, 205, 2, 1, 164), (2, 19, 2, 2, 165), (2, 22, 2, 3, 166), (2, 25, 2, 4, 167), (2, 28, 2, 5, 168), (1, 9, 1, 0, 189), (4, 242, 1, 0, 190), (1, 15, 1, 1, 191), (4, 230, 1, 1, 192), (1, 18, 1, 2, 193), (4, 248, 1, 2, 194), (4, 10, 4, 0, 202), (4, 16, 4, 1, 203), (4, 19, 4, 2, 204), (4, 22, 4, 3, 205), (4, 29, 4, 4, 206), (4, 35, 4, 5, 207), (4, 39, 4, 6, 208), (5, 7, 5, 0, 800), (5, 13, 5, 1, 801), (5, 16, 5, 2, 802), (5, 19, 5, 3, 803), (5, 303, 5, 4, 804), (5, 22, 5, 5, 805), (5, 25, 5, 6, 806), (5, 201, 5, 7, 807), (5, 76, 5, 8, 808), (5, 204, 5, 9, 809), (5, 217, 5, 10, 810), (5, 210, 5, 11, 811), (5, 213, 5, 12, 812), (5, 234, 5, 13, 813), (5, 29, 5, 14, 814), (5, 32, 5, 15, 815), (5, 35, 5, 16, 816), (5, 38, 5, 17, 817), (8, 9, 100, 0, 1258), (8, 15, 100, 1, 1259)]
def GST : List (Nat × Nat × Nat × Nat) := [(8, 38, 1, 627), (8, 1053, 2, 643), (4, 281, 0, 730)]
/-- a pool entry that names a method: owner, entry, kind of call, method, places of its words -/
def CLT : List (Nat × Nat × Nat × Nat × Nat × Nat × Nat × Nat) := [(11, 9, 3, 0, 76, 77, 61, 0),
  (4, 1, 5, 0, 79, 80, 0, 0),
  (4, 9, 3, 1, 84, 85, 62, 0),
  (3, 3, 5, 0, 87, 80, 0, 0),
  (0, 3, 5, 0, 94, 80, 0, 0),
  (2, 3, 5, 0, 161, 80, 0, 0),
  (1, 3, 5, 0, 188, 80, 0, 0),
  (11, 13, 0, 5, 224, 225, 226, 61),
  (4, 44, 1, 6, 228, 229, 61, 0),
  (4, 52, 1, 7, 231, 232, 61, 0),
  (4, 59, 0, 8, 234, 236, 0, 61),
  (11, 18, 0, 9, 239, 240, 241, 61),
  (4, 63, 1, 10, 243, 244, 61, 0),
  (4, 66, 1, 11, 246, 247, 61, 0),
  (4, 278, 1, 12, 249, 250, 61, 0),
  (11, 22, 0, 13, 252, 253, 254, 61),
  (11, 27, 0, 14, 256, 257, 258, 61),
  (4, 72, 1, 15, 260, 261, 61, 0),
  (4, 75, 0, 16, 263, 264, 265, 62),
  (4, 79, 0, 17, 267, 268, 269, 62),
  (3, 51, 0, 18, 271, 272, 273, 63),
  (11, 31, 0, 19, 275, 276, 277, 61),
  (4, 83, 0, 20, 279, 280, 281, 62),
  (4, 86, 0, 21, 283, 284, 285, 62),
  (3, 55, 0, 22, 287, 288, 289, 62),
  (3, 69, 0, 23, 291, 292, 293, 63),
  (3, 59, 0, 24, 295, 296, 297, 63),
  (3, 62, 0, 25, 299, 300, 301, 63),
  (3, 66, 0, 26, 303, 304, 305, 63),
  (11, 35, 0, 27, 307, 308, 309, 61),
  (4, 89, 1, 28, 311, 312, 61, 0),
  (4, 96, 0, 26, 314, 304, 305, 63),
  (4, 101, 0, 29, 315, 316, 317, 63),
  (11, 40, 0, 30, 319, 320, 321, 61),
  (4, 105, 1, 31, 323, 324, 61, 0),
  (4, 108, 0, 32, 326, 327, 328, 63),
  (0, 30, 7, 0, 330, 331, 67, 332),
  (4, 111, 0, 33, 333, 334, 335, 63),
  (11, 44, 0, 34, 337, 338, 339, 61),
  (4, 114, 0, 35, 341, 342, 343, 62),
  (3, 85, 0, 20, 345, 280, 281, 62),
  (4, 118, 0, 36, 346, 347, 348, 62),
  (3, 89, 0, 32, 350, 327, 328, 63),
  (3, 92, 0, 37, 351, 352, 353, 63),
  (0, 36, 8, 0, 355, 356, 67, 357),
  (3, 95, 0, 38, 358, 359, 360, 63),
  (0, 39, 0, 33, 362, 334, 335, 63),
  (11, 48, 0, 39, 363, 364, 365, 61),
  (4, 126, 0, 40, 368, 369, 370, 62),
  (3, 98, 0, 41, 372, 373, 374, 62),
  (3, 101, 0, 42, 376, 377, 378, 62),
  (3, 111, 0, 35, 387, 342, 343, 62),
  (3, 115, 0, 36, 388, 347, 348, 62),
  (3, 119, 0, 45, 389, 390, 391, 63),
  (0, 43, 0, 24, 393, 296, 297, 63),
  (3, 126, 8, 0, 394, 356, 67, 357),
  (3, 131, 0, 46, 395, 396, 397, 63),
  (0, 46, 0, 25, 399, 300, 301, 63),
  (4, 130, 0, 47, 401, 402, 403, 62),
  (3, 72, 0, 48, 405, 406, 407, 62),
  (3, 75, 0, 21, 409, 284, 285, 62),
  (11, 52, 0, 49, 410, 411, 412, 61),
  (4, 134, 0, 48, 414, 406, 407, 62),
  (4, 137, 0, 50, 415, 416, 417, 62),
  (4, 140, 0, 51, 419, 420, 421, 62),
  (11, 56, 0, 52, 423, 424, 425, 61),
  (4, 143, 0, 53, 427, 428, 429, 62),
  (3, 41, 0, 54, 431, 432, 433, 63),
  (3, 45, 6, 0, 435, 436, 437, 68),
  (11, 60, 0, 55, 438, 439, 440, 61),
  (4, 147, 0, 56, 442, 444, 1, 61),
  (4, 269, 0, 57, 446, 447, 448, 62),
  (3, 138, 0, 50, 450, 416, 417, 62),
  (4, 193, 0, 41, 451, 373, 374, 62),
  (11, 64, 0, 58, 452, 453, 454, 61),
  (11, 68, 0, 59, 456, 457, 458, 61),
  (11, 73, 0, 60, 460, 461, 462, 61),
  (11, 77, 0, 61, 464, 465, 466, 61),
  (4, 150, 0, 62, 468, 469, 470, 62),
  (11, 81, 0, 63, 472, 473, 474, 61),
  (11, 85, 0, 64, 476, 477, 478, 61),
  (4, 156, 0, 22, 480, 288, 289, 62),
  (11, 89, 0, 65, 481, 482, 483, 61),
  (11, 93, 0, 66, 485, 486, 487, 61),
  (4, 168, 1, 67, 489, 490, 69, 0),
  (4, 173, 0, 68, 495, 497, 2, 61),
  (4, 272, 0, 69, 499, 500, 501, 62),
  (3, 135, 0, 62, 503, 469, 470, 62),
  (11, 97, 0, 70, 504, 505, 506, 61),
  (4, 176, 0, 71, 508, 509, 510, 62),
  (11, 101, 0, 72, 512, 513, 514, 61),
  (4, 179, 0, 73, 516, 518, 3, 61),
  (4, 233, 0, 74, 520, 522, 4, 61),
  (4, 224, 1, 75, 524, 525, 61, 0),
  (4, 239, 0, 76, 527, 528, 529, 65),
  (4, 182, 0, 77, 531, 533, 5, 61),
  (4, 275, 0, 42, 535, 377, 378, 62),
  (4, 186, 0, 78, 536, 538, 6, 61),
  (11, 105, 0, 79, 540, 541, 542, 61),
  (11, 109, 0, 80, 544, 545, 546, 61),
  (11, 113, 0, 81, 548, 549, 550, 61),
  (4, 190, 0, 82, 552, 553, 554, 62),
  (3, 141, 0, 83, 556, 558, 7, 62),
  (11, 117, 0, 85, 564, 565, 566, 61),
  (4, 196, 0, 86, 568, 570, 8, 61),
  (4, 199, 1, 87, 572, 573, 61, 0),
  (11, 122, 0, 88, 575, 576, 577, 61),
  (11, 126, 0, 89, 579, 580, 581, 61),
  (4, 208, 0, 90, 583, 584, 585, 64),
  (11, 130, 0, 91, 587, 588, 589, 61),
  (11, 134, 0, 92, 591, 592, 593, 61),
  (4, 211, 0, 93, 595, 596, 597, 64),
  (2, 31, 0, 94, 599, 601, 9, 64),
  (2, 136, 1, 95, 603, 604, 64, 0),
  (2, 140, 1, 96, 606, 607, 64, 0),
  (2, 143, 0, 97, 609, 611, 10, 64),
  (2, 146, 8, 0, 613, 356, 67, 357),
  (2, 36, 0, 98, 615, 617, 11, 64),
  (2, 128, 0, 99, 619, 620, 621, 70),
  (8, 335, 0, 100, 623, 624, 625, 70),
  (2, 132, 0, 101, 629, 630, 631, 70),
  (8, 492, 0, 102, 633, 634, 635, 70),
  (8, 495, 1, 103, 637, 638, 71, 0),
  (9, 9, 1, 104, 640, 641, 70, 0),
  (8, 1059, 1, 105, 645, 646, 72, 0),
  (2, 40, 0, 106, 667, 669, 12, 64),
  (2, 94, 0, 107, 671, 673, 13, 64),
  (2, 84, 0, 108, 675, 677, 14, 64),
  (2, 46, 0, 109, 682, 684, 15, 64),
  (2, 49, 0, 110, 686, 688, 16, 64),
  (2, 52, 0, 111, 690, 692, 17, 64),
  (2, 110, 1, 112, 694, 695, 64, 0),
  (2, 56, 0, 16, 704, 264, 265, 62),
  (2, 66, 0, 17, 705, 268, 269, 62),
  (2, 72, 0, 113, 707, 709, 18, 64),
  (2, 88, 0, 29, 712, 316, 317, 63),
  (11, 138, 0, 114, 716, 717, 718, 61),
  (4, 215, 1, 115, 720, 721, 61, 0),
  (11, 142, 0, 116, 723, 724, 725, 61),
  (4, 221, 1, 117, 727, 728, 61, 0),
  (11, 146, 0, 118, 732, 733, 734, 61),
  (4, 227, 0, 119, 736, 737, 738, 65),
  (11, 150, 0, 120, 740, 741, 742, 61),
  (4, 236, 0, 121, 744, 745, 746, 65),
  (11, 154, 0, 122, 748, 749, 750, 61),
  (4, 245, 0, 123, 752, 753, 754, 65),
  (4, 251, 6, 0, 756, 436, 437, 68),
  (11, 159, 0, 124, 757, 758, 759, 61),
  (4, 257, 8, 0, 761, 356, 67, 357),
  (11, 163, 0, 125, 762, 763, 764, 61),
  (11, 167, 0, 126, 766, 767, 768, 61),
  (11, 171, 0, 127, 770, 771, 772, 61),
  (11, 175, 0, 128, 774, 775, 776, 61),
  (11, 179, 0, 129, 778, 779, 780, 61),
  (4, 262, 0, 130, 782, 783, 784, 62),
  (11, 183, 0, 131, 786, 787, 788, 61),
  (4, 265, 0, 132, 790, 792, 19, 61),
  (11, 12, 3, 133, 796, 797, 66, 0),
  (5, 1, 5, 0, 799, 80, 0, 0),
  (11, 17, 0, 134, 855, 856, 857, 66),
  (5, 42, 1, 135, 861, 862, 66, 0),
  (5, 103, 0, 136, 865, 867, 20, 66),
  (5, 106, 0, 137, 869, 871, 21, 66),
  (11, 21, 0, 138, 874, 875, 876, 66),
  (5, 109, 1, 139, 878, 879, 66, 0),
  (5, 112, 1, 140, 882, 883, 66, 0),
  (11, 26, 0, 141, 886, 887, 888, 66),
  (11, 30, 0, 142, 890, 891, 892, 66),
  (5, 119, 0, 143, 896, 898, 22, 66),
  (5, 58, 0, 144, 900, 902, 23, 66),
  (11, 34, 0, 145, 904, 905, 906, 66),
  (5, 72, 0, 146, 908, 910, 24, 66),
  (5, 124, 0, 147, 913, 915, 25, 66),
  (5, 50, 0, 148, 917, 919, 26, 66),
  (5, 83, 0, 149, 921, 923, 27, 66),
  (5, 87, 0, 150, 925, 927, 28, 66),
  (11, 39, 0, 151, 929, 930, 931, 66),
  (5, 127, 1, 152, 933, 934, 66, 0),
  (11, 43, 0, 153, 936, 937, 938, 66),
  (5, 62, 0, 154, 941, 943, 29, 66),
  (5, 69, 0, 155, 945, 947, 30, 66),
  (11, 47, 0, 156, 949, 950, 951, 66),
  (5, 80, 0, 157, 953, 955, 31, 66),
  (5, 54, 1, 158, 957, 958, 66, 0),
  (5, 65, 0, 159, 960, 962, 32, 66),
  (11, 51, 0, 160, 964, 965, 966, 66),
  (5, 134, 0, 161, 970, 972, 33, 66),
  (5, 91, 0, 162, 974, 976, 34, 66),
  (5, 138, 0, 163, 978, 980, 35, 66),
  (5, 94, 0, 164, 982, 984, 36, 66),
  (11, 55, 0, 165, 986, 987, 988, 66),
  (5, 142, 0, 166, 990, 992, 37, 66),
  (5, 145, 0, 167, 994, 996, 38, 66),
  (11, 59, 0, 168, 998, 999, 1000, 66),
  (5, 148, 1, 169, 1003, 1004, 66, 0),
  (11, 63, 0, 170, 1006, 1007, 1008, 66),
  (11, 67, 0, 171, 1010, 1011, 1012, 66),
  (5, 154, 0, 172, 1014, 1016, 39, 66),
  (11, 72, 0, 173, 1018, 1019, 1020, 66),
  (11, 76, 0, 174, 1022, 1023, 1024, 66),
  (11, 80, 0, 175, 1026, 1027, 1028, 66),
  (5, 157, 1, 176, 1030, 1031, 66, 0),
  (5, 160, 0, 177, 1033, 1035, 40, 66),
  (5, 163, 0, 178, 1037, 1039, 41, 66),
  (11, 84, 0, 179, 1041, 1042, 1043, 66),
  (11, 88, 0, 180, 1045, 1046, 1047, 66),
  (5, 166, 0, 181, 1049, 1051, 42, 66),
  (11, 92, 0, 182, 1053, 1054, 1055, 66),
  (11, 96, 0, 183, 1058, 1059, 1060, 66),
  (5, 173, 1, 184, 1063, 1064, 66, 0),
  (11, 100, 0, 185, 1066, 1067, 1068, 66),
  (11, 104, 0, 186, 1070, 1071, 1072, 66),
  (5, 183, 0, 187, 1074, 1076, 43, 66),
  (5, 176, 0, 188, 1078, 1080, 44, 66),
  (5, 300, 1, 189, 1082, 1083, 66, 0),
  (5, 186, 0, 190, 1086, 1088, 45, 66),
  (5, 179, 0, 191, 1090, 1092, 46, 66),
  (11, 108, 0, 192, 1094, 1095, 1096, 66),
  (11, 112, 0, 193, 1098, 1099, 1100, 66),
  (11, 116, 0, 194, 1102, 1103, 1104, 66),
  (5, 191, 0, 195, 1106, 1108, 47, 66),
  (11, 121, 0, 196, 1111, 1112, 1113, 66),
  (5, 196, 1, 197, 1116, 1117, 66, 0),
  (11, 125, 0, 198, 1119, 1120, 1121, 66),
  (11, 129, 0, 199, 1123, 1124, 1125, 66),
  (11, 133, 0, 200, 1128, 1129, 1130, 66),
  (11, 137, 0, 201, 1132, 1133, 1134, 66),
  (5, 290, 0, 202, 1136, 1138, 48, 66),
  (5, 258, 0, 203, 1140, 1142, 49, 66),
  (5, 207, 0, 204, 1144, 1146, 50, 66),
  (5, 220, 1, 205, 1148, 1149, 66, 0),
  (5, 227, 1, 206, 1153, 1154, 66, 0),
  (5, 287, 0, 207, 1158, 1160, 51, 66),
  (5, 274, 0, 208, 1162, 1164, 52, 66),
  (5, 239, 0, 209, 1167, 1169, 53, 66),
  (5, 277, 0, 210, 1177, 1179, 54, 66),
  (5, 255, 0, 211, 1181, 1183, 55, 66),
  (5, 266, 0, 212, 1186, 1188, 56, 66),
  (5, 261, 0, 213, 1190, 1192, 57, 66),
  (5, 282, 0, 214, 1197, 1199, 58, 66),
  (11, 141, 0, 215, 1202, 1203, 1204, 66),
  (11, 145, 0, 216, 1207, 1208, 1209, 66),
  (5, 295, 1, 217, 1211, 1212, 66, 0),
  (11, 149, 0, 218, 1214, 1215, 1216, 66),
  (11, 153, 0, 219, 1218, 1219, 1220, 66),
  (11, 158, 0, 220, 1222, 1223, 1224, 66),
  (11, 162, 0, 221, 1226, 1227, 1228, 66),
  (11, 166, 0, 222, 1230, 1231, 1232, 66),
  (11, 170, 0, 223, 1234, 1235, 1236, 66),
  (11, 174, 0, 224, 1238, 1239, 1240, 66),
  (11, 178, 0, 225, 1242, 1243, 1244, 66),
  (11, 182, 0, 226, 1246, 1247, 1248, 66),
  (5, 307, 0, 227, 1250, 1252, 59, 66),
  (11, 186, 0, 228, 1254, 1255, 1256, 66),
  (3, 40, 4, 2, 91, 92, 63, 0),
  (4, 28, 4, 3, 158, 159, 64, 0),
  (4, 43, 4, 4, 185, 186, 65, 0),
  (3, 105, 2, 43, 380, 381, 61, 0),
  (3, 108, 2, 12, 383, 250, 61, 0),
  (3, 82, 2, 44, 384, 385, 61, 0),
  (3, 144, 2, 84, 561, 562, 61, 0),
  (2, 106, 2, 7, 679, 232, 61, 0),
  (2, 100, 2, 84, 680, 562, 61, 0),
  (2, 80, 2, 28, 711, 312, 61, 0)]
def KIT : List (Nat × Nat × Int32 × Nat) := [(4, 268, -1000001, 238), (4, 125, 99999, 367), (3, 134, 99999, 400), (6, 265, 1431655765, 492), (6, 266, 858993459, 493), (6, 267, 252645135, 494), (3, 147, 1103515245, 560), (5, 41, -1000001, 873), (5, 90, 99999, 969), (5, 190, 1103515245, 1110)]
def KLO : List (Nat × Nat × Int64 × Nat) := [(5, 97, 2, 859), (5, 99, 30, 860), (5, 101, 9999, 864), (5, 46, 5, 881), (5, 48, 7799, 885), (5, 115, 6, 894), (5, 117, 999, 895), (5, 122, 8, 912), (5, 130, 99, 940), (5, 132, 60, 968), (5, 152, 100, 1002), (5, 169, 40, 1057), (5, 171, 20, 1062), (5, 298, 3, 1085), (5, 194, 9, 1115), (5, 199, 4, 1127), (5, 223, 100000000000000000, 1151), (5, 225, 27, 1152), (5, 230, 10, 1156), (5, 232, 48, 1157), (5, 237, 232608281, 1166), (5, 243, 160605414, 1171), (5, 245, 2896470, 1172), (5, 247, 7099884, 1173), (5, 249, 5730863, 1174), (5, 251, 54562550, 1175), (5, 253, 94424607, 1176), (5, 264, 10354323, 1185), (5, 270, 383153, 1194), (5, 272, 312166, 1195), (5, 280, 11716, 1196), (5, 285, 355568, 1201), (5, 293, -1, 1206)]
/-- the texts: entry of the pool of Tape, text -/
def STT : List (Nat × String) := [(34, "pay"), (44, "rate"), (114, "keeper"), (116, "elder"), (118, "miser"), (120, "judge"), (122, "curate"), (124, "forger"), (126, "person"), (70, "small"), (76, "slow"), (78, "owes")]
def STB : List (List Int32) := [[112, 97, 121], [114, 97, 116, 101], [107, 101, 101, 112, 101, 114], [101, 108, 100, 101, 114], [109, 105, 115, 101, 114], [106, 117, 100, 103, 101], [99, 117, 114, 97, 116, 101], [102, 111, 114, 103, 101, 114], [112, 101, 114, 115, 111, 110], [115, 109, 97, 108, 108], [115, 108, 111, 119], [111, 119, 101, 115]]
def NTT : List (Nat × Nat × Nat × Nat × Nat × Nat) := [(11, 7, 4, 74, 75, 61), (4, 7, 3, 82, 83, 62), (3, 27, 0, 88, 90, 63), (4, 26, 2, 156, 157, 64), (4, 33, 1, 182, 184, 65), (11, 10, 5, 794, 795, 66)]
def NWL : List Cond := [.methodLinkNest "WinkPurses$Town" 40 ⟨"WinkPurses$Person", "<init>", "()V"⟩ "WinkPurses", .methodLinkNest "WinkPurses" 28 ⟨"WinkPurses$Tape", "<init>", "()V"⟩ "WinkPurses", .methodLinkNest "WinkPurses" 43 ⟨"WinkPurses$Sheet", "<init>", "()V"⟩ "WinkPurses", .methodLinkNest "WinkPurses$Town" 105 ⟨"WinkPurses", "payerIn", "(I)I"⟩ "WinkPurses", .methodLinkNest "WinkPurses$Town" 108 ⟨"WinkPurses", "payeeIn", "(I)I"⟩ "WinkPurses", .methodLinkNest "WinkPurses$Town" 82 ⟨"WinkPurses", "priceIn", "(I)I"⟩ "WinkPurses", .methodLinkNest "WinkPurses$Town" 144 ⟨"WinkPurses", "paymentOf", "(III)I"⟩ "WinkPurses", .methodLinkNest "WinkPurses$Tape" 106 ⟨"WinkPurses", "within", "(III)Z"⟩ "WinkPurses", .methodLinkNest "WinkPurses$Tape" 100 ⟨"WinkPurses", "paymentOf", "(III)I"⟩ "WinkPurses", .methodLinkNest "WinkPurses$Tape" 80 ⟨"WinkPurses", "mostOf", "(I)I"⟩ "WinkPurses"]
def NWH : List Nat := [91, 158, 185, 380, 383, 384, 561, 679, 680, 711]
def STH : List Nat := [614, 681, 697, 698, 699, 700, 701, 702, 703, 706, 713, 714]
def LYH : List (List Nat) := [[106, 108, 110, 112, 114, 116], [195, 197, 199], [169, 171, 173, 175, 177, 179], [139, 141, 143, 145, 147, 149, 151, 153], [209, 211, 213, 215, 217, 219, 221], [818, 820, 822, 824, 826, 828, 830, 832, 834, 836, 838, 840, 842, 844, 846, 848, 850, 852]]
def ARH : Nat × Nat × Nat × Nat := (119, 715, 89, 183)
def OBH : Nat := 81
