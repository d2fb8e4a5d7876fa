-- ===== PART A: goes FIRST, ahead of the names: the tables' words, and 'selects' of the private methods out of them =====
/-- a private method of a class that the tables say can be made, by its rows of tables_1 -/
def lw_okq (q : MethodName × Nat) : Prop := (q.1.cls ≠ "java/lang/invoke/MethodHandle" ∧ q.1.cls ≠ "java/lang/invoke/VarHandle") ∧ Cond.instantiable q.1.cls q.2 ∈ tables_1 ∧ Cond.privateMethod q.1 ∈ tables_1 ∧ Cond.instanceMethod q.1 ∈ tables_1
theorem lw_p0 : lw_okq (⟨"MilesHall", "isMember", "(I)Z"⟩, 11) := ⟨⟨by decide +kernel, by decide +kernel⟩, List.mem_of_getElem? (i := 24) (by decide +kernel), List.mem_of_getElem? (i := 476) (by decide +kernel), List.mem_of_getElem? (i := 477) (by decide +kernel)⟩
theorem lw_p1 : lw_okq (⟨"MilesHall", "isPast", "(I)Z"⟩, 11) := ⟨⟨by decide +kernel, by decide +kernel⟩, List.mem_of_getElem? (i := 24) (by decide +kernel), List.mem_of_getElem? (i := 520) (by decide +kernel), List.mem_of_getElem? (i := 521) (by decide +kernel)⟩
theorem lw_p2 : lw_okq (⟨"MilesHall$Lines", "putInOrder", "(I)V"⟩, 10) := ⟨⟨by decide +kernel, by decide +kernel⟩, List.mem_of_getElem? (i := 62) (by decide +kernel), List.mem_of_getElem? (i := 537) (by decide +kernel), List.mem_of_getElem? (i := 538) (by decide +kernel)⟩
theorem lw_p3 : lw_okq (⟨"MilesHall", "isLine", "(I)Z"⟩, 11) := ⟨⟨by decide +kernel, by decide +kernel⟩, List.mem_of_getElem? (i := 24) (by decide +kernel), List.mem_of_getElem? (i := 554) (by decide +kernel), List.mem_of_getElem? (i := 555) (by decide +kernel)⟩
theorem lw_p4 : lw_okq (⟨"MilesHall$Ledger", "bringFly", "(LMilesHall$Club;I)I"⟩, 10) := ⟨⟨by decide +kernel, by decide +kernel⟩, List.mem_of_getElem? (i := 270) (by decide +kernel), List.mem_of_getElem? (i := 585) (by decide +kernel), List.mem_of_getElem? (i := 586) (by decide +kernel)⟩
theorem lw_p5 : lw_okq (⟨"MilesHall$Ledger", "tierBy", "(LMilesHall$Terms;I)I"⟩, 10) := ⟨⟨by decide +kernel, by decide +kernel⟩, List.mem_of_getElem? (i := 270) (by decide +kernel), List.mem_of_getElem? (i := 602) (by decide +kernel), List.mem_of_getElem? (i := 603) (by decide +kernel)⟩
theorem lw_p6 : lw_okq (⟨"MilesHall$Figures", "push", "(I)V"⟩, 11) := ⟨⟨by decide +kernel, by decide +kernel⟩, List.mem_of_getElem? (i := 276) (by decide +kernel), List.mem_of_getElem? (i := 619) (by decide +kernel), List.mem_of_getElem? (i := 620) (by decide +kernel)⟩
theorem lw_p7 : lw_okq (⟨"MilesHall$Figures", "named", "(I)I"⟩, 11) := ⟨⟨by decide +kernel, by decide +kernel⟩, List.mem_of_getElem? (i := 276) (by decide +kernel), List.mem_of_getElem? (i := 624) (by decide +kernel), List.mem_of_getElem? (i := 625) (by decide +kernel)⟩
theorem lw_p8 : lw_okq (⟨"MilesHall$Figures", "pop", "()I"⟩, 11) := ⟨⟨by decide +kernel, by decide +kernel⟩, List.mem_of_getElem? (i := 276) (by decide +kernel), List.mem_of_getElem? (i := 628) (by decide +kernel), List.mem_of_getElem? (i := 629) (by decide +kernel)⟩
theorem lw_p9 : lw_okq (⟨"MilesHall$Ledger", "come", "(III)V"⟩, 10) := ⟨⟨by decide +kernel, by decide +kernel⟩, List.mem_of_getElem? (i := 270) (by decide +kernel), List.mem_of_getElem? (i := 651) (by decide +kernel), List.mem_of_getElem? (i := 652) (by decide +kernel)⟩
theorem lw_p10 : lw_okq (⟨"MilesHall$Ledger", "isAhead", "(III)Z"⟩, 10) := ⟨⟨by decide +kernel, by decide +kernel⟩, List.mem_of_getElem? (i := 270) (by decide +kernel), List.mem_of_getElem? (i := 655) (by decide +kernel), List.mem_of_getElem? (i := 656) (by decide +kernel)⟩
theorem lw_p11 : lw_okq (⟨"MilesHall$Ledger", "bringSpend", "(LMilesHall$Club;I)I"⟩, 10) := ⟨⟨by decide +kernel, by decide +kernel⟩, List.mem_of_getElem? (i := 270) (by decide +kernel), List.mem_of_getElem? (i := 659) (by decide +kernel), List.mem_of_getElem? (i := 660) (by decide +kernel)⟩
theorem lw_p12 : lw_okq (⟨"MilesHall$Ledger", "isFor", "(LMilesHall$Members;IZI)Z"⟩, 10) := ⟨⟨by decide +kernel, by decide +kernel⟩, List.mem_of_getElem? (i := 270) (by decide +kernel), List.mem_of_getElem? (i := 667) (by decide +kernel), List.mem_of_getElem? (i := 668) (by decide +kernel)⟩
theorem lw_p13 : lw_okq (⟨"MilesHall$Ledger", "bringGift", "(LMilesHall$Club;I)I"⟩, 10) := ⟨⟨by decide +kernel, by decide +kernel⟩, List.mem_of_getElem? (i := 270) (by decide +kernel), List.mem_of_getElem? (i := 681) (by decide +kernel), List.mem_of_getElem? (i := 682) (by decide +kernel)⟩
theorem lw_p14 : lw_okq (⟨"MilesHall$Ledger", "bringBack", "(LMilesHall$Club;I)I"⟩, 10) := ⟨⟨by decide +kernel, by decide +kernel⟩, List.mem_of_getElem? (i := 270) (by decide +kernel), List.mem_of_getElem? (i := 685) (by decide +kernel), List.mem_of_getElem? (i := 686) (by decide +kernel)⟩
theorem lw_p15 : lw_okq (⟨"MilesHall$Tape", "next", "()V"⟩, 14) := ⟨⟨by decide +kernel, by decide +kernel⟩, List.mem_of_getElem? (i := 369) (by decide +kernel), List.mem_of_getElem? (i := 734) (by decide +kernel), List.mem_of_getElem? (i := 735) (by decide +kernel)⟩
def lw_privs_1 : List (MethodName × Nat) := [(⟨"MilesHall", "isMember", "(I)Z"⟩, 11), (⟨"MilesHall", "isPast", "(I)Z"⟩, 11), (⟨"MilesHall$Lines", "putInOrder", "(I)V"⟩, 10), (⟨"MilesHall", "isLine", "(I)Z"⟩, 11), (⟨"MilesHall$Ledger", "bringFly", "(LMilesHall$Club;I)I"⟩, 10), (⟨"MilesHall$Ledger", "tierBy", "(LMilesHall$Terms;I)I"⟩, 10), (⟨"MilesHall$Figures", "push", "(I)V"⟩, 11), (⟨"MilesHall$Figures", "named", "(I)I"⟩, 11), (⟨"MilesHall$Figures", "pop", "()I"⟩, 11), (⟨"MilesHall$Ledger", "come", "(III)V"⟩, 10), (⟨"MilesHall$Ledger", "isAhead", "(III)Z"⟩, 10), (⟨"MilesHall$Ledger", "bringSpend", "(LMilesHall$Club;I)I"⟩, 10), (⟨"MilesHall$Ledger", "isFor", "(LMilesHall$Members;IZI)Z"⟩, 10), (⟨"MilesHall$Ledger", "bringGift", "(LMilesHall$Club;I)I"⟩, 10), (⟨"MilesHall$Ledger", "bringBack", "(LMilesHall$Club;I)I"⟩, 10), (⟨"MilesHall$Tape", "next", "()V"⟩, 14)]
theorem lw_r1 : ∀ q ∈ lw_privs_1, lw_okq q := List.forall_mem_cons.mpr ⟨lw_p0, List.forall_mem_cons.mpr ⟨lw_p1, List.forall_mem_cons.mpr ⟨lw_p2, List.forall_mem_cons.mpr ⟨lw_p3, List.forall_mem_cons.mpr ⟨lw_p4, List.forall_mem_cons.mpr ⟨lw_p5, List.forall_mem_cons.mpr ⟨lw_p6, List.forall_mem_cons.mpr ⟨lw_p7, List.forall_mem_cons.mpr ⟨lw_p8, List.forall_mem_cons.mpr ⟨lw_p9, List.forall_mem_cons.mpr ⟨lw_p10, List.forall_mem_cons.mpr ⟨lw_p11, List.forall_mem_cons.mpr ⟨lw_p12, List.forall_mem_cons.mpr ⟨lw_p13, List.forall_mem_cons.mpr ⟨lw_p14, List.forall_mem_cons.mpr ⟨lw_p15, fun _ h => absurd h List.not_mem_nil⟩⟩⟩⟩⟩⟩⟩⟩⟩⟩⟩⟩⟩⟩⟩⟩
theorem lw_p16 : lw_okq (⟨"MilesHall$Tape", "isWordKind", "()Z"⟩, 14) := ⟨⟨by decide +kernel, by decide +kernel⟩, List.mem_of_getElem? (i := 369) (by decide +kernel), List.mem_of_getElem? (i := 738) (by decide +kernel), List.mem_of_getElem? (i := 739) (by decide +kernel)⟩
theorem lw_p17 : lw_okq (⟨"MilesHall$Tape", "behindBlanks", "(I)I"⟩, 14) := ⟨⟨by decide +kernel, by decide +kernel⟩, List.mem_of_getElem? (i := 369) (by decide +kernel), List.mem_of_getElem? (i := 742) (by decide +kernel), List.mem_of_getElem? (i := 743) (by decide +kernel)⟩
theorem lw_p18 : lw_okq (⟨"MilesHall$Tape", "kindAt", "(I)I"⟩, 14) := ⟨⟨by decide +kernel, by decide +kernel⟩, List.mem_of_getElem? (i := 369) (by decide +kernel), List.mem_of_getElem? (i := 746) (by decide +kernel), List.mem_of_getElem? (i := 747) (by decide +kernel)⟩
theorem lw_p19 : lw_okq (⟨"MilesHall$Tape", "behindKind", "(I)I"⟩, 14) := ⟨⟨by decide +kernel, by decide +kernel⟩, List.mem_of_getElem? (i := 369) (by decide +kernel), List.mem_of_getElem? (i := 750) (by decide +kernel), List.mem_of_getElem? (i := 751) (by decide +kernel)⟩
theorem lw_p20 : lw_okq (⟨"MilesHall$Tape", "isWord", "(Ljava/lang/String;)Z"⟩, 14) := ⟨⟨by decide +kernel, by decide +kernel⟩, List.mem_of_getElem? (i := 369) (by decide +kernel), List.mem_of_getElem? (i := 762) (by decide +kernel), List.mem_of_getElem? (i := 763) (by decide +kernel)⟩
theorem lw_p21 : lw_okq (⟨"MilesHall$Tape", "isJoined", "(I)Z"⟩, 14) := ⟨⟨by decide +kernel, by decide +kernel⟩, List.mem_of_getElem? (i := 369) (by decide +kernel), List.mem_of_getElem? (i := 821) (by decide +kernel), List.mem_of_getElem? (i := 822) (by decide +kernel)⟩
theorem lw_p22 : lw_okq (⟨"MilesHall$Tape", "isPart", "()Z"⟩, 14) := ⟨⟨by decide +kernel, by decide +kernel⟩, List.mem_of_getElem? (i := 369) (by decide +kernel), List.mem_of_getElem? (i := 825) (by decide +kernel), List.mem_of_getElem? (i := 826) (by decide +kernel)⟩
theorem lw_p23 : lw_okq (⟨"MilesHall$Tape", "isSignOf", "(Ljava/lang/String;)Z"⟩, 14) := ⟨⟨by decide +kernel, by decide +kernel⟩, List.mem_of_getElem? (i := 369) (by decide +kernel), List.mem_of_getElem? (i := 830) (by decide +kernel), List.mem_of_getElem? (i := 831) (by decide +kernel)⟩
theorem lw_p24 : lw_okq (⟨"MilesHall$Tape", "letter", "()C"⟩, 14) := ⟨⟨by decide +kernel, by decide +kernel⟩, List.mem_of_getElem? (i := 369) (by decide +kernel), List.mem_of_getElem? (i := 834) (by decide +kernel), List.mem_of_getElem? (i := 835) (by decide +kernel)⟩
theorem lw_p25 : lw_okq (⟨"MilesHall$Tape", "isNot", "()Z"⟩, 14) := ⟨⟨by decide +kernel, by decide +kernel⟩, List.mem_of_getElem? (i := 369) (by decide +kernel), List.mem_of_getElem? (i := 893) (by decide +kernel), List.mem_of_getElem? (i := 894) (by decide +kernel)⟩
theorem lw_p26 : lw_okq (⟨"MilesHall$Tape", "emit", "(I)V"⟩, 14) := ⟨⟨by decide +kernel, by decide +kernel⟩, List.mem_of_getElem? (i := 369) (by decide +kernel), List.mem_of_getElem? (i := 897) (by decide +kernel), List.mem_of_getElem? (i := 898) (by decide +kernel)⟩
theorem lw_p27 : lw_okq (⟨"MilesHall$Tape", "isInParens", "()Z"⟩, 14) := ⟨⟨by decide +kernel, by decide +kernel⟩, List.mem_of_getElem? (i := 369) (by decide +kernel), List.mem_of_getElem? (i := 902) (by decide +kernel), List.mem_of_getElem? (i := 903) (by decide +kernel)⟩
theorem lw_p28 : lw_okq (⟨"MilesHall$Tape", "isNumberOrName", "()Z"⟩, 14) := ⟨⟨by decide +kernel, by decide +kernel⟩, List.mem_of_getElem? (i := 369) (by decide +kernel), List.mem_of_getElem? (i := 907) (by decide +kernel), List.mem_of_getElem? (i := 908) (by decide +kernel)⟩
theorem lw_p29 : lw_okq (⟨"MilesHall$Tape", "number", "()I"⟩, 14) := ⟨⟨by decide +kernel, by decide +kernel⟩, List.mem_of_getElem? (i := 369) (by decide +kernel), List.mem_of_getElem? (i := 911) (by decide +kernel), List.mem_of_getElem? (i := 912) (by decide +kernel)⟩
theorem lw_p30 : lw_okq (⟨"MilesHall", "isFlight", "(I)Z"⟩, 11) := ⟨⟨by decide +kernel, by decide +kernel⟩, List.mem_of_getElem? (i := 24) (by decide +kernel), List.mem_of_getElem? (i := 960) (by decide +kernel), List.mem_of_getElem? (i := 961) (by decide +kernel)⟩
theorem lw_p31 : lw_okq (⟨"MilesHall", "rankAsks", "(I)V"⟩, 11) := ⟨⟨by decide +kernel, by decide +kernel⟩, List.mem_of_getElem? (i := 24) (by decide +kernel), List.mem_of_getElem? (i := 973) (by decide +kernel), List.mem_of_getElem? (i := 974) (by decide +kernel)⟩
def lw_privs_2 : List (MethodName × Nat) := [(⟨"MilesHall$Tape", "isWordKind", "()Z"⟩, 14), (⟨"MilesHall$Tape", "behindBlanks", "(I)I"⟩, 14), (⟨"MilesHall$Tape", "kindAt", "(I)I"⟩, 14), (⟨"MilesHall$Tape", "behindKind", "(I)I"⟩, 14), (⟨"MilesHall$Tape", "isWord", "(Ljava/lang/String;)Z"⟩, 14), (⟨"MilesHall$Tape", "isJoined", "(I)Z"⟩, 14), (⟨"MilesHall$Tape", "isPart", "()Z"⟩, 14), (⟨"MilesHall$Tape", "isSignOf", "(Ljava/lang/String;)Z"⟩, 14), (⟨"MilesHall$Tape", "letter", "()C"⟩, 14), (⟨"MilesHall$Tape", "isNot", "()Z"⟩, 14), (⟨"MilesHall$Tape", "emit", "(I)V"⟩, 14), (⟨"MilesHall$Tape", "isInParens", "()Z"⟩, 14), (⟨"MilesHall$Tape", "isNumberOrName", "()Z"⟩, 14), (⟨"MilesHall$Tape", "number", "()I"⟩, 14), (⟨"MilesHall", "isFlight", "(I)Z"⟩, 11), (⟨"MilesHall", "rankAsks", "(I)V"⟩, 11)]
theorem lw_r2 : ∀ q ∈ lw_privs_2, lw_okq q := List.forall_mem_cons.mpr ⟨lw_p16, List.forall_mem_cons.mpr ⟨lw_p17, List.forall_mem_cons.mpr ⟨lw_p18, List.forall_mem_cons.mpr ⟨lw_p19, List.forall_mem_cons.mpr ⟨lw_p20, List.forall_mem_cons.mpr ⟨lw_p21, List.forall_mem_cons.mpr ⟨lw_p22, List.forall_mem_cons.mpr ⟨lw_p23, List.forall_mem_cons.mpr ⟨lw_p24, List.forall_mem_cons.mpr ⟨lw_p25, List.forall_mem_cons.mpr ⟨lw_p26, List.forall_mem_cons.mpr ⟨lw_p27, List.forall_mem_cons.mpr ⟨lw_p28, List.forall_mem_cons.mpr ⟨lw_p29, List.forall_mem_cons.mpr ⟨lw_p30, List.forall_mem_cons.mpr ⟨lw_p31, fun _ h => absurd h List.not_mem_nil⟩⟩⟩⟩⟩⟩⟩⟩⟩⟩⟩⟩⟩⟩⟩⟩
theorem lw_p32 : lw_okq (⟨"MilesHall", "hasSeatNow", "(II)Z"⟩, 11) := ⟨⟨by decide +kernel, by decide +kernel⟩, List.mem_of_getElem? (i := 24) (by decide +kernel), List.mem_of_getElem? (i := 977) (by decide +kernel), List.mem_of_getElem? (i := 978) (by decide +kernel)⟩
theorem lw_p33 : lw_okq (⟨"MilesHall", "isPaid", "(III)Z"⟩, 11) := ⟨⟨by decide +kernel, by decide +kernel⟩, List.mem_of_getElem? (i := 24) (by decide +kernel), List.mem_of_getElem? (i := 985) (by decide +kernel), List.mem_of_getElem? (i := 986) (by decide +kernel)⟩
theorem lw_p34 : lw_okq (⟨"MilesHall$Ways", "solve", "(LMilesHall$Offers;I)V"⟩, 2) := ⟨⟨by decide +kernel, by decide +kernel⟩, List.mem_of_getElem? (i := 355) (by decide +kernel), List.mem_of_getElem? (i := 1024) (by decide +kernel), List.mem_of_getElem? (i := 1025) (by decide +kernel)⟩
theorem lw_p35 : lw_okq (⟨"MilesHall$Ways", "addPack", "(IIJ)V"⟩, 2) := ⟨⟨by decide +kernel, by decide +kernel⟩, List.mem_of_getElem? (i := 355) (by decide +kernel), List.mem_of_getElem? (i := 1042) (by decide +kernel), List.mem_of_getElem? (i := 1043) (by decide +kernel)⟩
theorem lw_p36 : lw_okq (⟨"MilesHall$Members", "hangingWith", "(I)I"⟩, 4) := ⟨⟨by decide +kernel, by decide +kernel⟩, List.mem_of_getElem? (i := 38) (by decide +kernel), List.mem_of_getElem? (i := 1075) (by decide +kernel), List.mem_of_getElem? (i := 1076) (by decide +kernel)⟩
theorem lw_p37 : lw_okq (⟨"MilesHallModel", "isMember", "(I)Z"⟩, 39) := ⟨⟨by decide +kernel, by decide +kernel⟩, List.mem_of_getElem? (i := 1156) (by decide +kernel), List.mem_of_getElem? (i := 1294) (by decide +kernel), List.mem_of_getElem? (i := 1295) (by decide +kernel)⟩
theorem lw_p38 : lw_okq (⟨"MilesHallModel", "isPast", "(I)Z"⟩, 39) := ⟨⟨by decide +kernel, by decide +kernel⟩, List.mem_of_getElem? (i := 1156) (by decide +kernel), List.mem_of_getElem? (i := 1330) (by decide +kernel), List.mem_of_getElem? (i := 1331) (by decide +kernel)⟩
theorem lw_p39 : lw_okq (⟨"MilesHallModel", "tells", "(IIIIII)I"⟩, 39) := ⟨⟨by decide +kernel, by decide +kernel⟩, List.mem_of_getElem? (i := 1156) (by decide +kernel), List.mem_of_getElem? (i := 1334) (by decide +kernel), List.mem_of_getElem? (i := 1335) (by decide +kernel)⟩
theorem lw_p40 : lw_okq (⟨"MilesHallModel", "isLine", "(I)Z"⟩, 39) := ⟨⟨by decide +kernel, by decide +kernel⟩, List.mem_of_getElem? (i := 1156) (by decide +kernel), List.mem_of_getElem? (i := 1351) (by decide +kernel), List.mem_of_getElem? (i := 1352) (by decide +kernel)⟩
theorem lw_p41 : lw_okq (⟨"MilesHallModel", "next", "()V"⟩, 39) := ⟨⟨by decide +kernel, by decide +kernel⟩, List.mem_of_getElem? (i := 1156) (by decide +kernel), List.mem_of_getElem? (i := 1379) (by decide +kernel), List.mem_of_getElem? (i := 1380) (by decide +kernel)⟩
theorem lw_p42 : lw_okq (⟨"MilesHallModel", "wrong", "()V"⟩, 39) := ⟨⟨by decide +kernel, by decide +kernel⟩, List.mem_of_getElem? (i := 1156) (by decide +kernel), List.mem_of_getElem? (i := 1386) (by decide +kernel), List.mem_of_getElem? (i := 1387) (by decide +kernel)⟩
theorem lw_p43 : lw_okq (⟨"MilesHallModel", "isWord", "(IIIII)Z"⟩, 39) := ⟨⟨by decide +kernel, by decide +kernel⟩, List.mem_of_getElem? (i := 1156) (by decide +kernel), List.mem_of_getElem? (i := 1390) (by decide +kernel), List.mem_of_getElem? (i := 1391) (by decide +kernel)⟩
theorem lw_p44 : lw_okq (⟨"MilesHallModel", "isLetter", "(II)Z"⟩, 39) := ⟨⟨by decide +kernel, by decide +kernel⟩, List.mem_of_getElem? (i := 1156) (by decide +kernel), List.mem_of_getElem? (i := 1394) (by decide +kernel), List.mem_of_getElem? (i := 1395) (by decide +kernel)⟩
theorem lw_p45 : lw_okq (⟨"MilesHallModel", "reads", "(IZ)V"⟩, 39) := ⟨⟨by decide +kernel, by decide +kernel⟩, List.mem_of_getElem? (i := 1156) (by decide +kernel), List.mem_of_getElem? (i := 1398) (by decide +kernel), List.mem_of_getElem? (i := 1399) (by decide +kernel)⟩
theorem lw_p46 : lw_okq (⟨"MilesHallModel", "expression", "()V"⟩, 39) := ⟨⟨by decide +kernel, by decide +kernel⟩, List.mem_of_getElem? (i := 1156) (by decide +kernel), List.mem_of_getElem? (i := 1402) (by decide +kernel), List.mem_of_getElem? (i := 1403) (by decide +kernel)⟩
theorem lw_p47 : lw_okq (⟨"MilesHallModel", "begins", "()Z"⟩, 39) := ⟨⟨by decide +kernel, by decide +kernel⟩, List.mem_of_getElem? (i := 1156) (by decide +kernel), List.mem_of_getElem? (i := 1406) (by decide +kernel), List.mem_of_getElem? (i := 1407) (by decide +kernel)⟩
def lw_privs_3 : List (MethodName × Nat) := [(⟨"MilesHall", "hasSeatNow", "(II)Z"⟩, 11), (⟨"MilesHall", "isPaid", "(III)Z"⟩, 11), (⟨"MilesHall$Ways", "solve", "(LMilesHall$Offers;I)V"⟩, 2), (⟨"MilesHall$Ways", "addPack", "(IIJ)V"⟩, 2), (⟨"MilesHall$Members", "hangingWith", "(I)I"⟩, 4), (⟨"MilesHallModel", "isMember", "(I)Z"⟩, 39), (⟨"MilesHallModel", "isPast", "(I)Z"⟩, 39), (⟨"MilesHallModel", "tells", "(IIIIII)I"⟩, 39), (⟨"MilesHallModel", "isLine", "(I)Z"⟩, 39), (⟨"MilesHallModel", "next", "()V"⟩, 39), (⟨"MilesHallModel", "wrong", "()V"⟩, 39), (⟨"MilesHallModel", "isWord", "(IIIII)Z"⟩, 39), (⟨"MilesHallModel", "isLetter", "(II)Z"⟩, 39), (⟨"MilesHallModel", "reads", "(IZ)V"⟩, 39), (⟨"MilesHallModel", "expression", "()V"⟩, 39), (⟨"MilesHallModel", "begins", "()Z"⟩, 39)]
theorem lw_r3 : ∀ q ∈ lw_privs_3, lw_okq q := List.forall_mem_cons.mpr ⟨lw_p32, List.forall_mem_cons.mpr ⟨lw_p33, List.forall_mem_cons.mpr ⟨lw_p34, List.forall_mem_cons.mpr ⟨lw_p35, List.forall_mem_cons.mpr ⟨lw_p36, List.forall_mem_cons.mpr ⟨lw_p37, List.forall_mem_cons.mpr ⟨lw_p38, List.forall_mem_cons.mpr ⟨lw_p39, List.forall_mem_cons.mpr ⟨lw_p40, List.forall_mem_cons.mpr ⟨lw_p41, List.forall_mem_cons.mpr ⟨lw_p42, List.forall_mem_cons.mpr ⟨lw_p43, List.forall_mem_cons.mpr ⟨lw_p44, List.forall_mem_cons.mpr ⟨lw_p45, List.forall_mem_cons.mpr ⟨lw_p46, List.forall_mem_cons.mpr ⟨lw_p47, fun _ h => absurd h List.not_mem_nil⟩⟩⟩⟩⟩⟩⟩⟩⟩⟩⟩⟩⟩⟩⟩⟩
theorem lw_p48 : lw_okq (⟨"MilesHallModel", "isSign", "(I)Z"⟩, 39) := ⟨⟨by decide +kernel, by decide +kernel⟩, List.mem_of_getElem? (i := 1156) (by decide +kernel), List.mem_of_getElem? (i := 1410) (by decide +kernel), List.mem_of_getElem? (i := 1411) (by decide +kernel)⟩
theorem lw_p49 : lw_okq (⟨"MilesHallModel", "emit", "(II)V"⟩, 39) := ⟨⟨by decide +kernel, by decide +kernel⟩, List.mem_of_getElem? (i := 1156) (by decide +kernel), List.mem_of_getElem? (i := 1414) (by decide +kernel), List.mem_of_getElem? (i := 1415) (by decide +kernel)⟩
theorem lw_p50 : lw_okq (⟨"MilesHallModel", "isName", "(I)Z"⟩, 39) := ⟨⟨by decide +kernel, by decide +kernel⟩, List.mem_of_getElem? (i := 1156) (by decide +kernel), List.mem_of_getElem? (i := 1418) (by decide +kernel), List.mem_of_getElem? (i := 1419) (by decide +kernel)⟩
theorem lw_p51 : lw_okq (⟨"MilesHallModel", "parted", "()V"⟩, 39) := ⟨⟨by decide +kernel, by decide +kernel⟩, List.mem_of_getElem? (i := 1156) (by decide +kernel), List.mem_of_getElem? (i := 1422) (by decide +kernel), List.mem_of_getElem? (i := 1423) (by decide +kernel)⟩
theorem lw_p52 : lw_okq (⟨"MilesHallModel", "signHere", "()I"⟩, 39) := ⟨⟨by decide +kernel, by decide +kernel⟩, List.mem_of_getElem? (i := 1156) (by decide +kernel), List.mem_of_getElem? (i := 1426) (by decide +kernel), List.mem_of_getElem? (i := 1427) (by decide +kernel)⟩
theorem lw_p53 : lw_okq (⟨"MilesHallModel", "works", "(I)V"⟩, 39) := ⟨⟨by decide +kernel, by decide +kernel⟩, List.mem_of_getElem? (i := 1156) (by decide +kernel), List.mem_of_getElem? (i := 1430) (by decide +kernel), List.mem_of_getElem? (i := 1431) (by decide +kernel)⟩
theorem lw_p54 : lw_okq (⟨"MilesHallModel", "stand", "(II)V"⟩, 39) := ⟨⟨by decide +kernel, by decide +kernel⟩, List.mem_of_getElem? (i := 1156) (by decide +kernel), List.mem_of_getElem? (i := 1438) (by decide +kernel), List.mem_of_getElem? (i := 1439) (by decide +kernel)⟩
theorem lw_p55 : lw_okq (⟨"MilesHallModel", "isKnown", "(II)Z"⟩, 39) := ⟨⟨by decide +kernel, by decide +kernel⟩, List.mem_of_getElem? (i := 1156) (by decide +kernel), List.mem_of_getElem? (i := 1442) (by decide +kernel), List.mem_of_getElem? (i := 1443) (by decide +kernel)⟩
theorem lw_p56 : lw_okq (⟨"MilesHallModel", "happens", "(I)V"⟩, 39) := ⟨⟨by decide +kernel, by decide +kernel⟩, List.mem_of_getElem? (i := 1156) (by decide +kernel), List.mem_of_getElem? (i := 1446) (by decide +kernel), List.mem_of_getElem? (i := 1447) (by decide +kernel)⟩
theorem lw_p57 : lw_okq (⟨"MilesHallModel", "flies", "(I)V"⟩, 39) := ⟨⟨by decide +kernel, by decide +kernel⟩, List.mem_of_getElem? (i := 1156) (by decide +kernel), List.mem_of_getElem? (i := 1450) (by decide +kernel), List.mem_of_getElem? (i := 1451) (by decide +kernel)⟩
theorem lw_p58 : lw_okq (⟨"MilesHallModel", "termsOn", "(I)I"⟩, 39) := ⟨⟨by decide +kernel, by decide +kernel⟩, List.mem_of_getElem? (i := 1156) (by decide +kernel), List.mem_of_getElem? (i := 1454) (by decide +kernel), List.mem_of_getElem? (i := 1455) (by decide +kernel)⟩
theorem lw_p59 : lw_okq (⟨"MilesHallModel", "tierOn", "(II)I"⟩, 39) := ⟨⟨by decide +kernel, by decide +kernel⟩, List.mem_of_getElem? (i := 1156) (by decide +kernel), List.mem_of_getElem? (i := 1458) (by decide +kernel), List.mem_of_getElem? (i := 1459) (by decide +kernel)⟩
theorem lw_p60 : lw_okq (⟨"MilesHallModel", "tierBy", "(II)I"⟩, 39) := ⟨⟨by decide +kernel, by decide +kernel⟩, List.mem_of_getElem? (i := 1156) (by decide +kernel), List.mem_of_getElem? (i := 1462) (by decide +kernel), List.mem_of_getElem? (i := 1463) (by decide +kernel)⟩
theorem lw_p61 : lw_okq (⟨"MilesHallModel", "worked", "(II)I"⟩, 39) := ⟨⟨by decide +kernel, by decide +kernel⟩, List.mem_of_getElem? (i := 1156) (by decide +kernel), List.mem_of_getElem? (i := 1466) (by decide +kernel), List.mem_of_getElem? (i := 1467) (by decide +kernel)⟩
theorem lw_p62 : lw_okq (⟨"MilesHallModel", "comes", "(III)V"⟩, 39) := ⟨⟨by decide +kernel, by decide +kernel⟩, List.mem_of_getElem? (i := 1156) (by decide +kernel), List.mem_of_getElem? (i := 1479) (by decide +kernel), List.mem_of_getElem? (i := 1480) (by decide +kernel)⟩
theorem lw_p63 : lw_okq (⟨"MilesHallModel", "there", "(IIZ)J"⟩, 39) := ⟨⟨by decide +kernel, by decide +kernel⟩, List.mem_of_getElem? (i := 1156) (by decide +kernel), List.mem_of_getElem? (i := 1483) (by decide +kernel), List.mem_of_getElem? (i := 1484) (by decide +kernel)⟩
def lw_privs_4 : List (MethodName × Nat) := [(⟨"MilesHallModel", "isSign", "(I)Z"⟩, 39), (⟨"MilesHallModel", "emit", "(II)V"⟩, 39), (⟨"MilesHallModel", "isName", "(I)Z"⟩, 39), (⟨"MilesHallModel", "parted", "()V"⟩, 39), (⟨"MilesHallModel", "signHere", "()I"⟩, 39), (⟨"MilesHallModel", "works", "(I)V"⟩, 39), (⟨"MilesHallModel", "stand", "(II)V"⟩, 39), (⟨"MilesHallModel", "isKnown", "(II)Z"⟩, 39), (⟨"MilesHallModel", "happens", "(I)V"⟩, 39), (⟨"MilesHallModel", "flies", "(I)V"⟩, 39), (⟨"MilesHallModel", "termsOn", "(I)I"⟩, 39), (⟨"MilesHallModel", "tierOn", "(II)I"⟩, 39), (⟨"MilesHallModel", "tierBy", "(II)I"⟩, 39), (⟨"MilesHallModel", "worked", "(II)I"⟩, 39), (⟨"MilesHallModel", "comes", "(III)V"⟩, 39), (⟨"MilesHallModel", "there", "(IIZ)J"⟩, 39)]
theorem lw_r4 : ∀ q ∈ lw_privs_4, lw_okq q := List.forall_mem_cons.mpr ⟨lw_p48, List.forall_mem_cons.mpr ⟨lw_p49, List.forall_mem_cons.mpr ⟨lw_p50, List.forall_mem_cons.mpr ⟨lw_p51, List.forall_mem_cons.mpr ⟨lw_p52, List.forall_mem_cons.mpr ⟨lw_p53, List.forall_mem_cons.mpr ⟨lw_p54, List.forall_mem_cons.mpr ⟨lw_p55, List.forall_mem_cons.mpr ⟨lw_p56, List.forall_mem_cons.mpr ⟨lw_p57, List.forall_mem_cons.mpr ⟨lw_p58, List.forall_mem_cons.mpr ⟨lw_p59, List.forall_mem_cons.mpr ⟨lw_p60, List.forall_mem_cons.mpr ⟨lw_p61, List.forall_mem_cons.mpr ⟨lw_p62, List.forall_mem_cons.mpr ⟨lw_p63, fun _ h => absurd h List.not_mem_nil⟩⟩⟩⟩⟩⟩⟩⟩⟩⟩⟩⟩⟩⟩⟩⟩
theorem lw_p64 : lw_okq (⟨"MilesHallModel", "isOwn", "(IIZ)Z"⟩, 39) := ⟨⟨by decide +kernel, by decide +kernel⟩, List.mem_of_getElem? (i := 1156) (by decide +kernel), List.mem_of_getElem? (i := 1487) (by decide +kernel), List.mem_of_getElem? (i := 1488) (by decide +kernel)⟩
theorem lw_p65 : lw_okq (⟨"MilesHallModel", "takes", "(IIIZ)I"⟩, 39) := ⟨⟨by decide +kernel, by decide +kernel⟩, List.mem_of_getElem? (i := 1156) (by decide +kernel), List.mem_of_getElem? (i := 1491) (by decide +kernel), List.mem_of_getElem? (i := 1492) (by decide +kernel)⟩
theorem lw_p66 : lw_okq (⟨"MilesHallModel", "isFlight", "(I)Z"⟩, 39) := ⟨⟨by decide +kernel, by decide +kernel⟩, List.mem_of_getElem? (i := 1156) (by decide +kernel), List.mem_of_getElem? (i := 1516) (by decide +kernel), List.mem_of_getElem? (i := 1517) (by decide +kernel)⟩
theorem lw_p67 : lw_okq (⟨"MilesHallModel", "pays", "(I)Z"⟩, 39) := ⟨⟨by decide +kernel, by decide +kernel⟩, List.mem_of_getElem? (i := 1156) (by decide +kernel), List.mem_of_getElem? (i := 1524) (by decide +kernel), List.mem_of_getElem? (i := 1525) (by decide +kernel)⟩
theorem lw_p68 : lw_okq (⟨"MilesHallModel", "priceFor", "(I)I"⟩, 39) := ⟨⟨by decide +kernel, by decide +kernel⟩, List.mem_of_getElem? (i := 1156) (by decide +kernel), List.mem_of_getElem? (i := 1528) (by decide +kernel), List.mem_of_getElem? (i := 1529) (by decide +kernel)⟩
theorem lw_p69 : lw_okq (⟨"MilesHallModel", "findWay", "(I)I"⟩, 39) := ⟨⟨by decide +kernel, by decide +kernel⟩, List.mem_of_getElem? (i := 1156) (by decide +kernel), List.mem_of_getElem? (i := 1552) (by decide +kernel), List.mem_of_getElem? (i := 1553) (by decide +kernel)⟩
theorem lw_p70 : lw_okq (⟨"MilesHallModel", "findWays", "(I)V"⟩, 39) := ⟨⟨by decide +kernel, by decide +kernel⟩, List.mem_of_getElem? (i := 1156) (by decide +kernel), List.mem_of_getElem? (i := 1556) (by decide +kernel), List.mem_of_getElem? (i := 1557) (by decide +kernel)⟩
theorem lw_p71 : lw_okq (⟨"MilesHallModel", "wayBy", "(III)I"⟩, 39) := ⟨⟨by decide +kernel, by decide +kernel⟩, List.mem_of_getElem? (i := 1156) (by decide +kernel), List.mem_of_getElem? (i := 1561) (by decide +kernel), List.mem_of_getElem? (i := 1562) (by decide +kernel)⟩
theorem lw_p72 : lw_okq (⟨"MilesHallModel", "ringOf", "(I)I"⟩, 39) := ⟨⟨by decide +kernel, by decide +kernel⟩, List.mem_of_getElem? (i := 1156) (by decide +kernel), List.mem_of_getElem? (i := 1581) (by decide +kernel), List.mem_of_getElem? (i := 1582) (by decide +kernel)⟩
def lw_privs_5 : List (MethodName × Nat) := [(⟨"MilesHallModel", "isOwn", "(IIZ)Z"⟩, 39), (⟨"MilesHallModel", "takes", "(IIIZ)I"⟩, 39), (⟨"MilesHallModel", "isFlight", "(I)Z"⟩, 39), (⟨"MilesHallModel", "pays", "(I)Z"⟩, 39), (⟨"MilesHallModel", "priceFor", "(I)I"⟩, 39), (⟨"MilesHallModel", "findWay", "(I)I"⟩, 39), (⟨"MilesHallModel", "findWays", "(I)V"⟩, 39), (⟨"MilesHallModel", "wayBy", "(III)I"⟩, 39), (⟨"MilesHallModel", "ringOf", "(I)I"⟩, 39)]
theorem lw_r5 : ∀ q ∈ lw_privs_5, lw_okq q := List.forall_mem_cons.mpr ⟨lw_p64, List.forall_mem_cons.mpr ⟨lw_p65, List.forall_mem_cons.mpr ⟨lw_p66, List.forall_mem_cons.mpr ⟨lw_p67, List.forall_mem_cons.mpr ⟨lw_p68, List.forall_mem_cons.mpr ⟨lw_p69, List.forall_mem_cons.mpr ⟨lw_p70, List.forall_mem_cons.mpr ⟨lw_p71, List.forall_mem_cons.mpr ⟨lw_p72, fun _ h => absurd h List.not_mem_nil⟩⟩⟩⟩⟩⟩⟩⟩⟩
def lw_privs : List (MethodName × Nat) := lw_privs_1 ++ (lw_privs_2 ++ (lw_privs_3 ++ (lw_privs_4 ++ (lw_privs_5))))
def lw_tbl : List Cond := k2_sels lw_privs ++ tables_1
theorem lw_privs_ok : ∀ q ∈ lw_privs, lw_okq q := by
  show ∀ q ∈ lw_privs_1 ++ (lw_privs_2 ++ (lw_privs_3 ++ (lw_privs_4 ++ (lw_privs_5)))), lw_okq q
  exact List.forall_mem_append.mpr ⟨lw_r1, List.forall_mem_append.mpr ⟨lw_r2, List.forall_mem_append.mpr ⟨lw_r3, List.forall_mem_append.mpr ⟨lw_r4, lw_r5⟩⟩⟩⟩
-- ===== end of PART A; then your names; then what follows =====
/-! ===== BEGIN words of one list among another's, by their places ===== -/
theorem goodIn_r {big : List Cond} (ws : List Cond) (ps : List Nat) (hp : ws = ps.filterMap (fun i => big[i]?)) (h : ws.all goodWord = true) : GoodIn big ws := by
  intro w hw
  have h1 := List.all_eq_true.mp h w hw
  rw [hp] at hw
  obtain ⟨i, -, hi⟩ := List.mem_filterMap.mp hw
  have hm : w ∈ big := by first | exact List.mem_of_getElem? hi | exact List.getElem?_mem hi
  exact ⟨hm, good_of_word h1⟩
theorem goodIn_app {big a b : List Cond} (ha : GoodIn big a) (hb : GoodIn big b) : GoodIn big (a ++ b) := fun w h => (List.mem_append.mp h).elim (ha w) (hb w)
theorem goodIn_ca {big a b : List Cond} {c : Cond} (ha : GoodIn big (c :: a)) (hb : GoodIn big b) : GoodIn big (c :: (a ++ b)) := fun w h => (List.mem_cons.mp h).elim (fun e => ha w (List.mem_cons.mpr (Or.inl e))) (fun h => (List.mem_append.mp h).elim (fun h => ha w (List.mem_cons.mpr (Or.inr h))) (hb w))
theorem goodIn_sub {big ws : List Cond} (hm : ∀ w ∈ ws, w ∈ big) (h : ws.all goodWord = true) : GoodIn big ws := fun w hw => ⟨hm w hw, good_of_word (List.all_eq_true.mp h w hw)⟩
/-! ===== END ===== -/

/-! ===== BEGIN printed: names, fields, word lists, decode rows ===== -/
def RX0 : String := "MilesHall$Club"
def TX0 : u_T := fun k => match k with
  | 0 => ("MilesHall$Club", "members", "LMilesHall$Members;", true)
  | 1 => ("MilesHall$Club", "lines", "LMilesHall$Lines;", true)
  | 2 => ("MilesHall$Club", "texts", "LMilesHall$Texts;", true)
  | 3 => ("MilesHall$Club", "seats", "LMilesHall$Seats;", true)
  | 4 => ("MilesHall$Club", "offers", "LMilesHall$Offers;", true)
  | 5 => ("MilesHall$Club", "rules", "[I", true)
  | 6 => ("MilesHall$Club", "madeRate", "[I", true)
  | 7 => ("MilesHall$Club", "givenRate", "[I", true)
  | _ => ("MilesHall$Club", "today", "I", false)
def tyX0 : Nat → FieldType := fun k => match k with
  | 0 => .object "MilesHall$Members"
  | 1 => .object "MilesHall$Lines"
  | 2 => .object "MilesHall$Texts"
  | 3 => .object "MilesHall$Seats"
  | 4 => .object "MilesHall$Offers"
  | 5 => .array .int
  | 6 => .array .int
  | 7 => .array .int
  | _ => .int
abbrev wsX00 : List Cond := u_ws RX0 TX0 9
theorem nmX0 : ∀ a, a < 9 → ∀ b, b < 9 → a ≠ b → (TX0 a).2.1 ≠ (TX0 b).2.1 := by decide +kernel
theorem tyX0_ok : ∀ k, k < 9 → parseFieldDescriptor (TX0 k).2.2.1 = some (tyX0 k) := by decide +kernel
abbrev cX0_init : ByteArray := prog_2_method_1_code
def yX0_init : MethodName := ⟨RX0, "<init>", "()V"⟩
abbrev cX0_newLine : ByteArray := prog_2_method_2_code
def yX0_newLine : MethodName := ⟨RX0, "newLine", "(IIIIII)I"⟩
abbrev cX0_become : ByteArray := prog_2_method_3_code
def yX0_become : MethodName := ⟨RX0, "become", "(LMilesHall$Club;)V"⟩
abbrev cX0_overwrite : ByteArray := prog_2_method_4_code
def yX0_overwrite : MethodName := ⟨RX0, "overwrite", "([I[I)V"⟩
def RX1 : String := "MilesHall$Figures"
def TX1 : u_T := fun k => match k with
  | 0 => ("MilesHall$Figures", "stack", "[I", true)
  | 1 => ("MilesHall$Figures", "top", "I", false)
  | 2 => ("MilesHall$Figures", "leg", "I", false)
  | 3 => ("MilesHall$Figures", "clas", "I", false)
  | 4 => ("MilesHall$Figures", "partner", "I", false)
  | 5 => ("MilesHall$Figures", "coins", "I", false)
  | 6 => ("MilesHall$Figures", "open", "I", false)
  | 7 => ("MilesHall$Figures", "ahead", "I", false)
  | 8 => ("MilesHall$Figures", "tier", "I", false)
  | 9 => ("MilesHall$Figures", "kind", "I", false)
  | _ => ("MilesHall$Figures", "points", "I", false)
def tyX1 : Nat → FieldType := fun k => match k with
  | 0 => .array .int
  | 1 => .int
  | 2 => .int
  | 3 => .int
  | 4 => .int
  | 5 => .int
  | 6 => .int
  | 7 => .int
  | 8 => .int
  | 9 => .int
  | _ => .int
abbrev wsX10 : List Cond := u_ws RX1 TX1 11
theorem nmX1 : ∀ a, a < 11 → ∀ b, b < 11 → a ≠ b → (TX1 a).2.1 ≠ (TX1 b).2.1 := by decide +kernel
theorem tyX1_ok : ∀ k, k < 11 → parseFieldDescriptor (TX1 k).2.2.1 = some (tyX1 k) := by decide +kernel
abbrev cX1_init : ByteArray := prog_3_method_1_code
def yX1_init : MethodName := ⟨RX1, "<init>", "()V"⟩
abbrev cX1_forTrip : ByteArray := prog_3_method_2_code
def yX1_forTrip : MethodName := ⟨RX1, "forTrip", "(II)V"⟩
abbrev cX1_forMember : ByteArray := prog_3_method_3_code
def yX1_forMember : MethodName := ⟨RX1, "forMember", "(II)V"⟩
abbrev cX1_workedOut : ByteArray := prog_3_method_4_code
def yX1_workedOut : MethodName := ⟨RX1, "workedOut", "(LMilesHall$Terms;I)I"⟩
abbrev cX1_push : ByteArray := prog_3_method_5_code
def yX1_push : MethodName := ⟨RX1, "push", "(I)V"⟩
abbrev cX1_pop : ByteArray := prog_3_method_6_code
def yX1_pop : MethodName := ⟨RX1, "pop", "()I"⟩
abbrev cX1_named : ByteArray := prog_3_method_7_code
def yX1_named : MethodName := ⟨RX1, "named", "(I)I"⟩
abbrev cX1_joined : ByteArray := prog_3_method_8_code
def yX1_joined : MethodName := ⟨RX1, "joined", "(III)I"⟩
def RX2 : String := "MilesHall$Ledger"
def TX2 : u_T := fun k => match k with
  | 0 => ("MilesHall$Ledger", "figures", "LMilesHall$Figures;", true)
  | 1 => ("MilesHall$Ledger", "lotMember", "[I", true)
  | 2 => ("MilesHall$Ledger", "lotMiles", "[I", true)
  | 3 => ("MilesHall$Ledger", "lotLapse", "[I", true)
  | 4 => ("MilesHall$Ledger", "points", "[I", true)
  | 5 => ("MilesHall$Ledger", "made", "[I", true)
  | 6 => ("MilesHall$Ledger", "spent", "[I", true)
  | 7 => ("MilesHall$Ledger", "brought", "[I", true)
  | 8 => ("MilesHall$Ledger", "isBack", "[I", true)
  | _ => ("MilesHall$Ledger", "lots", "I", false)
def tyX2 : Nat → FieldType := fun k => match k with
  | 0 => .object "MilesHall$Figures"
  | 1 => .array .int
  | 2 => .array .int
  | 3 => .array .int
  | 4 => .array .int
  | 5 => .array .int
  | 6 => .array .int
  | 7 => .array .int
  | 8 => .array .int
  | _ => .int
abbrev wsX20 : List Cond := u_ws RX2 TX2 10
theorem nmX2 : ∀ a, a < 10 → ∀ b, b < 10 → a ≠ b → (TX2 a).2.1 ≠ (TX2 b).2.1 := by decide +kernel
theorem tyX2_ok : ∀ k, k < 10 → parseFieldDescriptor (TX2 k).2.2.1 = some (tyX2 k) := by decide +kernel
abbrev cX2_init : ByteArray := prog_4_method_1_code
def yX2_init : MethodName := ⟨RX2, "<init>", "()V"⟩
abbrev cX2_goThrough : ByteArray := prog_4_method_2_code
def yX2_goThrough : MethodName := ⟨RX2, "goThrough", "(LMilesHall$Club;II)V"⟩
abbrev cX2_bringFly : ByteArray := prog_4_method_3_code
def yX2_bringFly : MethodName := ⟨RX2, "bringFly", "(LMilesHall$Club;I)I"⟩
abbrev cX2_bringSpend : ByteArray := prog_4_method_4_code
def yX2_bringSpend : MethodName := ⟨RX2, "bringSpend", "(LMilesHall$Club;I)I"⟩
abbrev cX2_bringGift : ByteArray := prog_4_method_5_code
def yX2_bringGift : MethodName := ⟨RX2, "bringGift", "(LMilesHall$Club;I)I"⟩
abbrev cX2_bringBack : ByteArray := prog_4_method_6_code
def yX2_bringBack : MethodName := ⟨RX2, "bringBack", "(LMilesHall$Club;I)I"⟩
abbrev cX2_come : ByteArray := prog_4_method_7_code
def yX2_come : MethodName := ⟨RX2, "come", "(III)V"⟩
abbrev cX2_isAhead : ByteArray := prog_4_method_8_code
def yX2_isAhead : MethodName := ⟨RX2, "isAhead", "(III)Z"⟩
abbrev cX2_isFor : ByteArray := prog_4_method_9_code
def yX2_isFor : MethodName := ⟨RX2, "isFor", "(LMilesHall$Members;IZI)Z"⟩
abbrev cX2_there : ByteArray := prog_4_method_10_code
def yX2_there : MethodName := ⟨RX2, "there", "(LMilesHall$Members;IZI)I"⟩
abbrev cX2_take : ByteArray := prog_4_method_11_code
def yX2_take : MethodName := ⟨RX2, "take", "(LMilesHall$Members;IZII)I"⟩
abbrev cX2_lapsing : ByteArray := prog_4_method_12_code
def yX2_lapsing : MethodName := ⟨RX2, "lapsing", "(III)I"⟩
abbrev cX2_pointsOf : ByteArray := prog_4_method_13_code
def yX2_pointsOf : MethodName := ⟨RX2, "pointsOf", "(II)I"⟩
abbrev cX2_tierOf : ByteArray := prog_4_method_14_code
def yX2_tierOf : MethodName := ⟨RX2, "tierOf", "(LMilesHall$Club;II)I"⟩
abbrev cX2_tierBy : ByteArray := prog_4_method_15_code
def yX2_tierBy : MethodName := ⟨RX2, "tierBy", "(LMilesHall$Terms;I)I"⟩
abbrev cX2_priceOf : ByteArray := prog_4_method_16_code
def yX2_priceOf : MethodName := ⟨RX2, "priceOf", "(LMilesHall$Club;II)I"⟩
def RX3 : String := "MilesHall$Lines"
def TX3 : u_T := fun k => match k with
  | 0 => ("MilesHall$Lines", "kind", "[I", true)
  | 1 => ("MilesHall$Lines", "member", "[I", true)
  | 2 => ("MilesHall$Lines", "about", "[I", true)
  | 3 => ("MilesHall$Lines", "told", "[I", true)
  | 4 => ("MilesHall$Lines", "withdrawn", "[I", true)
  | 5 => ("MilesHall$Lines", "amount", "[I", true)
  | 6 => ("MilesHall$Lines", "other", "[I", true)
  | 7 => ("MilesHall$Lines", "coins", "[I", true)
  | 8 => ("MilesHall$Lines", "order", "[I", true)
  | _ => ("MilesHall$Lines", "size", "I", false)
def tyX3 : Nat → FieldType := fun k => match k with
  | 0 => .array .int
  | 1 => .array .int
  | 2 => .array .int
  | 3 => .array .int
  | 4 => .array .int
  | 5 => .array .int
  | 6 => .array .int
  | 7 => .array .int
  | 8 => .array .int
  | _ => .int
abbrev wsX30 : List Cond := u_ws RX3 TX3 10
theorem nmX3 : ∀ a, a < 10 → ∀ b, b < 10 → a ≠ b → (TX3 a).2.1 ≠ (TX3 b).2.1 := by decide +kernel
theorem tyX3_ok : ∀ k, k < 10 → parseFieldDescriptor (TX3 k).2.2.1 = some (tyX3 k) := by decide +kernel
abbrev cX3_init : ByteArray := prog_5_method_1_code
def yX3_init : MethodName := ⟨RX3, "<init>", "()V"⟩
abbrev cX3_add : ByteArray := prog_5_method_2_code
def yX3_add : MethodName := ⟨RX3, "add", "(IIIIIII)I"⟩
abbrev cX3_putInOrder : ByteArray := prog_5_method_3_code
def yX3_putInOrder : MethodName := ⟨RX3, "putInOrder", "(I)V"⟩
abbrev cX3_isKnown : ByteArray := prog_5_method_4_code
def yX3_isKnown : MethodName := ⟨RX3, "isKnown", "(II)Z"⟩
abbrev cX3_allWithdrawn : ByteArray := prog_5_method_5_code
def yX3_allWithdrawn : MethodName := ⟨RX3, "allWithdrawn", "()I"⟩
abbrev cX3_become : ByteArray := prog_5_method_6_code
def yX3_become : MethodName := ⟨RX3, "become", "(LMilesHall$Lines;)V"⟩
def RX4 : String := "MilesHall$Members"
def TX4 : u_T := fun k => match k with
  | 0 => ("MilesHall$Members", "kind", "[I", true)
  | 1 => ("MilesHall$Members", "marks", "[I", true)
  | 2 => ("MilesHall$Members", "pool", "[I", true)
  | _ => ("MilesHall$Members", "size", "I", false)
def tyX4 : Nat → FieldType := fun k => match k with
  | 0 => .array .int
  | 1 => .array .int
  | 2 => .array .int
  | _ => .int
abbrev wsX40 : List Cond := u_ws RX4 TX4 4
theorem nmX4 : ∀ a, a < 4 → ∀ b, b < 4 → a ≠ b → (TX4 a).2.1 ≠ (TX4 b).2.1 := by decide +kernel
theorem tyX4_ok : ∀ k, k < 4 → parseFieldDescriptor (TX4 k).2.2.1 = some (tyX4 k) := by decide +kernel
abbrev cX4_init : ByteArray := prog_6_method_1_code
def yX4_init : MethodName := ⟨RX4, "<init>", "()V"⟩
abbrev cX4_enrol : ByteArray := prog_6_method_2_code
def yX4_enrol : MethodName := ⟨RX4, "enrol", "(II)I"⟩
abbrev cX4_isOf : ByteArray := prog_6_method_3_code
def yX4_isOf : MethodName := ⟨RX4, "isOf", "(II)Z"⟩
abbrev cX4_shares : ByteArray := prog_6_method_4_code
def yX4_shares : MethodName := ⟨RX4, "shares", "(II)Z"⟩
abbrev cX4_ringAt : ByteArray := prog_6_method_5_code
def yX4_ringAt : MethodName := ⟨RX4, "ringAt", "(I)I"⟩
abbrev cX4_hangingWith : ByteArray := prog_6_method_6_code
def yX4_hangingWith : MethodName := ⟨RX4, "hangingWith", "(I)I"⟩
abbrev cX4_become : ByteArray := prog_6_method_7_code
def yX4_become : MethodName := ⟨RX4, "become", "(LMilesHall$Members;)V"⟩
def RX5 : String := "MilesHall$Offers"
def TX5 : u_T := fun k => match k with
  | 0 => ("MilesHall$Offers", "coins", "[I", true)
  | 1 => ("MilesHall$Offers", "points", "[I", true)
  | 2 => ("MilesHall$Offers", "times", "[I", true)
  | _ => ("MilesHall$Offers", "size", "I", false)
def tyX5 : Nat → FieldType := fun k => match k with
  | 0 => .array .int
  | 1 => .array .int
  | 2 => .array .int
  | _ => .int
abbrev wsX50 : List Cond := u_ws RX5 TX5 4
theorem nmX5 : ∀ a, a < 4 → ∀ b, b < 4 → a ≠ b → (TX5 a).2.1 ≠ (TX5 b).2.1 := by decide +kernel
theorem tyX5_ok : ∀ k, k < 4 → parseFieldDescriptor (TX5 k).2.2.1 = some (tyX5 k) := by decide +kernel
abbrev cX5_init : ByteArray := prog_7_method_1_code
def yX5_init : MethodName := ⟨RX5, "<init>", "()V"⟩
abbrev cX5_add : ByteArray := prog_7_method_2_code
def yX5_add : MethodName := ⟨RX5, "add", "(III)I"⟩
abbrev cX5_become : ByteArray := prog_7_method_3_code
def yX5_become : MethodName := ⟨RX5, "become", "(LMilesHall$Offers;)V"⟩
def RX6 : String := "MilesHall$Seats"
def TX6 : u_T := fun k => match k with
  | 0 => ("MilesHall$Seats", "day", "[I", true)
  | 1 => ("MilesHall$Seats", "leg", "[I", true)
  | 2 => ("MilesHall$Seats", "partner", "[I", true)
  | 3 => ("MilesHall$Seats", "open", "[I", true)
  | 4 => ("MilesHall$Seats", "askMember", "[I", true)
  | 5 => ("MilesHall$Seats", "askFlight", "[I", true)
  | 6 => ("MilesHall$Seats", "askClass", "[I", true)
  | 7 => ("MilesHall$Seats", "paid", "[I", true)
  | 8 => ("MilesHall$Seats", "flights", "I", false)
  | _ => ("MilesHall$Seats", "asks", "I", false)
def tyX6 : Nat → FieldType := fun k => match k with
  | 0 => .array .int
  | 1 => .array .int
  | 2 => .array .int
  | 3 => .array .int
  | 4 => .array .int
  | 5 => .array .int
  | 6 => .array .int
  | 7 => .array .int
  | 8 => .int
  | _ => .int
abbrev wsX60 : List Cond := u_ws RX6 TX6 10
theorem nmX6 : ∀ a, a < 10 → ∀ b, b < 10 → a ≠ b → (TX6 a).2.1 ≠ (TX6 b).2.1 := by decide +kernel
theorem tyX6_ok : ∀ k, k < 10 → parseFieldDescriptor (TX6 k).2.2.1 = some (tyX6 k) := by decide +kernel
abbrev cX6_init : ByteArray := prog_8_method_1_code
def yX6_init : MethodName := ⟨RX6, "<init>", "()V"⟩
abbrev cX6_newFlight : ByteArray := prog_8_method_2_code
def yX6_newFlight : MethodName := ⟨RX6, "newFlight", "(IIII)I"⟩
abbrev cX6_newAsk : ByteArray := prog_8_method_3_code
def yX6_newAsk : MethodName := ⟨RX6, "newAsk", "(III)I"⟩
abbrev cX6_allWaiting : ByteArray := prog_8_method_4_code
def yX6_allWaiting : MethodName := ⟨RX6, "allWaiting", "()I"⟩
abbrev cX6_become : ByteArray := prog_8_method_5_code
def yX6_become : MethodName := ⟨RX6, "become", "(LMilesHall$Seats;)V"⟩
def RX7 : String := "MilesHall$Tape"
def TX7 : u_T := fun k => match k with
  | 0 => ("MilesHall$Tape", "bytes", "[B", true)
  | 1 => ("MilesHall$Tape", "code", "[I", true)
  | 2 => ("MilesHall$Tape", "ends", "[I", true)
  | 3 => ("MilesHall$Tape", "length", "I", false)
  | 4 => ("MilesHall$Tape", "text", "I", false)
  | 5 => ("MilesHall$Tape", "counted", "I", false)
  | 6 => ("MilesHall$Tape", "start", "I", false)
  | 7 => ("MilesHall$Tape", "end", "I", false)
  | 8 => ("MilesHall$Tape", "kind", "I", false)
  | 9 => ("MilesHall$Tape", "needsBlank", "Z", false)
  | 10 => ("MilesHall$Tape", "used", "I", false)
  | 11 => ("MilesHall$Tape", "parens", "I", false)
  | 12 => ("MilesHall$Tape", "bangs", "I", false)
  | _ => ("MilesHall$Tape", "names", "Ljava/lang/String;", false)
def tyX7 : Nat → FieldType := fun k => match k with
  | 0 => .array .byte
  | 1 => .array .int
  | 2 => .array .int
  | 3 => .int
  | 4 => .int
  | 5 => .int
  | 6 => .int
  | 7 => .int
  | 8 => .int
  | 9 => .boolean
  | 10 => .int
  | 11 => .int
  | 12 => .int
  | _ => .object "java/lang/String"
abbrev wsX70 : List Cond := u_ws RX7 TX7 14
theorem nmX7 : ∀ a, a < 14 → ∀ b, b < 14 → a ≠ b → (TX7 a).2.1 ≠ (TX7 b).2.1 := by decide +kernel
theorem tyX7_ok : ∀ k, k < 14 → parseFieldDescriptor (TX7 k).2.2.1 = some (tyX7 k) := by decide +kernel
abbrev cX7_init : ByteArray := prog_9_method_1_code
def yX7_init : MethodName := ⟨RX7, "<init>", "()V"⟩
abbrev cX7_put : ByteArray := prog_9_method_2_code
def yX7_put : MethodName := ⟨RX7, "put", "(I)V"⟩
abbrev cX7_useUp : ByteArray := prog_9_method_3_code
def yX7_useUp : MethodName := ⟨RX7, "useUp", "()V"⟩
abbrev cX7_termsFrom : ByteArray := prog_9_method_4_code
def yX7_termsFrom : MethodName := ⟨RX7, "termsFrom", "(I)LMilesHall$Terms;"⟩
abbrev cX7_isTerms : ByteArray := prog_9_method_5_code
def yX7_isTerms : MethodName := ⟨RX7, "isTerms", "()Z"⟩
abbrev cX7_wordOf : ByteArray := prog_9_method_6_code
def yX7_wordOf : MethodName := ⟨RX7, "wordOf", "(I)Ljava/lang/String;"⟩
abbrev cX7_namesOf : ByteArray := prog_9_method_7_code
def yX7_namesOf : MethodName := ⟨RX7, "namesOf", "(I)Ljava/lang/String;"⟩
abbrev cX7_signsOf : ByteArray := prog_9_method_8_code
def yX7_signsOf : MethodName := ⟨RX7, "signsOf", "(I)Ljava/lang/String;"⟩
abbrev cX7_next : ByteArray := prog_9_method_9_code
def yX7_next : MethodName := ⟨RX7, "next", "()V"⟩
abbrev cX7_isWordKind : ByteArray := prog_9_method_10_code
def yX7_isWordKind : MethodName := ⟨RX7, "isWordKind", "()Z"⟩
abbrev cX7_behindBlanks : ByteArray := prog_9_method_11_code
def yX7_behindBlanks : MethodName := ⟨RX7, "behindBlanks", "(I)I"⟩
abbrev cX7_behindKind : ByteArray := prog_9_method_12_code
def yX7_behindKind : MethodName := ⟨RX7, "behindKind", "(I)I"⟩
abbrev cX7_kindAt : ByteArray := prog_9_method_13_code
def yX7_kindAt : MethodName := ⟨RX7, "kindAt", "(I)I"⟩
abbrev cX7_letter : ByteArray := prog_9_method_14_code
def yX7_letter : MethodName := ⟨RX7, "letter", "()C"⟩
abbrev cX7_isWord : ByteArray := prog_9_method_15_code
def yX7_isWord : MethodName := ⟨RX7, "isWord", "(Ljava/lang/String;)Z"⟩
abbrev cX7_isSignOf : ByteArray := prog_9_method_16_code
def yX7_isSignOf : MethodName := ⟨RX7, "isSignOf", "(Ljava/lang/String;)Z"⟩
abbrev cX7_isJoined : ByteArray := prog_9_method_17_code
def yX7_isJoined : MethodName := ⟨RX7, "isJoined", "(I)Z"⟩
abbrev cX7_isPart : ByteArray := prog_9_method_18_code
def yX7_isPart : MethodName := ⟨RX7, "isPart", "()Z"⟩
abbrev cX7_isNot : ByteArray := prog_9_method_19_code
def yX7_isNot : MethodName := ⟨RX7, "isNot", "()Z"⟩
abbrev cX7_isInParens : ByteArray := prog_9_method_20_code
def yX7_isInParens : MethodName := ⟨RX7, "isInParens", "()Z"⟩
abbrev cX7_isNumberOrName : ByteArray := prog_9_method_21_code
def yX7_isNumberOrName : MethodName := ⟨RX7, "isNumberOrName", "()Z"⟩
abbrev cX7_number : ByteArray := prog_9_method_22_code
def yX7_number : MethodName := ⟨RX7, "number", "()I"⟩
abbrev cX7_emit : ByteArray := prog_9_method_23_code
def yX7_emit : MethodName := ⟨RX7, "emit", "(I)V"⟩
def RX8 : String := "MilesHall$Terms"
def TX8 : u_T := fun k => match k with
  | 0 => ("MilesHall$Terms", "day", "I", true)
  | 1 => ("MilesHall$Terms", "code", "[I", true)
  | _ => ("MilesHall$Terms", "ends", "[I", true)
def tyX8 : Nat → FieldType := fun k => match k with
  | 0 => .int
  | 1 => .array .int
  | _ => .array .int
abbrev wsX80 : List Cond := u_ws RX8 TX8 3
theorem nmX8 : ∀ a, a < 3 → ∀ b, b < 3 → a ≠ b → (TX8 a).2.1 ≠ (TX8 b).2.1 := by decide +kernel
theorem tyX8_ok : ∀ k, k < 3 → parseFieldDescriptor (TX8 k).2.2.1 = some (tyX8 k) := by decide +kernel
abbrev cX8_init : ByteArray := prog_10_method_1_code
def yX8_init : MethodName := ⟨RX8, "<init>", "(I[I[I)V"⟩
abbrev cX8_begin : ByteArray := prog_10_method_2_code
def yX8_begin : MethodName := ⟨RX8, "begin", "(I)I"⟩
abbrev cX8_end : ByteArray := prog_10_method_3_code
def yX8_end : MethodName := ⟨RX8, "end", "(I)I"⟩
def RX9 : String := "MilesHall$Texts"
def TX9 : u_T := fun k => match k with
  | 0 => ("MilesHall$Texts", "told", "[LMilesHall$Terms;", true)
  | 1 => ("MilesHall$Texts", "plain", "LMilesHall$Terms;", true)
  | _ => ("MilesHall$Texts", "size", "I", false)
def tyX9 : Nat → FieldType := fun k => match k with
  | 0 => .array (.object "MilesHall$Terms")
  | 1 => .object "MilesHall$Terms"
  | _ => .int
abbrev wsX90 : List Cond := u_ws RX9 TX9 3
theorem nmX9 : ∀ a, a < 3 → ∀ b, b < 3 → a ≠ b → (TX9 a).2.1 ≠ (TX9 b).2.1 := by decide +kernel
theorem tyX9_ok : ∀ k, k < 3 → parseFieldDescriptor (TX9 k).2.2.1 = some (tyX9 k) := by decide +kernel
abbrev cX9_init : ByteArray := prog_11_method_1_code
def yX9_init : MethodName := ⟨RX9, "<init>", "()V"⟩
abbrev cX9_add : ByteArray := prog_11_method_2_code
def yX9_add : MethodName := ⟨RX9, "add", "(LMilesHall$Terms;)V"⟩
abbrev cX9_inForce : ByteArray := prog_11_method_3_code
def yX9_inForce : MethodName := ⟨RX9, "inForce", "(I)LMilesHall$Terms;"⟩
abbrev cX9_become : ByteArray := prog_11_method_4_code
def yX9_become : MethodName := ⟨RX9, "become", "(LMilesHall$Texts;)V"⟩
def RX10 : String := "MilesHall$Ways"
def TX10 : u_T := fun k => match k with
  | 0 => ("MilesHall$Ways", "best", "[J", true)
  | _ => ("MilesHall$Ways", "solved", "I", false)
def tyX10 : Nat → FieldType := fun k => match k with
  | 0 => .array .long
  | _ => .int
abbrev wsX100 : List Cond := u_ws RX10 TX10 2
theorem nmX10 : ∀ a, a < 2 → ∀ b, b < 2 → a ≠ b → (TX10 a).2.1 ≠ (TX10 b).2.1 := by decide +kernel
theorem tyX10_ok : ∀ k, k < 2 → parseFieldDescriptor (TX10 k).2.2.1 = some (tyX10 k) := by decide +kernel
abbrev cX10_init : ByteArray := prog_12_method_1_code
def yX10_init : MethodName := ⟨RX10, "<init>", "()V"⟩
abbrev cX10_forget : ByteArray := prog_12_method_2_code
def yX10_forget : MethodName := ⟨RX10, "forget", "()V"⟩
abbrev cX10_isFound : ByteArray := prog_12_method_3_code
def yX10_isFound : MethodName := ⟨RX10, "isFound", "(LMilesHall$Offers;I)Z"⟩
abbrev cX10_coinsTo : ByteArray := prog_12_method_4_code
def yX10_coinsTo : MethodName := ⟨RX10, "coinsTo", "(I)I"⟩
abbrev cX10_timesOf : ByteArray := prog_12_method_5_code
def yX10_timesOf : MethodName := ⟨RX10, "timesOf", "(II)I"⟩
abbrev cX10_solve : ByteArray := prog_12_method_6_code
def yX10_solve : MethodName := ⟨RX10, "solve", "(LMilesHall$Offers;I)V"⟩
abbrev cX10_addPack : ByteArray := prog_12_method_7_code
def yX10_addPack : MethodName := ⟨RX10, "addPack", "(IIJ)V"⟩
abbrev cX10_weight : ByteArray := prog_12_method_8_code
def yX10_weight : MethodName := ⟨RX10, "weight", "(LMilesHall$Offers;I)J"⟩
abbrev cX10_placeOf : ByteArray := prog_12_method_9_code
def yX10_placeOf : MethodName := ⟨RX10, "placeOf", "(I)I"⟩
def RX11 : String := "MilesHall"
def TX11 : u_T := fun k => match k with
  | 0 => ("MilesHall", "club", "LMilesHall$Club;", true)
  | 1 => ("MilesHall", "image", "LMilesHall$Club;", true)
  | 2 => ("MilesHall", "ledger", "LMilesHall$Ledger;", true)
  | 3 => ("MilesHall", "ways", "LMilesHall$Ways;", true)
  | 4 => ("MilesHall", "tape", "LMilesHall$Tape;", true)
  | 5 => ("MilesHall", "waiting", "[I", true)
  | 6 => ("MilesHall", "ranks", "[I", true)
  | 7 => ("MilesHall", "places", "[S", true)
  | 8 => ("MilesHall", "sizes", "[I", true)
  | 9 => ("MilesHall", "waits", "I", false)
  | _ => ("MilesHall", "kept", "Z", false)
def tyX11 : Nat → FieldType := fun k => match k with
  | 0 => .object "MilesHall$Club"
  | 1 => .object "MilesHall$Club"
  | 2 => .object "MilesHall$Ledger"
  | 3 => .object "MilesHall$Ways"
  | 4 => .object "MilesHall$Tape"
  | 5 => .array .int
  | 6 => .array .int
  | 7 => .array .short
  | 8 => .array .int
  | 9 => .int
  | _ => .boolean
abbrev wsX110 : List Cond := u_ws RX11 TX11 11
theorem nmX11 : ∀ a, a < 11 → ∀ b, b < 11 → a ≠ b → (TX11 a).2.1 ≠ (TX11 b).2.1 := by decide +kernel
theorem tyX11_ok : ∀ k, k < 11 → parseFieldDescriptor (TX11 k).2.2.1 = some (tyX11 k) := by decide +kernel
abbrev cX11_init : ByteArray := prog_1_method_1_code
def yX11_init : MethodName := ⟨RX11, "<init>", "()V"⟩
abbrev cX11_member : ByteArray := prog_1_method_2_code
def yX11_member : MethodName := ⟨RX11, "member", "(II)I"⟩
abbrev cX11_is : ByteArray := prog_1_method_3_code
def yX11_is : MethodName := ⟨RX11, "is", "(II)I"⟩
abbrev cX11_pool : ByteArray := prog_1_method_4_code
def yX11_pool : MethodName := ⟨RX11, "pool", "(II)I"⟩
abbrev cX11_marks : ByteArray := prog_1_method_5_code
def yX11_marks : MethodName := ⟨RX11, "marks", "(II)I"⟩
abbrev cX11_lay : ByteArray := prog_1_method_6_code
def yX11_lay : MethodName := ⟨RX11, "lay", "(I)I"⟩
abbrev cX11_days : ByteArray := prog_1_method_7_code
def yX11_days : MethodName := ⟨RX11, "days", "(I)I"⟩
abbrev cX11_rule : ByteArray := prog_1_method_8_code
def yX11_rule : MethodName := ⟨RX11, "rule", "(II)I"⟩
abbrev cX11_fly : ByteArray := prog_1_method_9_code
def yX11_fly : MethodName := ⟨RX11, "fly", "(IIIII)I"⟩
abbrev cX11_spend : ByteArray := prog_1_method_10_code
def yX11_spend : MethodName := ⟨RX11, "spend", "(IIII)I"⟩
abbrev cX11_gift : ByteArray := prog_1_method_11_code
def yX11_gift : MethodName := ⟨RX11, "gift", "(IIII)I"⟩
abbrev cX11_back : ByteArray := prog_1_method_12_code
def yX11_back : MethodName := ⟨RX11, "back", "(II)I"⟩
abbrev cX11_withdraw : ByteArray := prog_1_method_13_code
def yX11_withdraw : MethodName := ⟨RX11, "withdraw", "(I)I"⟩
abbrev cX11_line : ByteArray := prog_1_method_14_code
def yX11_line : MethodName := ⟨RX11, "line", "(II)I"⟩
abbrev cX11_stands : ByteArray := prog_1_method_15_code
def yX11_stands : MethodName := ⟨RX11, "stands", "(IIII)I"⟩
abbrev cX11_brought : ByteArray := prog_1_method_16_code
def yX11_brought : MethodName := ⟨RX11, "brought", "(III)I"⟩
abbrev cX11_owes : ByteArray := prog_1_method_17_code
def yX11_owes : MethodName := ⟨RX11, "owes", "(III)I"⟩
abbrev cX11_rate : ByteArray := prog_1_method_18_code
def yX11_rate : MethodName := ⟨RX11, "rate", "(III)I"⟩
abbrev cX11_feed : ByteArray := prog_1_method_19_code
def yX11_feed : MethodName := ⟨RX11, "feed", "(III)I"⟩
abbrev cX11_trim : ByteArray := prog_1_method_20_code
def yX11_trim : MethodName := ⟨RX11, "trim", "(I)I"⟩
abbrev cX11_terms : ByteArray := prog_1_method_21_code
def yX11_terms : MethodName := ⟨RX11, "terms", "(I)I"⟩
abbrev cX11_flight : ByteArray := prog_1_method_22_code
def yX11_flight : MethodName := ⟨RX11, "flight", "(IIII)I"⟩
abbrev cX11_ask : ByteArray := prog_1_method_23_code
def yX11_ask : MethodName := ⟨RX11, "ask", "(III)I"⟩
abbrev cX11_settle : ByteArray := prog_1_method_24_code
def yX11_settle : MethodName := ⟨RX11, "settle", "(I)I"⟩
abbrev cX11_rankAsks : ByteArray := prog_1_method_25_code
def yX11_rankAsks : MethodName := ⟨RX11, "rankAsks", "(I)V"⟩
abbrev cX11_hasSeatNow : ByteArray := prog_1_method_26_code
def yX11_hasSeatNow : MethodName := ⟨RX11, "hasSeatNow", "(II)Z"⟩
abbrev cX11_isPaid : ByteArray := prog_1_method_27_code
def yX11_isPaid : MethodName := ⟨RX11, "isPaid", "(III)Z"⟩
abbrev cX11_asked : ByteArray := prog_1_method_28_code
def yX11_asked : MethodName := ⟨RX11, "asked", "(II)I"⟩
abbrev cX11_open : ByteArray := prog_1_method_29_code
def yX11_open : MethodName := ⟨RX11, "open", "(I)I"⟩
abbrev cX11_offer : ByteArray := prog_1_method_30_code
def yX11_offer : MethodName := ⟨RX11, "offer", "(III)I"⟩
abbrev cX11_clear : ByteArray := prog_1_method_31_code
def yX11_clear : MethodName := ⟨RX11, "clear", "()I"⟩
abbrev cX11_way : ByteArray := prog_1_method_32_code
def yX11_way : MethodName := ⟨RX11, "way", "(I)I"⟩
abbrev cX11_taken : ByteArray := prog_1_method_33_code
def yX11_taken : MethodName := ⟨RX11, "taken", "(II)I"⟩
abbrev cX11_tell : ByteArray := prog_1_method_34_code
def yX11_tell : MethodName := ⟨RX11, "tell", "(I)I"⟩
abbrev cX11_check : ByteArray := prog_1_method_35_code
def yX11_check : MethodName := ⟨RX11, "check", "(I)I"⟩
abbrev cX11_ring : ByteArray := prog_1_method_36_code
def yX11_ring : MethodName := ⟨RX11, "ring", "(I)I"⟩
abbrev cX11_keep : ByteArray := prog_1_method_37_code
def yX11_keep : MethodName := ⟨RX11, "keep", "()I"⟩
abbrev cX11_again : ByteArray := prog_1_method_38_code
def yX11_again : MethodName := ⟨RX11, "again", "()I"⟩
abbrev cX11_sheet : ByteArray := prog_1_method_39_code
def yX11_sheet : MethodName := ⟨RX11, "sheet", "(II)I"⟩
abbrev cX11_mark : ByteArray := prog_1_method_40_code
def yX11_mark : MethodName := ⟨RX11, "mark", "(III)I"⟩
abbrev cX11_copy : ByteArray := prog_1_method_41_code
def yX11_copy : MethodName := ⟨RX11, "copy", "(IIIII)I"⟩
abbrev cX11_count : ByteArray := prog_1_method_42_code
def yX11_count : MethodName := ⟨RX11, "count", "(I)I"⟩
abbrev cX11_within : ByteArray := prog_1_method_43_code
def yX11_within : MethodName := ⟨RX11, "within", "(III)Z"⟩
abbrev cX11_held : ByteArray := prog_1_method_44_code
def yX11_held : MethodName := ⟨RX11, "held", "(III)I"⟩
abbrev cX11_isDay : ByteArray := prog_1_method_45_code
def yX11_isDay : MethodName := ⟨RX11, "isDay", "(I)Z"⟩
abbrev cX11_isPartner : ByteArray := prog_1_method_46_code
def yX11_isPartner : MethodName := ⟨RX11, "isPartner", "(I)Z"⟩
abbrev cX11_isSheet : ByteArray := prog_1_method_47_code
def yX11_isSheet : MethodName := ⟨RX11, "isSheet", "(I)Z"⟩
abbrev cX11_isStretch : ByteArray := prog_1_method_48_code
def yX11_isStretch : MethodName := ⟨RX11, "isStretch", "(III)Z"⟩
abbrev cX11_isMember : ByteArray := prog_1_method_49_code
def yX11_isMember : MethodName := ⟨RX11, "isMember", "(I)Z"⟩
abbrev cX11_isLine : ByteArray := prog_1_method_50_code
def yX11_isLine : MethodName := ⟨RX11, "isLine", "(I)Z"⟩
abbrev cX11_isFlight : ByteArray := prog_1_method_51_code
def yX11_isFlight : MethodName := ⟨RX11, "isFlight", "(I)Z"⟩
abbrev cX11_isPast : ByteArray := prog_1_method_52_code
def yX11_isPast : MethodName := ⟨RX11, "isPast", "(I)Z"⟩
def RX12 : String := "MilesHallModel"
def TX12 : u_T := fun k => match k with
  | 0 => ("MilesHallModel", "s", "[I", true)
  | 1 => ("MilesHallModel", "kept", "[I", true)
  | 2 => ("MilesHallModel", "isKept", "Z", false)
  | 3 => ("MilesHallModel", "tape", "[I", true)
  | 4 => ("MilesHallModel", "taped", "I", false)
  | 5 => ("MilesHallModel", "from", "I", false)
  | 6 => ("MilesHallModel", "to", "I", false)
  | 7 => ("MilesHallModel", "last", "I", false)
  | 8 => ("MilesHallModel", "sort", "I", false)
  | 9 => ("MilesHallModel", "fault", "I", false)
  | 10 => ("MilesHallModel", "isBad", "Z", false)
  | 11 => ("MilesHallModel", "clause", "I", false)
  | 12 => ("MilesHallModel", "wordMany", "I", false)
  | 13 => ("MilesHallModel", "tally", "I", false)
  | 14 => ("MilesHallModel", "words", "[I", true)
  | 15 => ("MilesHallModel", "open", "[I", true)
  | 16 => ("MilesHallModel", "opens", "I", false)
  | 17 => ("MilesHallModel", "parens", "I", false)
  | 18 => ("MilesHallModel", "prefixes", "I", false)
  | 19 => ("MilesHallModel", "pile", "[I", true)
  | 20 => ("MilesHallModel", "named", "[I", true)
  | 21 => ("MilesHallModel", "lotOf", "[I", true)
  | 22 => ("MilesHallModel", "lotMiles", "[I", true)
  | 23 => ("MilesHallModel", "lotDay", "[I", true)
  | 24 => ("MilesHallModel", "lots", "I", false)
  | 25 => ("MilesHallModel", "points", "[I", true)
  | 26 => ("MilesHallModel", "made", "[I", true)
  | 27 => ("MilesHallModel", "spent", "[I", true)
  | 28 => ("MilesHallModel", "brought", "[I", true)
  | 29 => ("MilesHallModel", "order", "[I", true)
  | 30 => ("MilesHallModel", "isBack", "[Z", true)
  | 31 => ("MilesHallModel", "tiers", "[I", true)
  | 32 => ("MilesHallModel", "ways", "[I", true)
  | 33 => ("MilesHallModel", "taking", "[I", true)
  | 34 => ("MilesHallModel", "numbers", "[I", true)
  | 35 => ("MilesHallModel", "waiting", "I", false)
  | 36 => ("MilesHallModel", "sheets", "[I", true)
  | 37 => ("MilesHallModel", "sizes", "[I", true)
  | _ => ("MilesHallModel", "moved", "[I", true)
def tyX12 : Nat → FieldType := fun k => match k with
  | 0 => .array .int
  | 1 => .array .int
  | 2 => .boolean
  | 3 => .array .int
  | 4 => .int
  | 5 => .int
  | 6 => .int
  | 7 => .int
  | 8 => .int
  | 9 => .int
  | 10 => .boolean
  | 11 => .int
  | 12 => .int
  | 13 => .int
  | 14 => .array .int
  | 15 => .array .int
  | 16 => .int
  | 17 => .int
  | 18 => .int
  | 19 => .array .int
  | 20 => .array .int
  | 21 => .array .int
  | 22 => .array .int
  | 23 => .array .int
  | 24 => .int
  | 25 => .array .int
  | 26 => .array .int
  | 27 => .array .int
  | 28 => .array .int
  | 29 => .array .int
  | 30 => .array .boolean
  | 31 => .array .int
  | 32 => .array .int
  | 33 => .array .int
  | 34 => .array .int
  | 35 => .int
  | 36 => .array .int
  | 37 => .array .int
  | _ => .array .int
abbrev wsX120 : List Cond := u_ws RX12 TX12 39
theorem nmX12 : ∀ a, a < 39 → ∀ b, b < 39 → a ≠ b → (TX12 a).2.1 ≠ (TX12 b).2.1 := by decide +kernel
theorem tyX12_ok : ∀ k, k < 39 → parseFieldDescriptor (TX12 k).2.2.1 = some (tyX12 k) := by decide +kernel
abbrev cX12_init : ByteArray := prog_14_method_1_code
def yX12_init : MethodName := ⟨RX12, "<init>", "()V"⟩
abbrev cX12_in : ByteArray := prog_14_method_3_code
def yX12_in : MethodName := ⟨RX12, "in", "(III)Z"⟩
abbrev cX12_less : ByteArray := prog_14_method_4_code
def yX12_less : MethodName := ⟨RX12, "less", "(II)I"⟩
abbrev cX12_more : ByteArray := prog_14_method_5_code
def yX12_more : MethodName := ⟨RX12, "more", "(II)I"⟩
abbrev cX12_orNone : ByteArray := prog_14_method_6_code
def yX12_orNone : MethodName := ⟨RX12, "orNone", "(I)I"⟩
abbrev cX12_isMember : ByteArray := prog_14_method_7_code
def yX12_isMember : MethodName := ⟨RX12, "isMember", "(I)Z"⟩
abbrev cX12_isLine : ByteArray := prog_14_method_8_code
def yX12_isLine : MethodName := ⟨RX12, "isLine", "(I)Z"⟩
abbrev cX12_isPast : ByteArray := prog_14_method_9_code
def yX12_isPast : MethodName := ⟨RX12, "isPast", "(I)Z"⟩
abbrev cX12_isDay : ByteArray := prog_14_method_10_code
def yX12_isDay : MethodName := ⟨RX12, "isDay", "(I)Z"⟩
abbrev cX12_member : ByteArray := prog_14_method_11_code
def yX12_member : MethodName := ⟨RX12, "member", "(II)I"⟩
abbrev cX12_is : ByteArray := prog_14_method_12_code
def yX12_is : MethodName := ⟨RX12, "is", "(II)I"⟩
abbrev cX12_pool : ByteArray := prog_14_method_13_code
def yX12_pool : MethodName := ⟨RX12, "pool", "(II)I"⟩
abbrev cX12_marks : ByteArray := prog_14_method_14_code
def yX12_marks : MethodName := ⟨RX12, "marks", "(II)I"⟩
abbrev cX12_lay : ByteArray := prog_14_method_15_code
def yX12_lay : MethodName := ⟨RX12, "lay", "(I)I"⟩
abbrev cX12_days : ByteArray := prog_14_method_16_code
def yX12_days : MethodName := ⟨RX12, "days", "(I)I"⟩
abbrev cX12_rule : ByteArray := prog_14_method_17_code
def yX12_rule : MethodName := ⟨RX12, "rule", "(II)I"⟩
abbrev cX12_tells : ByteArray := prog_14_method_18_code
def yX12_tells : MethodName := ⟨RX12, "tells", "(IIIIII)I"⟩
abbrev cX12_fly : ByteArray := prog_14_method_19_code
def yX12_fly : MethodName := ⟨RX12, "fly", "(IIIII)I"⟩
abbrev cX12_spend : ByteArray := prog_14_method_20_code
def yX12_spend : MethodName := ⟨RX12, "spend", "(IIII)I"⟩
abbrev cX12_gift : ByteArray := prog_14_method_21_code
def yX12_gift : MethodName := ⟨RX12, "gift", "(IIII)I"⟩
abbrev cX12_back : ByteArray := prog_14_method_22_code
def yX12_back : MethodName := ⟨RX12, "back", "(II)I"⟩
abbrev cX12_withdraw : ByteArray := prog_14_method_23_code
def yX12_withdraw : MethodName := ⟨RX12, "withdraw", "(I)I"⟩
abbrev cX12_line : ByteArray := prog_14_method_24_code
def yX12_line : MethodName := ⟨RX12, "line", "(II)I"⟩
abbrev cX12_feed : ByteArray := prog_14_method_25_code
def yX12_feed : MethodName := ⟨RX12, "feed", "(III)I"⟩
abbrev cX12_trim : ByteArray := prog_14_method_26_code
def yX12_trim : MethodName := ⟨RX12, "trim", "(I)I"⟩
abbrev cX12_wrong : ByteArray := prog_14_method_27_code
def yX12_wrong : MethodName := ⟨RX12, "wrong", "()V"⟩
abbrev cX12_sortOf : ByteArray := prog_14_method_28_code
def yX12_sortOf : MethodName := ⟨RX12, "sortOf", "(I)I"⟩
abbrev cX12_next : ByteArray := prog_14_method_29_code
def yX12_next : MethodName := ⟨RX12, "next", "()V"⟩
abbrev cX12_isSign : ByteArray := prog_14_method_30_code
def yX12_isSign : MethodName := ⟨RX12, "isSign", "(I)Z"⟩
abbrev cX12_isLetter : ByteArray := prog_14_method_31_code
def yX12_isLetter : MethodName := ⟨RX12, "isLetter", "(II)Z"⟩
abbrev cX12_isWord : ByteArray := prog_14_method_32_code
def yX12_isWord : MethodName := ⟨RX12, "isWord", "(IIIII)Z"⟩
abbrev cX12_emit : ByteArray := prog_14_method_33_code
def yX12_emit : MethodName := ⟨RX12, "emit", "(II)V"⟩
abbrev cX12_works : ByteArray := prog_14_method_34_code
def yX12_works : MethodName := ⟨RX12, "works", "(I)V"⟩
abbrev cX12_parted : ByteArray := prog_14_method_35_code
def yX12_parted : MethodName := ⟨RX12, "parted", "()V"⟩
abbrev cX12_isName : ByteArray := prog_14_method_36_code
def yX12_isName : MethodName := ⟨RX12, "isName", "(I)Z"⟩
abbrev cX12_begins : ByteArray := prog_14_method_37_code
def yX12_begins : MethodName := ⟨RX12, "begins", "()Z"⟩
abbrev cX12_signHere : ByteArray := prog_14_method_38_code
def yX12_signHere : MethodName := ⟨RX12, "signHere", "()I"⟩
abbrev cX12_expression : ByteArray := prog_14_method_39_code
def yX12_expression : MethodName := ⟨RX12, "expression", "()V"⟩
abbrev cX12_reads : ByteArray := prog_14_method_40_code
def yX12_reads : MethodName := ⟨RX12, "reads", "(IZ)V"⟩
abbrev cX12_terms : ByteArray := prog_14_method_41_code
def yX12_terms : MethodName := ⟨RX12, "terms", "(I)I"⟩
abbrev cX12_both : ByteArray := prog_14_method_42_code
def yX12_both : MethodName := ⟨RX12, "both", "(III)I"⟩
abbrev cX12_worked : ByteArray := prog_14_method_43_code
def yX12_worked : MethodName := ⟨RX12, "worked", "(II)I"⟩
abbrev cX12_termsOn : ByteArray := prog_14_method_44_code
def yX12_termsOn : MethodName := ⟨RX12, "termsOn", "(I)I"⟩
abbrev cX12_within : ByteArray := prog_14_method_45_code
def yX12_within : MethodName := ⟨RX12, "within", "(III)I"⟩
abbrev cX12_isKnown : ByteArray := prog_14_method_46_code
def yX12_isKnown : MethodName := ⟨RX12, "isKnown", "(II)Z"⟩
abbrev cX12_comes : ByteArray := prog_14_method_47_code
def yX12_comes : MethodName := ⟨RX12, "comes", "(III)V"⟩
abbrev cX12_tierBy : ByteArray := prog_14_method_48_code
def yX12_tierBy : MethodName := ⟨RX12, "tierBy", "(II)I"⟩
abbrev cX12_tierOn : ByteArray := prog_14_method_49_code
def yX12_tierOn : MethodName := ⟨RX12, "tierOn", "(II)I"⟩
abbrev cX12_flies : ByteArray := prog_14_method_50_code
def yX12_flies : MethodName := ⟨RX12, "flies", "(I)V"⟩
abbrev cX12_isOwn : ByteArray := prog_14_method_51_code
def yX12_isOwn : MethodName := ⟨RX12, "isOwn", "(IIZ)Z"⟩
abbrev cX12_there : ByteArray := prog_14_method_52_code
def yX12_there : MethodName := ⟨RX12, "there", "(IIZ)J"⟩
abbrev cX12_takes : ByteArray := prog_14_method_53_code
def yX12_takes : MethodName := ⟨RX12, "takes", "(IIIZ)I"⟩
abbrev cX12_happens : ByteArray := prog_14_method_54_code
def yX12_happens : MethodName := ⟨RX12, "happens", "(I)V"⟩
abbrev cX12_stand : ByteArray := prog_14_method_55_code
def yX12_stand : MethodName := ⟨RX12, "stand", "(II)V"⟩
abbrev cX12_stands : ByteArray := prog_14_method_56_code
def yX12_stands : MethodName := ⟨RX12, "stands", "(IIII)I"⟩
abbrev cX12_brought : ByteArray := prog_14_method_57_code
def yX12_brought : MethodName := ⟨RX12, "brought", "(III)I"⟩
abbrev cX12_owes : ByteArray := prog_14_method_58_code
def yX12_owes : MethodName := ⟨RX12, "owes", "(III)I"⟩
abbrev cX12_rate : ByteArray := prog_14_method_59_code
def yX12_rate : MethodName := ⟨RX12, "rate", "(III)I"⟩
abbrev cX12_flight : ByteArray := prog_14_method_60_code
def yX12_flight : MethodName := ⟨RX12, "flight", "(IIII)I"⟩
abbrev cX12_isFlight : ByteArray := prog_14_method_61_code
def yX12_isFlight : MethodName := ⟨RX12, "isFlight", "(I)Z"⟩
abbrev cX12_ask : ByteArray := prog_14_method_62_code
def yX12_ask : MethodName := ⟨RX12, "ask", "(III)I"⟩
abbrev cX12_priceFor : ByteArray := prog_14_method_63_code
def yX12_priceFor : MethodName := ⟨RX12, "priceFor", "(I)I"⟩
abbrev cX12_pays : ByteArray := prog_14_method_64_code
def yX12_pays : MethodName := ⟨RX12, "pays", "(I)Z"⟩
abbrev cX12_settle : ByteArray := prog_14_method_65_code
def yX12_settle : MethodName := ⟨RX12, "settle", "(I)I"⟩
abbrev cX12_asked : ByteArray := prog_14_method_66_code
def yX12_asked : MethodName := ⟨RX12, "asked", "(II)I"⟩
abbrev cX12_open : ByteArray := prog_14_method_67_code
def yX12_open : MethodName := ⟨RX12, "open", "(I)I"⟩
abbrev cX12_offer : ByteArray := prog_14_method_68_code
def yX12_offer : MethodName := ⟨RX12, "offer", "(III)I"⟩
abbrev cX12_clear : ByteArray := prog_14_method_69_code
def yX12_clear : MethodName := ⟨RX12, "clear", "()I"⟩
abbrev cX12_wayBy : ByteArray := prog_14_method_70_code
def yX12_wayBy : MethodName := ⟨RX12, "wayBy", "(III)I"⟩
abbrev cX12_findWays : ByteArray := prog_14_method_71_code
def yX12_findWays : MethodName := ⟨RX12, "findWays", "(I)V"⟩
abbrev cX12_findWay : ByteArray := prog_14_method_72_code
def yX12_findWay : MethodName := ⟨RX12, "findWay", "(I)I"⟩
abbrev cX12_way : ByteArray := prog_14_method_73_code
def yX12_way : MethodName := ⟨RX12, "way", "(I)I"⟩
abbrev cX12_taken : ByteArray := prog_14_method_74_code
def yX12_taken : MethodName := ⟨RX12, "taken", "(II)I"⟩
abbrev cX12_tell : ByteArray := prog_14_method_75_code
def yX12_tell : MethodName := ⟨RX12, "tell", "(I)I"⟩
abbrev cX12_check : ByteArray := prog_14_method_76_code
def yX12_check : MethodName := ⟨RX12, "check", "(I)I"⟩
abbrev cX12_ringOf : ByteArray := prog_14_method_77_code
def yX12_ringOf : MethodName := ⟨RX12, "ringOf", "(I)I"⟩
abbrev cX12_ring : ByteArray := prog_14_method_78_code
def yX12_ring : MethodName := ⟨RX12, "ring", "(I)I"⟩
abbrev cX12_keep : ByteArray := prog_14_method_79_code
def yX12_keep : MethodName := ⟨RX12, "keep", "()I"⟩
abbrev cX12_again : ByteArray := prog_14_method_80_code
def yX12_again : MethodName := ⟨RX12, "again", "()I"⟩
abbrev cX12_sheet : ByteArray := prog_14_method_81_code
def yX12_sheet : MethodName := ⟨RX12, "sheet", "(II)I"⟩
abbrev cX12_mark : ByteArray := prog_14_method_82_code
def yX12_mark : MethodName := ⟨RX12, "mark", "(III)I"⟩
abbrev cX12_copy : ByteArray := prog_14_method_83_code
def yX12_copy : MethodName := ⟨RX12, "copy", "(IIIII)I"⟩
abbrev cX12_count : ByteArray := prog_14_method_84_code
def yX12_count : MethodName := ⟨RX12, "count", "(I)I"⟩
def RJx145de : String := "java/io/Serializable"
def TJx145de : u_T := fun k => match k with
  | _ => ("", "", "", false)
def tyJx145de : Nat → FieldType := fun k => match k with
  | _ => .int
theorem nmJx145de : ∀ a, a < 0 → ∀ b, b < 0 → a ≠ b → (TJx145de a).2.1 ≠ (TJx145de b).2.1 := by decide +kernel
theorem tyJx145de_ok : ∀ k, k < 0 → parseFieldDescriptor (TJx145de k).2.2.1 = some (tyJx145de k) := by decide +kernel
def RJx9f9b0 : String := "java/lang/CharSequence"
def TJx9f9b0 : u_T := fun k => match k with
  | _ => ("", "", "", false)
def tyJx9f9b0 : Nat → FieldType := fun k => match k with
  | _ => .int
theorem nmJx9f9b0 : ∀ a, a < 0 → ∀ b, b < 0 → a ≠ b → (TJx9f9b0 a).2.1 ≠ (TJx9f9b0 b).2.1 := by decide +kernel
theorem tyJx9f9b0_ok : ∀ k, k < 0 → parseFieldDescriptor (TJx9f9b0 k).2.2.1 = some (tyJx9f9b0 k) := by decide +kernel
def RJ11 : String := "java/lang/Character"
def TJ11 : u_T := fun k => match k with
  | _ => ("", "", "", false)
def tyJ11 : Nat → FieldType := fun k => match k with
  | _ => .int
theorem nmJ11 : ∀ a, a < 0 → ∀ b, b < 0 → a ≠ b → (TJ11 a).2.1 ≠ (TJ11 b).2.1 := by decide +kernel
theorem tyJ11_ok : ∀ k, k < 0 → parseFieldDescriptor (TJ11 k).2.2.1 = some (tyJ11 k) := by decide +kernel
abbrev cJ11_isValidCodePoint_9a6ad : ByteArray := prog_15_method_11_code
def yJ11_isValidCodePoint_9a6ad : MethodName := ⟨RJ11, "isValidCodePoint", "(I)Z"⟩
abbrev cJ11_highSurrogate_5068e : ByteArray := prog_15_method_28_code
def yJ11_highSurrogate_5068e : MethodName := ⟨RJ11, "highSurrogate", "(I)C"⟩
abbrev cJ11_lowSurrogate_5068e : ByteArray := prog_15_method_29_code
def yJ11_lowSurrogate_5068e : MethodName := ⟨RJ11, "lowSurrogate", "(I)C"⟩
def RJx8e188 : String := "java/lang/Cloneable"
def TJx8e188 : u_T := fun k => match k with
  | _ => ("", "", "", false)
def tyJx8e188 : Nat → FieldType := fun k => match k with
  | _ => .int
theorem nmJx8e188 : ∀ a, a < 0 → ∀ b, b < 0 → a ≠ b → (TJx8e188 a).2.1 ≠ (TJx8e188 b).2.1 := by decide +kernel
theorem tyJx8e188_ok : ∀ k, k < 0 → parseFieldDescriptor (TJx8e188 k).2.2.1 = some (tyJx8e188 k) := by decide +kernel
def RJxb160c : String := "java/lang/Comparable"
def TJxb160c : u_T := fun k => match k with
  | _ => ("", "", "", false)
def tyJxb160c : Nat → FieldType := fun k => match k with
  | _ => .int
theorem nmJxb160c : ∀ a, a < 0 → ∀ b, b < 0 → a ≠ b → (TJxb160c a).2.1 ≠ (TJxb160c b).2.1 := by decide +kernel
theorem tyJxb160c_ok : ∀ k, k < 0 → parseFieldDescriptor (TJxb160c k).2.2.1 = some (tyJxb160c k) := by decide +kernel
def RJ6 : String := "java/lang/Integer"
def TJ6 : u_T := fun k => match k with
  | _ => ("", "", "", false)
def tyJ6 : Nat → FieldType := fun k => match k with
  | _ => .int
theorem nmJ6 : ∀ a, a < 0 → ∀ b, b < 0 → a ≠ b → (TJ6 a).2.1 ≠ (TJ6 b).2.1 := by decide +kernel
theorem tyJ6_ok : ∀ k, k < 0 → parseFieldDescriptor (TJ6 k).2.2.1 = some (tyJ6 k) := by decide +kernel
abbrev cJ6_bitCount_0f7a4 : ByteArray := prog_17_method_49_code
def yJ6_bitCount_0f7a4 : MethodName := ⟨RJ6, "bitCount", "(I)I"⟩
def RJ9 : String := "java/lang/Math"
def TJ9 : u_T := fun k => match k with
  | _ => ("", "", "", false)
def tyJ9 : Nat → FieldType := fun k => match k with
  | _ => .int
theorem nmJ9 : ∀ a, a < 0 → ∀ b, b < 0 → a ≠ b → (TJ9 a).2.1 ≠ (TJ9 b).2.1 := by decide +kernel
theorem tyJ9_ok : ∀ k, k < 0 → parseFieldDescriptor (TJ9 k).2.2.1 = some (tyJ9 k) := by decide +kernel
abbrev cJ9_max_7cf53 : ByteArray := prog_18_method_65_code
def yJ9_max_7cf53 : MethodName := ⟨RJ9, "max", "(II)I"⟩
abbrev cJ9_min_7cf53 : ByteArray := prog_18_method_69_code
def yJ9_min_7cf53 : MethodName := ⟨RJ9, "min", "(II)I"⟩
def RJ0 : String := "java/lang/String"
def TJ0 : u_T := fun k => match k with
  | _ => ("", "", "", false)
def tyJ0 : Nat → FieldType := fun k => match k with
  | _ => .int
theorem nmJ0 : ∀ a, a < 0 → ∀ b, b < 0 → a ≠ b → (TJ0 a).2.1 ≠ (TJ0 b).2.1 := by decide +kernel
theorem tyJ0_ok : ∀ k, k < 0 → parseFieldDescriptor (TJ0 k).2.2.1 = some (tyJ0 k) := by decide +kernel
abbrev cJ0_length_8abf5 : ByteArray := prog_19_method_54_code
def yJ0_length_8abf5 : MethodName := ⟨RJ0, "length", "()I"⟩
abbrev cJ0_charAt_5068e : ByteArray := prog_19_method_56_code
def yJ0_charAt_5068e : MethodName := ⟨RJ0, "charAt", "(I)C"⟩
abbrev cJ0_indexOf_0f7a4 : ByteArray := prog_19_method_79_code
def yJ0_indexOf_0f7a4 : MethodName := ⟨RJ0, "indexOf", "(I)I"⟩
abbrev cJ0_indexOf_7cf53 : ByteArray := prog_19_method_80_code
def yJ0_indexOf_7cf53 : MethodName := ⟨RJ0, "indexOf", "(II)I"⟩
abbrev cJ0_coder_7d493 : ByteArray := prog_19_method_152_code
def yJ0_coder_7d493 : MethodName := ⟨RJ0, "coder", "()B"⟩
abbrev cJ0_isLatin1_aae02 : ByteArray := prog_19_method_154_code
def yJ0_isLatin1_aae02 : MethodName := ⟨RJ0, "isLatin1", "()Z"⟩
abbrev cJ0_checkIndex_df160 : ByteArray := prog_19_method_155_code
def yJ0_checkIndex_df160 : MethodName := ⟨RJ0, "checkIndex", "(II)V"⟩
abbrev cJ0_checkBoundsBeginEnd_23922 : ByteArray := prog_19_method_158_code
def yJ0_checkBoundsBeginEnd_23922 : MethodName := ⟨RJ0, "checkBoundsBeginEnd", "(III)V"⟩
def RJ1 : String := "java/lang/StringLatin1"
def TJ1 : u_T := fun k => match k with
  | _ => ("", "", "", false)
def tyJ1 : Nat → FieldType := fun k => match k with
  | _ => .int
theorem nmJ1 : ∀ a, a < 0 → ∀ b, b < 0 → a ≠ b → (TJ1 a).2.1 ≠ (TJ1 b).2.1 := by decide +kernel
theorem tyJ1_ok : ∀ k, k < 0 → parseFieldDescriptor (TJ1 k).2.2.1 = some (tyJ1 k) := by decide +kernel
abbrev cJ1_charAt_3b067 : ByteArray := prog_20_method_2_code
def yJ1_charAt_3b067 : MethodName := ⟨RJ1, "charAt", "([BI)C"⟩
abbrev cJ1_canEncode_9a6ad : ByteArray := prog_20_method_4_code
def yJ1_canEncode_9a6ad : MethodName := ⟨RJ1, "canEncode", "(I)Z"⟩
abbrev cJ1_indexOf_4cfef : ByteArray := prog_20_method_22_code
def yJ1_indexOf_4cfef : MethodName := ⟨RJ1, "indexOf", "([BIII)I"⟩
abbrev cJ1_indexOfChar_4cfef : ByteArray := prog_20_method_23_code
def yJ1_indexOfChar_4cfef : MethodName := ⟨RJ1, "indexOfChar", "([BIII)I"⟩
def RJ2 : String := "java/lang/StringUTF16"
def TJ2 : u_T := fun k => match k with
  | _ => ("", "", "", false)
def tyJ2 : Nat → FieldType := fun k => match k with
  | _ => .int
theorem nmJ2 : ∀ a, a < 0 → ∀ b, b < 0 → a ≠ b → (TJ2 a).2.1 ≠ (TJ2 b).2.1 := by decide +kernel
theorem tyJ2_ok : ∀ k, k < 0 → parseFieldDescriptor (TJ2 k).2.2.1 = some (tyJ2 k) := by decide +kernel
abbrev cJ2_getChar_3b067 : ByteArray := prog_21_method_5_code
def yJ2_getChar_3b067 : MethodName := ⟨RJ2, "getChar", "([BI)C"⟩
abbrev cJ2_length_9d52b : ByteArray := prog_21_method_6_code
def yJ2_length_9d52b : MethodName := ⟨RJ2, "length", "([B)I"⟩
abbrev cJ2_indexOf_4cfef : ByteArray := prog_21_method_40_code
def yJ2_indexOf_4cfef : MethodName := ⟨RJ2, "indexOf", "([BIII)I"⟩
abbrev cJ2_indexOfChar_4cfef : ByteArray := prog_21_method_47_code
def yJ2_indexOfChar_4cfef : MethodName := ⟨RJ2, "indexOfChar", "([BIII)I"⟩
abbrev cJ2_indexOfCharUnsafe_4cfef : ByteArray := prog_21_method_48_code
def yJ2_indexOfCharUnsafe_4cfef : MethodName := ⟨RJ2, "indexOfCharUnsafe", "([BIII)I"⟩
abbrev cJ2_indexOfSupplementary_4cfef : ByteArray := prog_21_method_49_code
def yJ2_indexOfSupplementary_4cfef : MethodName := ⟨RJ2, "indexOfSupplementary", "([BIII)I"⟩
abbrev cJ2_charAt_3b067 : ByteArray := prog_21_method_83_code
def yJ2_charAt_3b067 : MethodName := ⟨RJ2, "charAt", "([BI)C"⟩
abbrev cJ2_checkIndex_2214a : ByteArray := prog_21_method_91_code
def yJ2_checkIndex_2214a : MethodName := ⟨RJ2, "checkIndex", "(I[B)V"⟩
abbrev cJ2_checkBoundsBeginEnd_d044e : ByteArray := prog_21_method_93_code
def yJ2_checkBoundsBeginEnd_d044e : MethodName := ⟨RJ2, "checkBoundsBeginEnd", "(II[B)V"⟩
def RJ10 : String := "java/lang/System"
def TJ10 : u_T := fun k => match k with
  | _ => ("", "", "", false)
def tyJ10 : Nat → FieldType := fun k => match k with
  | _ => .int
theorem nmJ10 : ∀ a, a < 0 → ∀ b, b < 0 → a ≠ b → (TJ10 a).2.1 ≠ (TJ10 b).2.1 := by decide +kernel
theorem tyJ10_ok : ∀ k, k < 0 → parseFieldDescriptor (TJ10 k).2.2.1 = some (tyJ10 k) := by decide +kernel
def RJxfd54e : String := "java/lang/constant/Constable"
def TJxfd54e : u_T := fun k => match k with
  | _ => ("", "", "", false)
def tyJxfd54e : Nat → FieldType := fun k => match k with
  | _ => .int
theorem nmJxfd54e : ∀ a, a < 0 → ∀ b, b < 0 → a ≠ b → (TJxfd54e a).2.1 ≠ (TJxfd54e b).2.1 := by decide +kernel
theorem tyJxfd54e_ok : ∀ k, k < 0 → parseFieldDescriptor (TJxfd54e k).2.2.1 = some (tyJxfd54e k) := by decide +kernel
def RJx3cf43 : String := "java/lang/constant/ConstantDesc"
def TJx3cf43 : u_T := fun k => match k with
  | _ => ("", "", "", false)
def tyJx3cf43 : Nat → FieldType := fun k => match k with
  | _ => .int
theorem nmJx3cf43 : ∀ a, a < 0 → ∀ b, b < 0 → a ≠ b → (TJx3cf43 a).2.1 ≠ (TJx3cf43 b).2.1 := by decide +kernel
theorem tyJx3cf43_ok : ∀ k, k < 0 → parseFieldDescriptor (TJx3cf43 k).2.2.1 = some (tyJx3cf43 k) := by decide +kernel
def RJ7 : String := "java/util/Arrays"
def TJ7 : u_T := fun k => match k with
  | _ => ("", "", "", false)
def tyJ7 : Nat → FieldType := fun k => match k with
  | _ => .int
theorem nmJ7 : ∀ a, a < 0 → ∀ b, b < 0 → a ≠ b → (TJ7 a).2.1 ≠ (TJ7 b).2.1 := by decide +kernel
theorem tyJ7_ok : ∀ k, k < 0 → parseFieldDescriptor (TJ7 k).2.2.1 = some (tyJ7 k) := by decide +kernel
abbrev cJ7_fill_d0a16 : ByteArray := prog_23_method_101_code
def yJ7_fill_d0a16 : MethodName := ⟨RJ7, "fill", "([JJ)V"⟩
abbrev cJ7_fill_53178 : ByteArray := prog_23_method_103_code
def yJ7_fill_53178 : MethodName := ⟨RJ7, "fill", "([II)V"⟩
abbrev cJ7_copyOf_59c91 : ByteArray := prog_23_method_123_code
def yJ7_copyOf_59c91 : MethodName := ⟨RJ7, "copyOf", "([II)[I"⟩
def RJ3 : String := "jdk/internal/util/Preconditions"
def TJ3 : u_T := fun k => match k with
  | _ => ("", "", "", false)
def tyJ3 : Nat → FieldType := fun k => match k with
  | _ => .int
theorem nmJ3 : ∀ a, a < 0 → ∀ b, b < 0 → a ≠ b → (TJ3 a).2.1 ≠ (TJ3 b).2.1 := by decide +kernel
theorem tyJ3_ok : ∀ k, k < 0 → parseFieldDescriptor (TJ3 k).2.2.1 = some (tyJ3 k) := by decide +kernel
abbrev cJ3_checkIndex_8e157 : ByteArray := prog_24_method_11_code
def yJ3_checkIndex_8e157 : MethodName := ⟨RJ3, "checkIndex", "(IILjava/util/function/BiFunction;)I"⟩
abbrev cJ3_checkFromToIndex_8c36e : ByteArray := prog_24_method_12_code
def yJ3_checkFromToIndex_8c36e : MethodName := ⟨RJ3, "checkFromToIndex", "(IIILjava/util/function/BiFunction;)I"⟩
def RL : String := "MilesHallLaw"
abbrev cL_law : ByteArray := code
def yL_law : MethodName := ⟨RL, "law", "([I)Z"⟩
abbrev vwCl : List vw_C := [(RX0, TX0, 9), (RX1, TX1, 11), (RX2, TX2, 10), (RX3, TX3, 10), (RX4, TX4, 4), (RX5, TX5, 4), (RX6, TX6, 10), (RX7, TX7, 14), (RX8, TX8, 3), (RX9, TX9, 3), (RX10, TX10, 2), (RX11, TX11, 11), (RX12, TX12, 39)]
