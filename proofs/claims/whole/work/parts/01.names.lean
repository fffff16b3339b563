-- ===== PART A: goes FIRST, ahead of the names: the tables' words, and 'selects' of the private methods out of them =====
/-- a private method of a class that the tables say can be made, by its rows of tables_1 -/
def lw_okq (q : MethodName × Nat) : Prop := (q.1.cls ≠ "java/lang/invoke/MethodHandle" ∧ q.1.cls ≠ "java/lang/invoke/VarHandle") ∧ Cond.instantiable q.1.cls q.2 ∈ tables_1 ∧ Cond.privateMethod q.1 ∈ tables_1 ∧ Cond.instanceMethod q.1 ∈ tables_1
theorem lw_p0 : lw_okq (⟨"ArchTrades", "found", "(I)I"⟩, 11) := ⟨⟨by decide +kernel, by decide +kernel⟩, List.mem_of_getElem? (i := 19) (by decide +kernel), List.mem_of_getElem? (i := 282) (by decide +kernel), List.mem_of_getElem? (i := 283) (by decide +kernel)⟩
theorem lw_p1 : lw_okq (⟨"ArchTrades", "unfound", "(I)I"⟩, 11) := ⟨⟨by decide +kernel, by decide +kernel⟩, List.mem_of_getElem? (i := 19) (by decide +kernel), List.mem_of_getElem? (i := 291) (by decide +kernel), List.mem_of_getElem? (i := 292) (by decide +kernel)⟩
theorem lw_p2 : lw_okq (⟨"ArchTrades$Reader", "readTide", "(LArchTrades$Tape;)Z"⟩, 2) := ⟨⟨by decide +kernel, by decide +kernel⟩, List.mem_of_getElem? (i := 67) (by decide +kernel), List.mem_of_getElem? (i := 379) (by decide +kernel), List.mem_of_getElem? (i := 380) (by decide +kernel)⟩
theorem lw_p3 : lw_okq (⟨"ArchTrades$Reader", "faulty", "(I)Z"⟩, 2) := ⟨⟨by decide +kernel, by decide +kernel⟩, List.mem_of_getElem? (i := 67) (by decide +kernel), List.mem_of_getElem? (i := 436) (by decide +kernel), List.mem_of_getElem? (i := 437) (by decide +kernel)⟩
theorem lw_p4 : lw_okq (⟨"ArchTrades$Reader", "readNumber", "(LArchTrades$Tape;II[II)Z"⟩, 2) := ⟨⟨by decide +kernel, by decide +kernel⟩, List.mem_of_getElem? (i := 67) (by decide +kernel), List.mem_of_getElem? (i := 441) (by decide +kernel), List.mem_of_getElem? (i := 442) (by decide +kernel)⟩
theorem lw_p5 : lw_okq (⟨"ArchTrades$Reader", "readSign", "(LArchTrades$Tape;)Z"⟩, 2) := ⟨⟨by decide +kernel, by decide +kernel⟩, List.mem_of_getElem? (i := 67) (by decide +kernel), List.mem_of_getElem? (i := 453) (by decide +kernel), List.mem_of_getElem? (i := 454) (by decide +kernel)⟩
theorem lw_p6 : lw_okq (⟨"ArchTrades$Reader", "readArches", "(LArchTrades$Tape;)Z"⟩, 2) := ⟨⟨by decide +kernel, by decide +kernel⟩, List.mem_of_getElem? (i := 67) (by decide +kernel), List.mem_of_getElem? (i := 461) (by decide +kernel), List.mem_of_getElem? (i := 462) (by decide +kernel)⟩
theorem lw_p7 : lw_okq (⟨"ArchTrades$Reader", "readArch", "(LArchTrades$Tape;I)Z"⟩, 2) := ⟨⟨by decide +kernel, by decide +kernel⟩, List.mem_of_getElem? (i := 67) (by decide +kernel), List.mem_of_getElem? (i := 466) (by decide +kernel), List.mem_of_getElem? (i := 467) (by decide +kernel)⟩
theorem lw_p8 : lw_okq (⟨"ArchTrades$Reader", "readBoats", "(LArchTrades$Tape;)Z"⟩, 2) := ⟨⟨by decide +kernel, by decide +kernel⟩, List.mem_of_getElem? (i := 67) (by decide +kernel), List.mem_of_getElem? (i := 473) (by decide +kernel), List.mem_of_getElem? (i := 474) (by decide +kernel)⟩
theorem lw_p9 : lw_okq (⟨"ArchTrades$Reader", "readBoat", "(LArchTrades$Tape;I)Z"⟩, 2) := ⟨⟨by decide +kernel, by decide +kernel⟩, List.mem_of_getElem? (i := 67) (by decide +kernel), List.mem_of_getElem? (i := 478) (by decide +kernel), List.mem_of_getElem? (i := 479) (by decide +kernel)⟩
theorem lw_p10 : lw_okq (⟨"ArchTrades$Reader", "sortTold", "(LArchTrades$Tape;)I"⟩, 2) := ⟨⟨by decide +kernel, by decide +kernel⟩, List.mem_of_getElem? (i := 67) (by decide +kernel), List.mem_of_getElem? (i := 482) (by decide +kernel), List.mem_of_getElem? (i := 483) (by decide +kernel)⟩
theorem lw_p11 : lw_okq (⟨"ArchTrades$Bridge", "tradesOf", "(I)I"⟩, 15) := ⟨⟨by decide +kernel, by decide +kernel⟩, List.mem_of_getElem? (i := 73) (by decide +kernel), List.mem_of_getElem? (i := 584) (by decide +kernel), List.mem_of_getElem? (i := 585) (by decide +kernel)⟩
theorem lw_p12 : lw_okq (⟨"ArchTrades$Bridge", "markWent", "(III)V"⟩, 15) := ⟨⟨by decide +kernel, by decide +kernel⟩, List.mem_of_getElem? (i := 73) (by decide +kernel), List.mem_of_getElem? (i := 631) (by decide +kernel), List.mem_of_getElem? (i := 632) (by decide +kernel)⟩
theorem lw_p13 : lw_okq (⟨"ArchTrades$Foretold", "greatestOf", "(LArchTrades$Bridge;III)I"⟩, 11) := ⟨⟨by decide +kernel, by decide +kernel⟩, List.mem_of_getElem? (i := 187) (by decide +kernel), List.mem_of_getElem? (i := 707) (by decide +kernel), List.mem_of_getElem? (i := 708) (by decide +kernel)⟩
theorem lw_p14 : lw_okq (⟨"ArchTrades$Foretold", "prepare", "(LArchTrades$Bridge;III)V"⟩, 11) := ⟨⟨by decide +kernel, by decide +kernel⟩, List.mem_of_getElem? (i := 187) (by decide +kernel), List.mem_of_getElem? (i := 711) (by decide +kernel), List.mem_of_getElem? (i := 712) (by decide +kernel)⟩
theorem lw_p15 : lw_okq (⟨"ArchTrades$Foretold", "placedFrom", "(I)I"⟩, 11) := ⟨⟨by decide +kernel, by decide +kernel⟩, List.mem_of_getElem? (i := 187) (by decide +kernel), List.mem_of_getElem? (i := 725) (by decide +kernel), List.mem_of_getElem? (i := 726) (by decide +kernel)⟩
def lw_privs_1 : List (MethodName × Nat) := [(⟨"ArchTrades", "found", "(I)I"⟩, 11), (⟨"ArchTrades", "unfound", "(I)I"⟩, 11), (⟨"ArchTrades$Reader", "readTide", "(LArchTrades$Tape;)Z"⟩, 2), (⟨"ArchTrades$Reader", "faulty", "(I)Z"⟩, 2), (⟨"ArchTrades$Reader", "readNumber", "(LArchTrades$Tape;II[II)Z"⟩, 2), (⟨"ArchTrades$Reader", "readSign", "(LArchTrades$Tape;)Z"⟩, 2), (⟨"ArchTrades$Reader", "readArches", "(LArchTrades$Tape;)Z"⟩, 2), (⟨"ArchTrades$Reader", "readArch", "(LArchTrades$Tape;I)Z"⟩, 2), (⟨"ArchTrades$Reader", "readBoats", "(LArchTrades$Tape;)Z"⟩, 2), (⟨"ArchTrades$Reader", "readBoat", "(LArchTrades$Tape;I)Z"⟩, 2), (⟨"ArchTrades$Reader", "sortTold", "(LArchTrades$Tape;)I"⟩, 2), (⟨"ArchTrades$Bridge", "tradesOf", "(I)I"⟩, 15), (⟨"ArchTrades$Bridge", "markWent", "(III)V"⟩, 15), (⟨"ArchTrades$Foretold", "greatestOf", "(LArchTrades$Bridge;III)I"⟩, 11), (⟨"ArchTrades$Foretold", "prepare", "(LArchTrades$Bridge;III)V"⟩, 11), (⟨"ArchTrades$Foretold", "placedFrom", "(I)I"⟩, 11)]
theorem lw_r1 : ∀ q ∈ lw_privs_1, lw_okq q := List.forall_mem_cons.mpr ⟨lw_p0, List.forall_mem_cons.mpr ⟨lw_p1, List.forall_mem_cons.mpr ⟨lw_p2, List.forall_mem_cons.mpr ⟨lw_p3, List.forall_mem_cons.mpr ⟨lw_p4, List.forall_mem_cons.mpr ⟨lw_p5, List.forall_mem_cons.mpr ⟨lw_p6, List.forall_mem_cons.mpr ⟨lw_p7, List.forall_mem_cons.mpr ⟨lw_p8, List.forall_mem_cons.mpr ⟨lw_p9, List.forall_mem_cons.mpr ⟨lw_p10, List.forall_mem_cons.mpr ⟨lw_p11, List.forall_mem_cons.mpr ⟨lw_p12, List.forall_mem_cons.mpr ⟨lw_p13, List.forall_mem_cons.mpr ⟨lw_p14, List.forall_mem_cons.mpr ⟨lw_p15, fun _ h => absurd h List.not_mem_nil⟩⟩⟩⟩⟩⟩⟩⟩⟩⟩⟩⟩⟩⟩⟩⟩
theorem lw_p16 : lw_okq (⟨"ArchTrades$Foretold", "findPlace", "(II)Z"⟩, 11) := ⟨⟨by decide +kernel, by decide +kernel⟩, List.mem_of_getElem? (i := 187) (by decide +kernel), List.mem_of_getElem? (i := 731) (by decide +kernel), List.mem_of_getElem? (i := 732) (by decide +kernel)⟩
theorem lw_p17 : lw_okq (⟨"ArchTrades$Foretold", "openHours", "(II)I"⟩, 11) := ⟨⟨by decide +kernel, by decide +kernel⟩, List.mem_of_getElem? (i := 187) (by decide +kernel), List.mem_of_getElem? (i := 735) (by decide +kernel), List.mem_of_getElem? (i := 736) (by decide +kernel)⟩
theorem lw_p18 : lw_okq (⟨"ArchTrades$Foretold", "givePlace", "(III)V"⟩, 11) := ⟨⟨by decide +kernel, by decide +kernel⟩, List.mem_of_getElem? (i := 187) (by decide +kernel), List.mem_of_getElem? (i := 740) (by decide +kernel), List.mem_of_getElem? (i := 741) (by decide +kernel)⟩
theorem lw_p19 : lw_okq (⟨"ArchTrades$Foretold", "settleFirst", "(IIII)I"⟩, 11) := ⟨⟨by decide +kernel, by decide +kernel⟩, List.mem_of_getElem? (i := 187) (by decide +kernel), List.mem_of_getElem? (i := 749) (by decide +kernel), List.mem_of_getElem? (i := 750) (by decide +kernel)⟩
theorem lw_p20 : lw_okq (⟨"ArchTrades$Foretold", "countHopeful", "()I"⟩, 11) := ⟨⟨by decide +kernel, by decide +kernel⟩, List.mem_of_getElem? (i := 187) (by decide +kernel), List.mem_of_getElem? (i := 761) (by decide +kernel), List.mem_of_getElem? (i := 762) (by decide +kernel)⟩
theorem lw_p21 : lw_okq (⟨"ArchTrades$Foretold", "sortCharters", "()V"⟩, 11) := ⟨⟨by decide +kernel, by decide +kernel⟩, List.mem_of_getElem? (i := 187) (by decide +kernel), List.mem_of_getElem? (i := 765) (by decide +kernel), List.mem_of_getElem? (i := 766) (by decide +kernel)⟩
theorem lw_p22 : lw_okq (⟨"ArchTrades$Foretold", "swapCharters", "(II)V"⟩, 11) := ⟨⟨by decide +kernel, by decide +kernel⟩, List.mem_of_getElem? (i := 187) (by decide +kernel), List.mem_of_getElem? (i := 769) (by decide +kernel), List.mem_of_getElem? (i := 770) (by decide +kernel)⟩
theorem lw_p23 : lw_okq (⟨"ArchTrades$Foretold", "dealNext", "()Z"⟩, 11) := ⟨⟨by decide +kernel, by decide +kernel⟩, List.mem_of_getElem? (i := 187) (by decide +kernel), List.mem_of_getElem? (i := 773) (by decide +kernel), List.mem_of_getElem? (i := 774) (by decide +kernel)⟩
theorem lw_p24 : lw_okq (⟨"ArchTrades", "areTrades", "(II)Z"⟩, 11) := ⟨⟨by decide +kernel, by decide +kernel⟩, List.mem_of_getElem? (i := 19) (by decide +kernel), List.mem_of_getElem? (i := 793) (by decide +kernel), List.mem_of_getElem? (i := 794) (by decide +kernel)⟩
theorem lw_p25 : lw_okq (⟨"ArchTrades", "falselyDeclared", "(II)I"⟩, 11) := ⟨⟨by decide +kernel, by decide +kernel⟩, List.mem_of_getElem? (i := 19) (by decide +kernel), List.mem_of_getElem? (i := 801) (by decide +kernel), List.mem_of_getElem? (i := 802) (by decide +kernel)⟩
theorem lw_p26 : lw_okq (⟨"ArchTrades", "imageOf", "(I)LArchTrades$Bridge;"⟩, 11) := ⟨⟨by decide +kernel, by decide +kernel⟩, List.mem_of_getElem? (i := 19) (by decide +kernel), List.mem_of_getElem? (i := 820) (by decide +kernel), List.mem_of_getElem? (i := 821) (by decide +kernel)⟩
theorem lw_p27 : lw_okq (⟨"ArchTrades$Asks", "gives", "(ILArchTrades$Bridge;II)I"⟩, 2) := ⟨⟨by decide +kernel, by decide +kernel⟩, List.mem_of_getElem? (i := 227) (by decide +kernel), List.mem_of_getElem? (i := 856) (by decide +kernel), List.mem_of_getElem? (i := 857) (by decide +kernel)⟩
theorem lw_p28 : lw_okq (⟨"ArchTrades$Asks", "leaveTrace", "(I)V"⟩, 2) := ⟨⟨by decide +kernel, by decide +kernel⟩, List.mem_of_getElem? (i := 227) (by decide +kernel), List.mem_of_getElem? (i := 860) (by decide +kernel), List.mem_of_getElem? (i := 861) (by decide +kernel)⟩
theorem lw_p29 : lw_okq (⟨"ArchTradesModel", "finding", "(I)I"⟩, 34) := ⟨⟨by decide +kernel, by decide +kernel⟩, List.mem_of_getElem? (i := 888) (by decide +kernel), List.mem_of_getElem? (i := 1011) (by decide +kernel), List.mem_of_getElem? (i := 1012) (by decide +kernel)⟩
theorem lw_p30 : lw_okq (⟨"ArchTradesModel", "begin", "()V"⟩, 34) := ⟨⟨by decide +kernel, by decide +kernel⟩, List.mem_of_getElem? (i := 888) (by decide +kernel), List.mem_of_getElem? (i := 1039) (by decide +kernel), List.mem_of_getElem? (i := 1040) (by decide +kernel)⟩
theorem lw_p31 : lw_okq (⟨"ArchTradesModel", "next", "()V"⟩, 34) := ⟨⟨by decide +kernel, by decide +kernel⟩, List.mem_of_getElem? (i := 888) (by decide +kernel), List.mem_of_getElem? (i := 1043) (by decide +kernel), List.mem_of_getElem? (i := 1044) (by decide +kernel)⟩
def lw_privs_2 : List (MethodName × Nat) := [(⟨"ArchTrades$Foretold", "findPlace", "(II)Z"⟩, 11), (⟨"ArchTrades$Foretold", "openHours", "(II)I"⟩, 11), (⟨"ArchTrades$Foretold", "givePlace", "(III)V"⟩, 11), (⟨"ArchTrades$Foretold", "settleFirst", "(IIII)I"⟩, 11), (⟨"ArchTrades$Foretold", "countHopeful", "()I"⟩, 11), (⟨"ArchTrades$Foretold", "sortCharters", "()V"⟩, 11), (⟨"ArchTrades$Foretold", "swapCharters", "(II)V"⟩, 11), (⟨"ArchTrades$Foretold", "dealNext", "()Z"⟩, 11), (⟨"ArchTrades", "areTrades", "(II)Z"⟩, 11), (⟨"ArchTrades", "falselyDeclared", "(II)I"⟩, 11), (⟨"ArchTrades", "imageOf", "(I)LArchTrades$Bridge;"⟩, 11), (⟨"ArchTrades$Asks", "gives", "(ILArchTrades$Bridge;II)I"⟩, 2), (⟨"ArchTrades$Asks", "leaveTrace", "(I)V"⟩, 2), (⟨"ArchTradesModel", "finding", "(I)I"⟩, 34), (⟨"ArchTradesModel", "begin", "()V"⟩, 34), (⟨"ArchTradesModel", "next", "()V"⟩, 34)]
theorem lw_r2 : ∀ q ∈ lw_privs_2, lw_okq q := List.forall_mem_cons.mpr ⟨lw_p16, List.forall_mem_cons.mpr ⟨lw_p17, List.forall_mem_cons.mpr ⟨lw_p18, List.forall_mem_cons.mpr ⟨lw_p19, List.forall_mem_cons.mpr ⟨lw_p20, List.forall_mem_cons.mpr ⟨lw_p21, List.forall_mem_cons.mpr ⟨lw_p22, List.forall_mem_cons.mpr ⟨lw_p23, List.forall_mem_cons.mpr ⟨lw_p24, List.forall_mem_cons.mpr ⟨lw_p25, List.forall_mem_cons.mpr ⟨lw_p26, List.forall_mem_cons.mpr ⟨lw_p27, List.forall_mem_cons.mpr ⟨lw_p28, List.forall_mem_cons.mpr ⟨lw_p29, List.forall_mem_cons.mpr ⟨lw_p30, List.forall_mem_cons.mpr ⟨lw_p31, fun _ h => absurd h List.not_mem_nil⟩⟩⟩⟩⟩⟩⟩⟩⟩⟩⟩⟩⟩⟩⟩⟩
theorem lw_p32 : lw_okq (⟨"ArchTradesModel", "byteAt", "(I)I"⟩, 34) := ⟨⟨by decide +kernel, by decide +kernel⟩, List.mem_of_getElem? (i := 888) (by decide +kernel), List.mem_of_getElem? (i := 1047) (by decide +kernel), List.mem_of_getElem? (i := 1048) (by decide +kernel)⟩
theorem lw_p33 : lw_okq (⟨"ArchTradesModel", "readTide", "()V"⟩, 34) := ⟨⟨by decide +kernel, by decide +kernel⟩, List.mem_of_getElem? (i := 888) (by decide +kernel), List.mem_of_getElem? (i := 1058) (by decide +kernel), List.mem_of_getElem? (i := 1059) (by decide +kernel)⟩
theorem lw_p34 : lw_okq (⟨"ArchTradesModel", "name", "()J"⟩, 34) := ⟨⟨by decide +kernel, by decide +kernel⟩, List.mem_of_getElem? (i := 888) (by decide +kernel), List.mem_of_getElem? (i := 1062) (by decide +kernel), List.mem_of_getElem? (i := 1063) (by decide +kernel)⟩
theorem lw_p35 : lw_okq (⟨"ArchTradesModel", "must", "(Z)V"⟩, 34) := ⟨⟨by decide +kernel, by decide +kernel⟩, List.mem_of_getElem? (i := 888) (by decide +kernel), List.mem_of_getElem? (i := 1067) (by decide +kernel), List.mem_of_getElem? (i := 1068) (by decide +kernel)⟩
theorem lw_p36 : lw_okq (⟨"ArchTradesModel", "bad", "(I)V"⟩, 34) := ⟨⟨by decide +kernel, by decide +kernel⟩, List.mem_of_getElem? (i := 888) (by decide +kernel), List.mem_of_getElem? (i := 1071) (by decide +kernel), List.mem_of_getElem? (i := 1072) (by decide +kernel)⟩
theorem lw_p37 : lw_okq (⟨"ArchTradesModel", "number", "(II)I"⟩, 34) := ⟨⟨by decide +kernel, by decide +kernel⟩, List.mem_of_getElem? (i := 888) (by decide +kernel), List.mem_of_getElem? (i := 1075) (by decide +kernel), List.mem_of_getElem? (i := 1076) (by decide +kernel)⟩
theorem lw_p38 : lw_okq (⟨"ArchTradesModel", "figures", "()I"⟩, 34) := ⟨⟨by decide +kernel, by decide +kernel⟩, List.mem_of_getElem? (i := 888) (by decide +kernel), List.mem_of_getElem? (i := 1079) (by decide +kernel), List.mem_of_getElem? (i := 1080) (by decide +kernel)⟩
theorem lw_p39 : lw_okq (⟨"ArchTradesModel", "mustEnd", "()V"⟩, 34) := ⟨⟨by decide +kernel, by decide +kernel⟩, List.mem_of_getElem? (i := 888) (by decide +kernel), List.mem_of_getElem? (i := 1083) (by decide +kernel), List.mem_of_getElem? (i := 1084) (by decide +kernel)⟩
theorem lw_p40 : lw_okq (⟨"ArchTradesModel", "readArch", "()V"⟩, 34) := ⟨⟨by decide +kernel, by decide +kernel⟩, List.mem_of_getElem? (i := 888) (by decide +kernel), List.mem_of_getElem? (i := 1088) (by decide +kernel), List.mem_of_getElem? (i := 1089) (by decide +kernel)⟩
theorem lw_p41 : lw_okq (⟨"ArchTradesModel", "begins", "(II)V"⟩, 34) := ⟨⟨by decide +kernel, by decide +kernel⟩, List.mem_of_getElem? (i := 888) (by decide +kernel), List.mem_of_getElem? (i := 1092) (by decide +kernel), List.mem_of_getElem? (i := 1093) (by decide +kernel)⟩
theorem lw_p42 : lw_okq (⟨"ArchTradesModel", "readBoat", "()V"⟩, 34) := ⟨⟨by decide +kernel, by decide +kernel⟩, List.mem_of_getElem? (i := 888) (by decide +kernel), List.mem_of_getElem? (i := 1097) (by decide +kernel), List.mem_of_getElem? (i := 1098) (by decide +kernel)⟩
theorem lw_p43 : lw_okq (⟨"ArchTradesModel", "isArch", "(I)Z"⟩, 34) := ⟨⟨by decide +kernel, by decide +kernel⟩, List.mem_of_getElem? (i := 888) (by decide +kernel), List.mem_of_getElem? (i := 1118) (by decide +kernel), List.mem_of_getElem? (i := 1119) (by decide +kernel)⟩
theorem lw_p44 : lw_okq (⟨"ArchTradesModel", "becomes", "(II)I"⟩, 34) := ⟨⟨by decide +kernel, by decide +kernel⟩, List.mem_of_getElem? (i := 888) (by decide +kernel), List.mem_of_getElem? (i := 1123) (by decide +kernel), List.mem_of_getElem? (i := 1124) (by decide +kernel)⟩
theorem lw_p45 : lw_okq (⟨"ArchTradesModel", "keep", "()V"⟩, 34) := ⟨⟨by decide +kernel, by decide +kernel⟩, List.mem_of_getElem? (i := 888) (by decide +kernel), List.mem_of_getElem? (i := 1127) (by decide +kernel), List.mem_of_getElem? (i := 1128) (by decide +kernel)⟩
theorem lw_p46 : lw_okq (⟨"ArchTradesModel", "isBoat", "(I)Z"⟩, 34) := ⟨⟨by decide +kernel, by decide +kernel⟩, List.mem_of_getElem? (i := 888) (by decide +kernel), List.mem_of_getElem? (i := 1139) (by decide +kernel), List.mem_of_getElem? (i := 1140) (by decide +kernel)⟩
theorem lw_p47 : lw_okq (⟨"ArchTradesModel", "sideOf", "(I)I"⟩, 34) := ⟨⟨by decide +kernel, by decide +kernel⟩, List.mem_of_getElem? (i := 888) (by decide +kernel), List.mem_of_getElem? (i := 1143) (by decide +kernel), List.mem_of_getElem? (i := 1144) (by decide +kernel)⟩
def lw_privs_3 : List (MethodName × Nat) := [(⟨"ArchTradesModel", "byteAt", "(I)I"⟩, 34), (⟨"ArchTradesModel", "readTide", "()V"⟩, 34), (⟨"ArchTradesModel", "name", "()J"⟩, 34), (⟨"ArchTradesModel", "must", "(Z)V"⟩, 34), (⟨"ArchTradesModel", "bad", "(I)V"⟩, 34), (⟨"ArchTradesModel", "number", "(II)I"⟩, 34), (⟨"ArchTradesModel", "figures", "()I"⟩, 34), (⟨"ArchTradesModel", "mustEnd", "()V"⟩, 34), (⟨"ArchTradesModel", "readArch", "()V"⟩, 34), (⟨"ArchTradesModel", "begins", "(II)V"⟩, 34), (⟨"ArchTradesModel", "readBoat", "()V"⟩, 34), (⟨"ArchTradesModel", "isArch", "(I)Z"⟩, 34), (⟨"ArchTradesModel", "becomes", "(II)I"⟩, 34), (⟨"ArchTradesModel", "keep", "()V"⟩, 34), (⟨"ArchTradesModel", "isBoat", "(I)Z"⟩, 34), (⟨"ArchTradesModel", "sideOf", "(I)I"⟩, 34)]
theorem lw_r3 : ∀ q ∈ lw_privs_3, lw_okq q := List.forall_mem_cons.mpr ⟨lw_p32, List.forall_mem_cons.mpr ⟨lw_p33, List.forall_mem_cons.mpr ⟨lw_p34, List.forall_mem_cons.mpr ⟨lw_p35, List.forall_mem_cons.mpr ⟨lw_p36, List.forall_mem_cons.mpr ⟨lw_p37, List.forall_mem_cons.mpr ⟨lw_p38, List.forall_mem_cons.mpr ⟨lw_p39, List.forall_mem_cons.mpr ⟨lw_p40, List.forall_mem_cons.mpr ⟨lw_p41, List.forall_mem_cons.mpr ⟨lw_p42, List.forall_mem_cons.mpr ⟨lw_p43, List.forall_mem_cons.mpr ⟨lw_p44, List.forall_mem_cons.mpr ⟨lw_p45, List.forall_mem_cons.mpr ⟨lw_p46, List.forall_mem_cons.mpr ⟨lw_p47, fun _ h => absurd h List.not_mem_nil⟩⟩⟩⟩⟩⟩⟩⟩⟩⟩⟩⟩⟩⟩⟩⟩
theorem lw_p48 : lw_okq (⟨"ArchTradesModel", "of", "(II)I"⟩, 34) := ⟨⟨by decide +kernel, by decide +kernel⟩, List.mem_of_getElem? (i := 888) (by decide +kernel), List.mem_of_getElem? (i := 1147) (by decide +kernel), List.mem_of_getElem? (i := 1148) (by decide +kernel)⟩
theorem lw_p49 : lw_okq (⟨"ArchTradesModel", "mayGo", "(III)Z"⟩, 34) := ⟨⟨by decide +kernel, by decide +kernel⟩, List.mem_of_getElem? (i := 888) (by decide +kernel), List.mem_of_getElem? (i := 1151) (by decide +kernel), List.mem_of_getElem? (i := 1152) (by decide +kernel)⟩
theorem lw_p50 : lw_okq (⟨"ArchTradesModel", "archOf", "(II)I"⟩, 34) := ⟨⟨by decide +kernel, by decide +kernel⟩, List.mem_of_getElem? (i := 888) (by decide +kernel), List.mem_of_getElem? (i := 1155) (by decide +kernel), List.mem_of_getElem? (i := 1156) (by decide +kernel)⟩
theorem lw_p51 : lw_okq (⟨"ArchTradesModel", "mayBy", "(IIII)Z"⟩, 34) := ⟨⟨by decide +kernel, by decide +kernel⟩, List.mem_of_getElem? (i := 888) (by decide +kernel), List.mem_of_getElem? (i := 1159) (by decide +kernel), List.mem_of_getElem? (i := 1160) (by decide +kernel)⟩
theorem lw_p52 : lw_okq (⟨"ArchTradesModel", "tradesOf", "(I)I"⟩, 34) := ⟨⟨by decide +kernel, by decide +kernel⟩, List.mem_of_getElem? (i := 888) (by decide +kernel), List.mem_of_getElem? (i := 1163) (by decide +kernel), List.mem_of_getElem? (i := 1164) (by decide +kernel)⟩
theorem lw_p53 : lw_okq (⟨"ArchTradesModel", "allOf", "(I)I"⟩, 34) := ⟨⟨by decide +kernel, by decide +kernel⟩, List.mem_of_getElem? (i := 888) (by decide +kernel), List.mem_of_getElem? (i := 1171) (by decide +kernel), List.mem_of_getElem? (i := 1172) (by decide +kernel)⟩
theorem lw_p54 : lw_okq (⟨"ArchTradesModel", "isMixed", "(I)Z"⟩, 34) := ⟨⟨by decide +kernel, by decide +kernel⟩, List.mem_of_getElem? (i := 888) (by decide +kernel), List.mem_of_getElem? (i := 1175) (by decide +kernel), List.mem_of_getElem? (i := 1176) (by decide +kernel)⟩
theorem lw_p55 : lw_okq (⟨"ArchTradesModel", "portersOf", "(I)I"⟩, 34) := ⟨⟨by decide +kernel, by decide +kernel⟩, List.mem_of_getElem? (i := 888) (by decide +kernel), List.mem_of_getElem? (i := 1204) (by decide +kernel), List.mem_of_getElem? (i := 1205) (by decide +kernel)⟩
theorem lw_p56 : lw_okq (⟨"ArchTradesModel", "layCharters", "()V"⟩, 34) := ⟨⟨by decide +kernel, by decide +kernel⟩, List.mem_of_getElem? (i := 888) (by decide +kernel), List.mem_of_getElem? (i := 1224) (by decide +kernel), List.mem_of_getElem? (i := 1225) (by decide +kernel)⟩
theorem lw_p57 : lw_okq (⟨"ArchTradesModel", "noneTaken", "()V"⟩, 34) := ⟨⟨by decide +kernel, by decide +kernel⟩, List.mem_of_getElem? (i := 888) (by decide +kernel), List.mem_of_getElem? (i := 1228) (by decide +kernel), List.mem_of_getElem? (i := 1229) (by decide +kernel)⟩
theorem lw_p58 : lw_okq (⟨"ArchTradesModel", "mostFrom", "(I)I"⟩, 34) := ⟨⟨by decide +kernel, by decide +kernel⟩, List.mem_of_getElem? (i := 888) (by decide +kernel), List.mem_of_getElem? (i := 1232) (by decide +kernel), List.mem_of_getElem? (i := 1233) (by decide +kernel)⟩
theorem lw_p59 : lw_okq (⟨"ArchTradesModel", "putsOne", "(I)Z"⟩, 34) := ⟨⟨by decide +kernel, by decide +kernel⟩, List.mem_of_getElem? (i := 888) (by decide +kernel), List.mem_of_getElem? (i := 1236) (by decide +kernel), List.mem_of_getElem? (i := 1237) (by decide +kernel)⟩
theorem lw_p60 : lw_okq (⟨"ArchTradesModel", "canBe", "(II)Z"⟩, 34) := ⟨⟨by decide +kernel, by decide +kernel⟩, List.mem_of_getElem? (i := 888) (by decide +kernel), List.mem_of_getElem? (i := 1240) (by decide +kernel), List.mem_of_getElem? (i := 1241) (by decide +kernel)⟩
theorem lw_p61 : lw_okq (⟨"ArchTradesModel", "shift", "(I)V"⟩, 34) := ⟨⟨by decide +kernel, by decide +kernel⟩, List.mem_of_getElem? (i := 888) (by decide +kernel), List.mem_of_getElem? (i := 1244) (by decide +kernel), List.mem_of_getElem? (i := 1245) (by decide +kernel)⟩
theorem lw_p62 : lw_okq (⟨"ArchTradesModel", "firstOf", "(II)I"⟩, 34) := ⟨⟨by decide +kernel, by decide +kernel⟩, List.mem_of_getElem? (i := 888) (by decide +kernel), List.mem_of_getElem? (i := 1248) (by decide +kernel), List.mem_of_getElem? (i := 1249) (by decide +kernel)⟩
theorem lw_p63 : lw_okq (⟨"ArchTradesModel", "sortCharters", "()V"⟩, 34) := ⟨⟨by decide +kernel, by decide +kernel⟩, List.mem_of_getElem? (i := 888) (by decide +kernel), List.mem_of_getElem? (i := 1256) (by decide +kernel), List.mem_of_getElem? (i := 1257) (by decide +kernel)⟩
def lw_privs_4 : List (MethodName × Nat) := [(⟨"ArchTradesModel", "of", "(II)I"⟩, 34), (⟨"ArchTradesModel", "mayGo", "(III)Z"⟩, 34), (⟨"ArchTradesModel", "archOf", "(II)I"⟩, 34), (⟨"ArchTradesModel", "mayBy", "(IIII)Z"⟩, 34), (⟨"ArchTradesModel", "tradesOf", "(I)I"⟩, 34), (⟨"ArchTradesModel", "allOf", "(I)I"⟩, 34), (⟨"ArchTradesModel", "isMixed", "(I)Z"⟩, 34), (⟨"ArchTradesModel", "portersOf", "(I)I"⟩, 34), (⟨"ArchTradesModel", "layCharters", "()V"⟩, 34), (⟨"ArchTradesModel", "noneTaken", "()V"⟩, 34), (⟨"ArchTradesModel", "mostFrom", "(I)I"⟩, 34), (⟨"ArchTradesModel", "putsOne", "(I)Z"⟩, 34), (⟨"ArchTradesModel", "canBe", "(II)Z"⟩, 34), (⟨"ArchTradesModel", "shift", "(I)V"⟩, 34), (⟨"ArchTradesModel", "firstOf", "(II)I"⟩, 34), (⟨"ArchTradesModel", "sortCharters", "()V"⟩, 34)]
theorem lw_r4 : ∀ q ∈ lw_privs_4, lw_okq q := List.forall_mem_cons.mpr ⟨lw_p48, List.forall_mem_cons.mpr ⟨lw_p49, List.forall_mem_cons.mpr ⟨lw_p50, List.forall_mem_cons.mpr ⟨lw_p51, List.forall_mem_cons.mpr ⟨lw_p52, List.forall_mem_cons.mpr ⟨lw_p53, List.forall_mem_cons.mpr ⟨lw_p54, List.forall_mem_cons.mpr ⟨lw_p55, List.forall_mem_cons.mpr ⟨lw_p56, List.forall_mem_cons.mpr ⟨lw_p57, List.forall_mem_cons.mpr ⟨lw_p58, List.forall_mem_cons.mpr ⟨lw_p59, List.forall_mem_cons.mpr ⟨lw_p60, List.forall_mem_cons.mpr ⟨lw_p61, List.forall_mem_cons.mpr ⟨lw_p62, List.forall_mem_cons.mpr ⟨lw_p63, fun _ h => absurd h List.not_mem_nil⟩⟩⟩⟩⟩⟩⟩⟩⟩⟩⟩⟩⟩⟩⟩⟩
theorem lw_p64 : lw_okq (⟨"ArchTradesModel", "swap", "(II)V"⟩, 34) := ⟨⟨by decide +kernel, by decide +kernel⟩, List.mem_of_getElem? (i := 888) (by decide +kernel), List.mem_of_getElem? (i := 1260) (by decide +kernel), List.mem_of_getElem? (i := 1261) (by decide +kernel)⟩
theorem lw_p65 : lw_okq (⟨"ArchTradesModel", "nextCharters", "()Z"⟩, 34) := ⟨⟨by decide +kernel, by decide +kernel⟩, List.mem_of_getElem? (i := 888) (by decide +kernel), List.mem_of_getElem? (i := 1264) (by decide +kernel), List.mem_of_getElem? (i := 1265) (by decide +kernel)⟩
theorem lw_p66 : lw_okq (⟨"ArchTradesModel", "sizeOf", "(I)I"⟩, 34) := ⟨⟨by decide +kernel, by decide +kernel⟩, List.mem_of_getElem? (i := 888) (by decide +kernel), List.mem_of_getElem? (i := 1305) (by decide +kernel), List.mem_of_getElem? (i := 1306) (by decide +kernel)⟩
theorem lw_p67 : lw_okq (⟨"ArchTradesModel", "cartSize", "(I)I"⟩, 34) := ⟨⟨by decide +kernel, by decide +kernel⟩, List.mem_of_getElem? (i := 888) (by decide +kernel), List.mem_of_getElem? (i := 1309) (by decide +kernel), List.mem_of_getElem? (i := 1310) (by decide +kernel)⟩
theorem lw_p68 : lw_okq (⟨"ArchTradesModel", "began", "(I)V"⟩, 34) := ⟨⟨by decide +kernel, by decide +kernel⟩, List.mem_of_getElem? (i := 888) (by decide +kernel), List.mem_of_getElem? (i := 1313) (by decide +kernel), List.mem_of_getElem? (i := 1314) (by decide +kernel)⟩
theorem lw_p69 : lw_okq (⟨"ArchTradesModel", "plainSize", "(I)I"⟩, 34) := ⟨⟨by decide +kernel, by decide +kernel⟩, List.mem_of_getElem? (i := 888) (by decide +kernel), List.mem_of_getElem? (i := 1317) (by decide +kernel), List.mem_of_getElem? (i := 1318) (by decide +kernel)⟩
theorem lw_p70 : lw_okq (⟨"ArchTradesModel", "markOf", "(I)I"⟩, 34) := ⟨⟨by decide +kernel, by decide +kernel⟩, List.mem_of_getElem? (i := 888) (by decide +kernel), List.mem_of_getElem? (i := 1321) (by decide +kernel), List.mem_of_getElem? (i := 1322) (by decide +kernel)⟩
def lw_privs_5 : List (MethodName × Nat) := [(⟨"ArchTradesModel", "swap", "(II)V"⟩, 34), (⟨"ArchTradesModel", "nextCharters", "()Z"⟩, 34), (⟨"ArchTradesModel", "sizeOf", "(I)I"⟩, 34), (⟨"ArchTradesModel", "cartSize", "(I)I"⟩, 34), (⟨"ArchTradesModel", "began", "(I)V"⟩, 34), (⟨"ArchTradesModel", "plainSize", "(I)I"⟩, 34), (⟨"ArchTradesModel", "markOf", "(I)I"⟩, 34)]
theorem lw_r5 : ∀ q ∈ lw_privs_5, lw_okq q := List.forall_mem_cons.mpr ⟨lw_p64, List.forall_mem_cons.mpr ⟨lw_p65, List.forall_mem_cons.mpr ⟨lw_p66, List.forall_mem_cons.mpr ⟨lw_p67, List.forall_mem_cons.mpr ⟨lw_p68, List.forall_mem_cons.mpr ⟨lw_p69, List.forall_mem_cons.mpr ⟨lw_p70, fun _ h => absurd h List.not_mem_nil⟩⟩⟩⟩⟩⟩⟩
def lw_privs : List (MethodName × Nat) := lw_privs_1 ++ (lw_privs_2 ++ (lw_privs_3 ++ (lw_privs_4 ++ (lw_privs_5))))
def lw_tbl : List Cond := k2_sels lw_privs ++ tables_1
theorem lw_privs_ok : ∀ q ∈ lw_privs, lw_okq q := by
  show ∀ q ∈ lw_privs_1 ++ (lw_privs_2 ++ (lw_privs_3 ++ (lw_privs_4 ++ (lw_privs_5)))), lw_okq q
  exact List.forall_mem_append.mpr ⟨lw_r1, List.forall_mem_append.mpr ⟨lw_r2, List.forall_mem_append.mpr ⟨lw_r3, List.forall_mem_append.mpr ⟨lw_r4, lw_r5⟩⟩⟩⟩
/-! ===== BEGIN words of one list among another's, by their places ===== -/
theorem goodIn_r {big : List Cond} (ws : List Cond) (ps : List Nat) (hp : ws = ps.filterMap (fun i => big[i]?)) (h : ws.all goodWord = true) : GoodIn big ws := by
  intro w hw
  have h1 := List.all_eq_true.mp h w hw
  rw [hp] at hw
  obtain ⟨i, -, hi⟩ := List.mem_filterMap.mp hw
  have hm : w ∈ big := by first | exact List.mem_of_getElem? hi | exact List.getElem?_mem hi
  exact ⟨hm, good_of_word h1⟩
theorem goodIn_app {big a b : List Cond} (ha : GoodIn big a) (hb : GoodIn big b) : GoodIn big (a ++ b) := fun w h => (List.mem_append.mp h).elim (ha w) (hb w)
theorem goodIn_ca {big a b : List Cond} {c : Cond} (ha : GoodIn big (c :: a)) (hb : GoodIn big b) : GoodIn big (c :: (a ++ b)) := fun w h => (List.mem_cons.mp h).elim (fun e => ha w (List.mem_cons.mpr (Or.inl e))) (fun h => (List.mem_append.mp h).elim (fun h => ha w (List.mem_cons.mpr (Or.inr h))) (hb w))
theorem goodIn_sub {big ws : List Cond} (hm : ∀ w ∈ ws, w ∈ big) (h : ws.all goodWord = true) : GoodIn big ws := fun w hw => ⟨hm w hw, good_of_word (List.all_eq_true.mp h w hw)⟩
/-! ===== END ===== -/

/-! ===== BEGIN printed: names, fields, word lists, decode rows ===== -/
def RX0 : String := "ArchTrades$Acts"
def TX0 : u_T := fun k => match k with
  | 0 => ("ArchTrades$Acts", "whats", "[I", true)
  | 1 => ("ArchTrades$Acts", "firsts", "[I", true)
  | 2 => ("ArchTrades$Acts", "seconds", "[I", true)
  | 3 => ("ArchTrades$Acts", "thirds", "[I", true)
  | 4 => ("ArchTrades$Acts", "oldest", "I", false)
  | _ => ("ArchTrades$Acts", "kept", "I", false)
def tyX0 : Nat → FieldType := fun k => match k with
  | 0 => .array .int
  | 1 => .array .int
  | 2 => .array .int
  | 3 => .array .int
  | 4 => .int
  | _ => .int
abbrev wsX00 : List Cond := u_ws RX0 TX0 6
theorem nmX0 : ∀ a, a < 6 → ∀ b, b < 6 → a ≠ b → (TX0 a).2.1 ≠ (TX0 b).2.1 := by decide +kernel
theorem tyX0_ok : ∀ k, k < 6 → parseFieldDescriptor (TX0 k).2.2.1 = some (tyX0 k) := by decide +kernel
abbrev cX0_init : ByteArray := prog_2_method_1_code
def yX0_init : MethodName := ⟨RX0, "<init>", "()V"⟩
abbrev cX0_kept : ByteArray := prog_2_method_2_code
def yX0_kept : MethodName := ⟨RX0, "kept", "()I"⟩
abbrev cX0_forget : ByteArray := prog_2_method_3_code
def yX0_forget : MethodName := ⟨RX0, "forget", "()V"⟩
abbrev cX0_keep : ByteArray := prog_2_method_4_code
def yX0_keep : MethodName := ⟨RX0, "keep", "(IIII)V"⟩
abbrev cX0_takeBack : ByteArray := prog_2_method_5_code
def yX0_takeBack : MethodName := ⟨RX0, "takeBack", "(LArchTrades$Bridge;)V"⟩
def RX1 : String := "ArchTrades$Asks"
def TX1 : u_T := fun k => match k with
  | 0 => ("ArchTrades$Asks", "begun", "[I", true)
  | _ => ("ArchTrades$Asks", "traced", "I", false)
def tyX1 : Nat → FieldType := fun k => match k with
  | 0 => .array .int
  | _ => .int
abbrev wsX10 : List Cond := u_ws RX1 TX1 2
theorem nmX1 : ∀ a, a < 2 → ∀ b, b < 2 → a ≠ b → (TX1 a).2.1 ≠ (TX1 b).2.1 := by decide +kernel
theorem tyX1_ok : ∀ k, k < 2 → parseFieldDescriptor (TX1 k).2.2.1 = some (tyX1 k) := by decide +kernel
abbrev cX1_init : ByteArray := prog_3_method_1_code
def yX1_init : MethodName := ⟨RX1, "<init>", "()V"⟩
abbrev cX1_answer : ByteArray := prog_3_method_2_code
def yX1_answer : MethodName := ⟨RX1, "answer", "(LArchTrades$Bridge;II)I"⟩
abbrev cX1_traceAt : ByteArray := prog_3_method_3_code
def yX1_traceAt : MethodName := ⟨RX1, "traceAt", "(I)I"⟩
abbrev cX1_bodyFor : ByteArray := prog_3_method_4_code
def yX1_bodyFor : MethodName := ⟨RX1, "bodyFor", "(II)I"⟩
abbrev cX1_gives : ByteArray := prog_3_method_5_code
def yX1_gives : MethodName := ⟨RX1, "gives", "(ILArchTrades$Bridge;II)I"⟩
abbrev cX1_leaveTrace : ByteArray := prog_3_method_6_code
def yX1_leaveTrace : MethodName := ⟨RX1, "leaveTrace", "(I)V"⟩
def RX2 : String := "ArchTrades$Bridge"
def TX2 : u_T := fun k => match k with
  | 0 => ("ArchTrades$Bridge", "stands", "Z", false)
  | 1 => ("ArchTrades$Bridge", "arches", "I", false)
  | 2 => ("ArchTrades$Bridge", "boats", "I", false)
  | 3 => ("ArchTrades$Bridge", "hourNow", "I", false)
  | 4 => ("ArchTrades$Bridge", "tollHad", "I", false)
  | 5 => ("ArchTrades$Bridge", "shutArches", "I", false)
  | 6 => ("ArchTrades$Bridge", "goneBoats", "I", false)
  | 7 => ("ArchTrades$Bridge", "tides", "[I", true)
  | 8 => ("ArchTrades$Bridge", "charters", "[I", true)
  | 9 => ("ArchTrades$Bridge", "heights", "[I", true)
  | 10 => ("ArchTrades$Bridge", "tolls", "[I", true)
  | 11 => ("ArchTrades$Bridge", "sorts", "[I", true)
  | 12 => ("ArchTrades$Bridge", "masts", "[I", true)
  | 13 => ("ArchTrades$Bridge", "loads", "[I", true)
  | _ => ("ArchTrades$Bridge", "wentBy", "[I", true)
def tyX2 : Nat → FieldType := fun k => match k with
  | 0 => .boolean
  | 1 => .int
  | 2 => .int
  | 3 => .int
  | 4 => .int
  | 5 => .int
  | 6 => .int
  | 7 => .array .int
  | 8 => .array .int
  | 9 => .array .int
  | 10 => .array .int
  | 11 => .array .int
  | 12 => .array .int
  | 13 => .array .int
  | _ => .array .int
abbrev wsX20 : List Cond := u_ws RX2 TX2 15
theorem nmX2 : ∀ a, a < 15 → ∀ b, b < 15 → a ≠ b → (TX2 a).2.1 ≠ (TX2 b).2.1 := by decide +kernel
theorem tyX2_ok : ∀ k, k < 15 → parseFieldDescriptor (TX2 k).2.2.1 = some (tyX2 k) := by decide +kernel
abbrev cX2_init : ByteArray := prog_4_method_1_code
def yX2_init : MethodName := ⟨RX2, "<init>", "()V"⟩
abbrev cX2_charterPlace : ByteArray := prog_4_method_2_code
def yX2_charterPlace : MethodName := ⟨RX2, "charterPlace", "(II)I"⟩
abbrev cX2_loadPlace : ByteArray := prog_4_method_3_code
def yX2_loadPlace : MethodName := ⟨RX2, "loadPlace", "(II)I"⟩
abbrev cX2_clear : ByteArray := prog_4_method_4_code
def yX2_clear : MethodName := ⟨RX2, "clear", "()V"⟩
abbrev cX2_become : ByteArray := prog_4_method_5_code
def yX2_become : MethodName := ⟨RX2, "become", "(LArchTrades$Bridge;)V"⟩
abbrev cX2_isArch : ByteArray := prog_4_method_6_code
def yX2_isArch : MethodName := ⟨RX2, "isArch", "(I)Z"⟩
abbrev cX2_isBoat : ByteArray := prog_4_method_7_code
def yX2_isBoat : MethodName := ⟨RX2, "isBoat", "(I)Z"⟩
abbrev cX2_isShut : ByteArray := prog_4_method_8_code
def yX2_isShut : MethodName := ⟨RX2, "isShut", "(I)Z"⟩
abbrev cX2_isGone : ByteArray := prog_4_method_9_code
def yX2_isGone : MethodName := ⟨RX2, "isGone", "(I)Z"⟩
abbrev cX2_charterOf : ByteArray := prog_4_method_10_code
def yX2_charterOf : MethodName := ⟨RX2, "charterOf", "(II)I"⟩
abbrev cX2_giveCharter : ByteArray := prog_4_method_11_code
def yX2_giveCharter : MethodName := ⟨RX2, "giveCharter", "(III)V"⟩
abbrev cX2_loadOf : ByteArray := prog_4_method_12_code
def yX2_loadOf : MethodName := ⟨RX2, "loadOf", "(II)I"⟩
abbrev cX2_allOf : ByteArray := prog_4_method_13_code
def yX2_allOf : MethodName := ⟨RX2, "allOf", "(I)I"⟩
abbrev cX2_weightOf : ByteArray := prog_4_method_14_code
def yX2_weightOf : MethodName := ⟨RX2, "weightOf", "(I)I"⟩
abbrev cX2_tradesOf : ByteArray := prog_4_method_15_code
def yX2_tradesOf : MethodName := ⟨RX2, "tradesOf", "(I)I"⟩
abbrev cX2_isMixed : ByteArray := prog_4_method_16_code
def yX2_isMixed : MethodName := ⟨RX2, "isMixed", "(I)Z"⟩
abbrev cX2_portersOf : ByteArray := prog_4_method_17_code
def yX2_portersOf : MethodName := ⟨RX2, "portersOf", "(I)I"⟩
abbrev cX2_tollOf : ByteArray := prog_4_method_18_code
def yX2_tollOf : MethodName := ⟨RX2, "tollOf", "(II)I"⟩
abbrev cX2_sideOf : ByteArray := prog_4_method_19_code
def yX2_sideOf : MethodName := ⟨RX2, "sideOf", "(I)I"⟩
abbrev cX2_chartersFor : ByteArray := prog_4_method_20_code
def yX2_chartersFor : MethodName := ⟨RX2, "chartersFor", "(I)I"⟩
abbrev cX2_hasRoom : ByteArray := prog_4_method_21_code
def yX2_hasRoom : MethodName := ⟨RX2, "hasRoom", "(III)Z"⟩
abbrev cX2_letsBy : ByteArray := prog_4_method_22_code
def yX2_letsBy : MethodName := ⟨RX2, "letsBy", "(III)Z"⟩
abbrev cX2_tradesCutOff : ByteArray := prog_4_method_23_code
def yX2_tradesCutOff : MethodName := ⟨RX2, "tradesCutOff", "(II)I"⟩
abbrev cX2_wentIn : ByteArray := prog_4_method_24_code
def yX2_wentIn : MethodName := ⟨RX2, "wentIn", "(II)I"⟩
abbrev cX2_goBy : ByteArray := prog_4_method_25_code
def yX2_goBy : MethodName := ⟨RX2, "goBy", "(III)V"⟩
abbrev cX2_comeBack : ByteArray := prog_4_method_26_code
def yX2_comeBack : MethodName := ⟨RX2, "comeBack", "(III)V"⟩
abbrev cX2_markWent : ByteArray := prog_4_method_27_code
def yX2_markWent : MethodName := ⟨RX2, "markWent", "(III)V"⟩
abbrev cX2_splitOff : ByteArray := prog_4_method_28_code
def yX2_splitOff : MethodName := ⟨RX2, "splitOff", "(II)I"⟩
abbrev cX2_joinLast : ByteArray := prog_4_method_29_code
def yX2_joinLast : MethodName := ⟨RX2, "joinLast", "(II)V"⟩
def RX3 : String := "ArchTrades$Foretold"
def TX3 : u_T := fun k => match k with
  | 0 => ("ArchTrades$Foretold", "roomy", "[I", true)
  | 1 => ("ArchTrades$Foretold", "chartersFor", "[I", true)
  | 2 => ("ArchTrades$Foretold", "charters", "[I", true)
  | 3 => ("ArchTrades$Foretold", "firstRow", "[I", true)
  | 4 => ("ArchTrades$Foretold", "settled", "[I", true)
  | 5 => ("ArchTrades$Foretold", "taken", "[I", true)
  | 6 => ("ArchTrades$Foretold", "archOf", "[I", true)
  | 7 => ("ArchTrades$Foretold", "hourBitOf", "[I", true)
  | 8 => ("ArchTrades$Foretold", "arches", "I", false)
  | 9 => ("ArchTrades$Foretold", "boats", "I", false)
  | _ => ("ArchTrades$Foretold", "asked", "I", false)
def tyX3 : Nat → FieldType := fun k => match k with
  | 0 => .array .int
  | 1 => .array .int
  | 2 => .array .int
  | 3 => .array .int
  | 4 => .array .int
  | 5 => .array .int
  | 6 => .array .int
  | 7 => .array .int
  | 8 => .int
  | 9 => .int
  | _ => .int
abbrev wsX30 : List Cond := u_ws RX3 TX3 11
theorem nmX3 : ∀ a, a < 11 → ∀ b, b < 11 → a ≠ b → (TX3 a).2.1 ≠ (TX3 b).2.1 := by decide +kernel
theorem tyX3_ok : ∀ k, k < 11 → parseFieldDescriptor (TX3 k).2.2.1 = some (tyX3 k) := by decide +kernel
abbrev cX3_init : ByteArray := prog_5_method_1_code
def yX3_init : MethodName := ⟨RX3, "<init>", "()V"⟩
abbrev cX3_greatest : ByteArray := prog_5_method_2_code
def yX3_greatest : MethodName := ⟨RX3, "greatest", "(LArchTrades$Bridge;II)I"⟩
abbrev cX3_whenGoes : ByteArray := prog_5_method_3_code
def yX3_whenGoes : MethodName := ⟨RX3, "whenGoes", "(LArchTrades$Bridge;III)I"⟩
abbrev cX3_dealAnew : ByteArray := prog_5_method_4_code
def yX3_dealAnew : MethodName := ⟨RX3, "dealAnew", "(LArchTrades$Bridge;II)I"⟩
abbrev cX3_dealtTo : ByteArray := prog_5_method_5_code
def yX3_dealtTo : MethodName := ⟨RX3, "dealtTo", "(I)I"⟩
abbrev cX3_greatestOf : ByteArray := prog_5_method_6_code
def yX3_greatestOf : MethodName := ⟨RX3, "greatestOf", "(LArchTrades$Bridge;III)I"⟩
abbrev cX3_prepare : ByteArray := prog_5_method_7_code
def yX3_prepare : MethodName := ⟨RX3, "prepare", "(LArchTrades$Bridge;III)V"⟩
abbrev cX3_roomyHours : ByteArray := prog_5_method_8_code
def yX3_roomyHours : MethodName := ⟨RX3, "roomyHours", "(LArchTrades$Bridge;IIII)I"⟩
abbrev cX3_openHours : ByteArray := prog_5_method_9_code
def yX3_openHours : MethodName := ⟨RX3, "openHours", "(II)I"⟩
abbrev cX3_placedFrom : ByteArray := prog_5_method_10_code
def yX3_placedFrom : MethodName := ⟨RX3, "placedFrom", "(I)I"⟩
abbrev cX3_findPlace : ByteArray := prog_5_method_11_code
def yX3_findPlace : MethodName := ⟨RX3, "findPlace", "(II)Z"⟩
abbrev cX3_givePlace : ByteArray := prog_5_method_12_code
def yX3_givePlace : MethodName := ⟨RX3, "givePlace", "(III)V"⟩
abbrev cX3_settleFirst : ByteArray := prog_5_method_13_code
def yX3_settleFirst : MethodName := ⟨RX3, "settleFirst", "(IIII)I"⟩
abbrev cX3_countHopeful : ByteArray := prog_5_method_14_code
def yX3_countHopeful : MethodName := ⟨RX3, "countHopeful", "()I"⟩
abbrev cX3_sortCharters : ByteArray := prog_5_method_15_code
def yX3_sortCharters : MethodName := ⟨RX3, "sortCharters", "()V"⟩
abbrev cX3_dealNext : ByteArray := prog_5_method_16_code
def yX3_dealNext : MethodName := ⟨RX3, "dealNext", "()Z"⟩
abbrev cX3_swapCharters : ByteArray := prog_5_method_17_code
def yX3_swapCharters : MethodName := ⟨RX3, "swapCharters", "(II)V"⟩
def RX4 : String := "ArchTrades$Reader"
def TX4 : u_T := fun k => match k with
  | 0 => ("ArchTrades$Reader", "told", "LArchTrades$Bridge;", true)
  | _ => ("ArchTrades$Reader", "faultNumber", "I", false)
def tyX4 : Nat → FieldType := fun k => match k with
  | 0 => .object "ArchTrades$Bridge"
  | _ => .int
abbrev wsX40 : List Cond := u_ws RX4 TX4 2
theorem nmX4 : ∀ a, a < 2 → ∀ b, b < 2 → a ≠ b → (TX4 a).2.1 ≠ (TX4 b).2.1 := by decide +kernel
theorem tyX4_ok : ∀ k, k < 2 → parseFieldDescriptor (TX4 k).2.2.1 = some (tyX4 k) := by decide +kernel
abbrev cX4_init : ByteArray := prog_6_method_1_code
def yX4_init : MethodName := ⟨RX4, "<init>", "()V"⟩
abbrev cX4_result : ByteArray := prog_6_method_2_code
def yX4_result : MethodName := ⟨RX4, "result", "()LArchTrades$Bridge;"⟩
abbrev cX4_faultNumber : ByteArray := prog_6_method_3_code
def yX4_faultNumber : MethodName := ⟨RX4, "faultNumber", "()I"⟩
abbrev cX4_read : ByteArray := prog_6_method_4_code
def yX4_read : MethodName := ⟨RX4, "read", "(LArchTrades$Tape;)Z"⟩
abbrev cX4_faulty : ByteArray := prog_6_method_5_code
def yX4_faulty : MethodName := ⟨RX4, "faulty", "(I)Z"⟩
abbrev cX4_readTide : ByteArray := prog_6_method_6_code
def yX4_readTide : MethodName := ⟨RX4, "readTide", "(LArchTrades$Tape;)Z"⟩
abbrev cX4_readArches : ByteArray := prog_6_method_7_code
def yX4_readArches : MethodName := ⟨RX4, "readArches", "(LArchTrades$Tape;)Z"⟩
abbrev cX4_readArch : ByteArray := prog_6_method_8_code
def yX4_readArch : MethodName := ⟨RX4, "readArch", "(LArchTrades$Tape;I)Z"⟩
abbrev cX4_readBoats : ByteArray := prog_6_method_9_code
def yX4_readBoats : MethodName := ⟨RX4, "readBoats", "(LArchTrades$Tape;)Z"⟩
abbrev cX4_readBoat : ByteArray := prog_6_method_10_code
def yX4_readBoat : MethodName := ⟨RX4, "readBoat", "(LArchTrades$Tape;I)Z"⟩
abbrev cX4_sortTold : ByteArray := prog_6_method_11_code
def yX4_sortTold : MethodName := ⟨RX4, "sortTold", "(LArchTrades$Tape;)I"⟩
abbrev cX4_readNumber : ByteArray := prog_6_method_12_code
def yX4_readNumber : MethodName := ⟨RX4, "readNumber", "(LArchTrades$Tape;II[II)Z"⟩
abbrev cX4_readSign : ByteArray := prog_6_method_13_code
def yX4_readSign : MethodName := ⟨RX4, "readSign", "(LArchTrades$Tape;)Z"⟩
def RX5 : String := "ArchTrades$Rows"
def TX5 : u_T := fun k => match k with
  | 0 => ("ArchTrades$Rows", "lanes", "[I", true)
  | 1 => ("ArchTrades$Rows", "sizes", "[I", true)
  | _ => ("ArchTrades$Rows", "items", "[I", true)
def tyX5 : Nat → FieldType := fun k => match k with
  | 0 => .array .int
  | 1 => .array .int
  | _ => .array .int
abbrev wsX50 : List Cond := u_ws RX5 TX5 3
theorem nmX5 : ∀ a, a < 3 → ∀ b, b < 3 → a ≠ b → (TX5 a).2.1 ≠ (TX5 b).2.1 := by decide +kernel
theorem tyX5_ok : ∀ k, k < 3 → parseFieldDescriptor (TX5 k).2.2.1 = some (tyX5 k) := by decide +kernel
abbrev cX5_init : ByteArray := prog_7_method_1_code
def yX5_init : MethodName := ⟨RX5, "<init>", "()V"⟩
abbrev cX5_isRow : ByteArray := prog_7_method_2_code
def yX5_isRow : MethodName := ⟨RX5, "isRow", "(I)Z"⟩
abbrev cX5_isMissing : ByteArray := prog_7_method_3_code
def yX5_isMissing : MethodName := ⟨RX5, "isMissing", "(I)Z"⟩
abbrev cX5_laneOf : ByteArray := prog_7_method_4_code
def yX5_laneOf : MethodName := ⟨RX5, "laneOf", "(I)I"⟩
abbrev cX5_hasPlaces : ByteArray := prog_7_method_5_code
def yX5_hasPlaces : MethodName := ⟨RX5, "hasPlaces", "(III)Z"⟩
abbrev cX5_begin : ByteArray := prog_7_method_6_code
def yX5_begin : MethodName := ⟨RX5, "begin", "(III)V"⟩
abbrev cX5_put : ByteArray := prog_7_method_7_code
def yX5_put : MethodName := ⟨RX5, "put", "(III)I"⟩
abbrev cX5_itemAt : ByteArray := prog_7_method_8_code
def yX5_itemAt : MethodName := ⟨RX5, "itemAt", "(II)I"⟩
abbrev cX5_move : ByteArray := prog_7_method_9_code
def yX5_move : MethodName := ⟨RX5, "move", "(IIIII)V"⟩
abbrev cX5_remove : ByteArray := prog_7_method_10_code
def yX5_remove : MethodName := ⟨RX5, "remove", "(I)I"⟩
abbrev cX5_present : ByteArray := prog_7_method_11_code
def yX5_present : MethodName := ⟨RX5, "present", "()I"⟩
abbrev cX5_narrowed : ByteArray := prog_7_method_12_code
def yX5_narrowed : MethodName := ⟨RX5, "narrowed", "(II)I"⟩
def RX6 : String := "ArchTrades$Tape"
def TX6 : u_T := fun k => match k with
  | 0 => ("ArchTrades$Tape", "bytes", "[B", true)
  | 1 => ("ArchTrades$Tape", "length", "I", false)
  | 2 => ("ArchTrades$Tape", "sort", "I", false)
  | 3 => ("ArchTrades$Tape", "start", "I", false)
  | _ => ("ArchTrades$Tape", "end", "I", false)
def tyX6 : Nat → FieldType := fun k => match k with
  | 0 => .array .byte
  | 1 => .int
  | 2 => .int
  | 3 => .int
  | _ => .int
abbrev wsX60 : List Cond := u_ws RX6 TX6 5
theorem nmX6 : ∀ a, a < 5 → ∀ b, b < 5 → a ≠ b → (TX6 a).2.1 ≠ (TX6 b).2.1 := by decide +kernel
theorem tyX6_ok : ∀ k, k < 5 → parseFieldDescriptor (TX6 k).2.2.1 = some (tyX6 k) := by decide +kernel
abbrev cX6_init : ByteArray := prog_8_method_1_code
def yX6_init : MethodName := ⟨RX6, "<init>", "()V"⟩
abbrev cX6_size : ByteArray := prog_8_method_2_code
def yX6_size : MethodName := ⟨RX6, "size", "()I"⟩
abbrev cX6_clear : ByteArray := prog_8_method_3_code
def yX6_clear : MethodName := ⟨RX6, "clear", "()V"⟩
abbrev cX6_append : ByteArray := prog_8_method_4_code
def yX6_append : MethodName := ⟨RX6, "append", "(JI)Z"⟩
abbrev cX6_tokenStart : ByteArray := prog_8_method_5_code
def yX6_tokenStart : MethodName := ⟨RX6, "tokenStart", "()I"⟩
abbrev cX6_numberTold : ByteArray := prog_8_method_6_code
def yX6_numberTold : MethodName := ⟨RX6, "numberTold", "()I"⟩
abbrev cX6_rewind : ByteArray := prog_8_method_7_code
def yX6_rewind : MethodName := ⟨RX6, "rewind", "()V"⟩
abbrev cX6_step : ByteArray := prog_8_method_8_code
def yX6_step : MethodName := ⟨RX6, "step", "()V"⟩
abbrev cX6_isEnd : ByteArray := prog_8_method_9_code
def yX6_isEnd : MethodName := ⟨RX6, "isEnd", "()Z"⟩
abbrev cX6_isNumber : ByteArray := prog_8_method_10_code
def yX6_isNumber : MethodName := ⟨RX6, "isNumber", "()Z"⟩
abbrev cX6_isSign : ByteArray := prog_8_method_11_code
def yX6_isSign : MethodName := ⟨RX6, "isSign", "()Z"⟩
abbrev cX6_isWord : ByteArray := prog_8_method_12_code
def yX6_isWord : MethodName := ⟨RX6, "isWord", "(Ljava/lang/String;)Z"⟩
abbrev cX6_isBlank : ByteArray := prog_8_method_13_code
def yX6_isBlank : MethodName := ⟨RX6, "isBlank", "(B)Z"⟩
abbrev cX6_sortOf : ByteArray := prog_8_method_14_code
def yX6_sortOf : MethodName := ⟨RX6, "sortOf", "(B)I"⟩
def RX7 : String := "ArchTrades"
def TX7 : u_T := fun k => match k with
  | 0 => ("ArchTrades", "rows", "LArchTrades$Rows;", true)
  | 1 => ("ArchTrades", "tape", "LArchTrades$Tape;", true)
  | 2 => ("ArchTrades", "reader", "LArchTrades$Reader;", true)
  | 3 => ("ArchTrades", "now", "LArchTrades$Bridge;", true)
  | 4 => ("ArchTrades", "firstImage", "LArchTrades$Bridge;", true)
  | 5 => ("ArchTrades", "secondImage", "LArchTrades$Bridge;", true)
  | 6 => ("ArchTrades", "acts", "LArchTrades$Acts;", true)
  | 7 => ("ArchTrades", "foretold", "LArchTrades$Foretold;", true)
  | 8 => ("ArchTrades", "asks", "LArchTrades$Asks;", true)
  | 9 => ("ArchTrades", "latestFault", "I", false)
  | _ => ("ArchTrades", "latestFinding", "I", false)
def tyX7 : Nat → FieldType := fun k => match k with
  | 0 => .object "ArchTrades$Rows"
  | 1 => .object "ArchTrades$Tape"
  | 2 => .object "ArchTrades$Reader"
  | 3 => .object "ArchTrades$Bridge"
  | 4 => .object "ArchTrades$Bridge"
  | 5 => .object "ArchTrades$Bridge"
  | 6 => .object "ArchTrades$Acts"
  | 7 => .object "ArchTrades$Foretold"
  | 8 => .object "ArchTrades$Asks"
  | 9 => .int
  | _ => .int
abbrev wsX70 : List Cond := u_ws RX7 TX7 11
theorem nmX7 : ∀ a, a < 11 → ∀ b, b < 11 → a ≠ b → (TX7 a).2.1 ≠ (TX7 b).2.1 := by decide +kernel
theorem tyX7_ok : ∀ k, k < 11 → parseFieldDescriptor (TX7 k).2.2.1 = some (tyX7 k) := by decide +kernel
abbrev cX7_init : ByteArray := prog_1_method_1_code
def yX7_init : MethodName := ⟨RX7, "<init>", "()V"⟩
abbrev cX7_row : ByteArray := prog_1_method_2_code
def yX7_row : MethodName := ⟨RX7, "row", "(III)I"⟩
abbrev cX7_set : ByteArray := prog_1_method_3_code
def yX7_set : MethodName := ⟨RX7, "set", "(III)I"⟩
abbrev cX7_copy : ByteArray := prog_1_method_4_code
def yX7_copy : MethodName := ⟨RX7, "copy", "(IIIII)I"⟩
abbrev cX7_drop : ByteArray := prog_1_method_5_code
def yX7_drop : MethodName := ⟨RX7, "drop", "(I)I"⟩
abbrev cX7_feed : ByteArray := prog_1_method_6_code
def yX7_feed : MethodName := ⟨RX7, "feed", "(JI)I"⟩
abbrev cX7_bridge : ByteArray := prog_1_method_7_code
def yX7_bridge : MethodName := ⟨RX7, "bridge", "()I"⟩
abbrev cX7_fault : ByteArray := prog_1_method_8_code
def yX7_fault : MethodName := ⟨RX7, "fault", "()I"⟩
abbrev cX7_lend : ByteArray := prog_1_method_9_code
def yX7_lend : MethodName := ⟨RX7, "lend", "(III)I"⟩
abbrev cX7_shut : ByteArray := prog_1_method_10_code
def yX7_shut : MethodName := ⟨RX7, "shut", "(II)I"⟩
abbrev cX7_pass : ByteArray := prog_1_method_11_code
def yX7_pass : MethodName := ⟨RX7, "pass", "(II)I"⟩
abbrev cX7_split : ByteArray := prog_1_method_12_code
def yX7_split : MethodName := ⟨RX7, "split", "(II)I"⟩
abbrev cX7_hour : ByteArray := prog_1_method_13_code
def yX7_hour : MethodName := ⟨RX7, "hour", "()I"⟩
abbrev cX7_undo : ByteArray := prog_1_method_14_code
def yX7_undo : MethodName := ⟨RX7, "undo", "()I"⟩
abbrev cX7_arch : ByteArray := prog_1_method_15_code
def yX7_arch : MethodName := ⟨RX7, "arch", "(II)I"⟩
abbrev cX7_boat : ByteArray := prog_1_method_16_code
def yX7_boat : MethodName := ⟨RX7, "boat", "(II)I"⟩
abbrev cX7_may : ByteArray := prog_1_method_17_code
def yX7_may : MethodName := ⟨RX7, "may", "(II)I"⟩
abbrev cX7_most : ByteArray := prog_1_method_18_code
def yX7_most : MethodName := ⟨RX7, "most", "(III)I"⟩
abbrev cX7_anew : ByteArray := prog_1_method_19_code
def yX7_anew : MethodName := ⟨RX7, "anew", "(III)I"⟩
abbrev cX7_cut : ByteArray := prog_1_method_20_code
def yX7_cut : MethodName := ⟨RX7, "cut", "(II)I"⟩
abbrev cX7_weighed : ByteArray := prog_1_method_21_code
def yX7_weighed : MethodName := ⟨RX7, "weighed", "(II)I"⟩
abbrev cX7_image : ByteArray := prog_1_method_22_code
def yX7_image : MethodName := ⟨RX7, "image", "(I)I"⟩
abbrev cX7_restore : ByteArray := prog_1_method_23_code
def yX7_restore : MethodName := ⟨RX7, "restore", "(I)I"⟩
abbrev cX7_kind : ByteArray := prog_1_method_24_code
def yX7_kind : MethodName := ⟨RX7, "kind", "(I)I"⟩
abbrev cX7_as : ByteArray := prog_1_method_25_code
def yX7_as : MethodName := ⟨RX7, "as", "(II)I"⟩
abbrev cX7_ask : ByteArray := prog_1_method_26_code
def yX7_ask : MethodName := ⟨RX7, "ask", "(II)I"⟩
abbrev cX7_trace : ByteArray := prog_1_method_27_code
def yX7_trace : MethodName := ⟨RX7, "trace", "(I)I"⟩
abbrev cX7_count : ByteArray := prog_1_method_28_code
def yX7_count : MethodName := ⟨RX7, "count", "(I)I"⟩
abbrev cX7_status : ByteArray := prog_1_method_29_code
def yX7_status : MethodName := ⟨RX7, "status", "()I"⟩
abbrev cX7_found : ByteArray := prog_1_method_30_code
def yX7_found : MethodName := ⟨RX7, "found", "(I)I"⟩
abbrev cX7_unfound : ByteArray := prog_1_method_31_code
def yX7_unfound : MethodName := ⟨RX7, "unfound", "(I)I"⟩
abbrev cX7_areTrades : ByteArray := prog_1_method_32_code
def yX7_areTrades : MethodName := ⟨RX7, "areTrades", "(II)Z"⟩
abbrev cX7_falselyDeclared : ByteArray := prog_1_method_33_code
def yX7_falselyDeclared : MethodName := ⟨RX7, "falselyDeclared", "(II)I"⟩
abbrev cX7_imageOf : ByteArray := prog_1_method_34_code
def yX7_imageOf : MethodName := ⟨RX7, "imageOf", "(I)LArchTrades$Bridge;"⟩
abbrev cX7_isImage : ByteArray := prog_1_method_35_code
def yX7_isImage : MethodName := ⟨RX7, "isImage", "(I)Z"⟩
abbrev cX7_isTrade : ByteArray := prog_1_method_36_code
def yX7_isTrade : MethodName := ⟨RX7, "isTrade", "(I)Z"⟩
abbrev cX7_isHour : ByteArray := prog_1_method_37_code
def yX7_isHour : MethodName := ⟨RX7, "isHour", "(I)Z"⟩
abbrev cX7_areHours : ByteArray := prog_1_method_38_code
def yX7_areHours : MethodName := ⟨RX7, "areHours", "(II)Z"⟩
abbrev cX7_isKind : ByteArray := prog_1_method_39_code
def yX7_isKind : MethodName := ⟨RX7, "isKind", "(II)Z"⟩
abbrev cX7_bitOf : ByteArray := prog_1_method_40_code
def yX7_bitOf : MethodName := ⟨RX7, "bitOf", "(II)I"⟩
abbrev cX7_withBit : ByteArray := prog_1_method_41_code
def yX7_withBit : MethodName := ⟨RX7, "withBit", "(III)I"⟩
def RX8 : String := "ArchTradesModel"
def TX8 : u_T := fun k => match k with
  | 0 => ("ArchTradesModel", "thrown", "I", false)
  | 1 => ("ArchTradesModel", "status", "I", false)
  | 2 => ("ArchTradesModel", "lane", "[I", true)
  | 3 => ("ArchTradesModel", "many", "[I", true)
  | 4 => ("ArchTradesModel", "item", "[I", true)
  | 5 => ("ArchTradesModel", "bridge", "[I", true)
  | 6 => ("ArchTradesModel", "fresh", "[I", true)
  | 7 => ("ArchTradesModel", "isThere", "Z", false)
  | 8 => ("ArchTradesModel", "was", "[I", true)
  | 9 => ("ArchTradesModel", "acts", "I", false)
  | 10 => ("ArchTradesModel", "tape", "[I", true)
  | 11 => ("ArchTradesModel", "taped", "I", false)
  | 12 => ("ArchTradesModel", "latest", "I", false)
  | 13 => ("ArchTradesModel", "length", "I", false)
  | 14 => ("ArchTradesModel", "cursor", "I", false)
  | 15 => ("ArchTradesModel", "token", "I", false)
  | 16 => ("ArchTradesModel", "start", "I", false)
  | 17 => ("ArchTradesModel", "till", "I", false)
  | 18 => ("ArchTradesModel", "fault", "I", false)
  | 19 => ("ArchTradesModel", "faultAt", "I", false)
  | 20 => ("ArchTradesModel", "holder", "[I", true)
  | 21 => ("ArchTradesModel", "isTaken", "[Z", true)
  | 22 => ("ArchTradesModel", "isMet", "[Z", true)
  | 23 => ("ArchTradesModel", "cameBy", "[I", true)
  | 24 => ("ArchTradesModel", "placeOf", "[I", true)
  | 25 => ("ArchTradesModel", "waits", "[I", true)
  | 26 => ("ArchTradesModel", "from", "I", false)
  | 27 => ("ArchTradesModel", "until", "I", false)
  | 28 => ("ArchTradesModel", "charter", "[I", true)
  | 29 => ("ArchTradesModel", "best", "[I", true)
  | 30 => ("ArchTradesModel", "isKept", "[Z", true)
  | 31 => ("ArchTradesModel", "kept", "[I", true)
  | 32 => ("ArchTradesModel", "trace", "[I", true)
  | _ => ("ArchTradesModel", "traced", "I", false)
def tyX8 : Nat → FieldType := fun k => match k with
  | 0 => .int
  | 1 => .int
  | 2 => .array .int
  | 3 => .array .int
  | 4 => .array .int
  | 5 => .array .int
  | 6 => .array .int
  | 7 => .boolean
  | 8 => .array .int
  | 9 => .int
  | 10 => .array .int
  | 11 => .int
  | 12 => .int
  | 13 => .int
  | 14 => .int
  | 15 => .int
  | 16 => .int
  | 17 => .int
  | 18 => .int
  | 19 => .int
  | 20 => .array .int
  | 21 => .array .boolean
  | 22 => .array .boolean
  | 23 => .array .int
  | 24 => .array .int
  | 25 => .array .int
  | 26 => .int
  | 27 => .int
  | 28 => .array .int
  | 29 => .array .int
  | 30 => .array .boolean
  | 31 => .array .int
  | 32 => .array .int
  | _ => .int
abbrev wsX80 : List Cond := u_ws RX8 TX8 34
theorem nmX8 : ∀ a, a < 34 → ∀ b, b < 34 → a ≠ b → (TX8 a).2.1 ≠ (TX8 b).2.1 := by decide +kernel
theorem tyX8_ok : ∀ k, k < 34 → parseFieldDescriptor (TX8 k).2.2.1 = some (tyX8 k) := by decide +kernel
abbrev cX8_init : ByteArray := prog_10_method_1_code
def yX8_init : MethodName := ⟨RX8, "<init>", "()V"⟩
abbrev cX8_in : ByteArray := prog_10_method_3_code
def yX8_in : MethodName := ⟨RX8, "in", "(JJJ)Z"⟩
abbrev cX8_finding : ByteArray := prog_10_method_4_code
def yX8_finding : MethodName := ⟨RX8, "finding", "(I)I"⟩
abbrev cX8_isRow : ByteArray := prog_10_method_5_code
def yX8_isRow : MethodName := ⟨RX8, "isRow", "(I)Z"⟩
abbrev cX8_row : ByteArray := prog_10_method_6_code
def yX8_row : MethodName := ⟨RX8, "row", "(III)I"⟩
abbrev cX8_set : ByteArray := prog_10_method_7_code
def yX8_set : MethodName := ⟨RX8, "set", "(III)I"⟩
abbrev cX8_copy : ByteArray := prog_10_method_8_code
def yX8_copy : MethodName := ⟨RX8, "copy", "(IIIII)I"⟩
abbrev cX8_drop : ByteArray := prog_10_method_9_code
def yX8_drop : MethodName := ⟨RX8, "drop", "(I)I"⟩
abbrev cX8_feed : ByteArray := prog_10_method_10_code
def yX8_feed : MethodName := ⟨RX8, "feed", "(JI)I"⟩
abbrev cX8_byteAt : ByteArray := prog_10_method_11_code
def yX8_byteAt : MethodName := ⟨RX8, "byteAt", "(I)I"⟩
abbrev cX8_isLetter : ByteArray := prog_10_method_12_code
def yX8_isLetter : MethodName := ⟨RX8, "isLetter", "(I)Z"⟩
abbrev cX8_isFigure : ByteArray := prog_10_method_13_code
def yX8_isFigure : MethodName := ⟨RX8, "isFigure", "(I)Z"⟩
abbrev cX8_next : ByteArray := prog_10_method_14_code
def yX8_next : MethodName := ⟨RX8, "next", "()V"⟩
abbrev cX8_begin : ByteArray := prog_10_method_15_code
def yX8_begin : MethodName := ⟨RX8, "begin", "()V"⟩
abbrev cX8_bad : ByteArray := prog_10_method_16_code
def yX8_bad : MethodName := ⟨RX8, "bad", "(I)V"⟩
abbrev cX8_must : ByteArray := prog_10_method_17_code
def yX8_must : MethodName := ⟨RX8, "must", "(Z)V"⟩
abbrev cX8_name : ByteArray := prog_10_method_18_code
def yX8_name : MethodName := ⟨RX8, "name", "()J"⟩
abbrev cX8_figures : ByteArray := prog_10_method_19_code
def yX8_figures : MethodName := ⟨RX8, "figures", "()I"⟩
abbrev cX8_number : ByteArray := prog_10_method_20_code
def yX8_number : MethodName := ⟨RX8, "number", "(II)I"⟩
abbrev cX8_kindBy : ByteArray := prog_10_method_21_code
def yX8_kindBy : MethodName := ⟨RX8, "kindBy", "(J)I"⟩
abbrev cX8_mustEnd : ByteArray := prog_10_method_22_code
def yX8_mustEnd : MethodName := ⟨RX8, "mustEnd", "()V"⟩
abbrev cX8_begins : ByteArray := prog_10_method_23_code
def yX8_begins : MethodName := ⟨RX8, "begins", "(II)V"⟩
abbrev cX8_readTide : ByteArray := prog_10_method_24_code
def yX8_readTide : MethodName := ⟨RX8, "readTide", "()V"⟩
abbrev cX8_readArch : ByteArray := prog_10_method_25_code
def yX8_readArch : MethodName := ⟨RX8, "readArch", "()V"⟩
abbrev cX8_readBoat : ByteArray := prog_10_method_26_code
def yX8_readBoat : MethodName := ⟨RX8, "readBoat", "()V"⟩
abbrev cX8_bridge : ByteArray := prog_10_method_27_code
def yX8_bridge : MethodName := ⟨RX8, "bridge", "()I"⟩
abbrev cX8_fault : ByteArray := prog_10_method_28_code
def yX8_fault : MethodName := ⟨RX8, "fault", "()I"⟩
abbrev cX8_isArch : ByteArray := prog_10_method_29_code
def yX8_isArch : MethodName := ⟨RX8, "isArch", "(I)Z"⟩
abbrev cX8_isBoat : ByteArray := prog_10_method_30_code
def yX8_isBoat : MethodName := ⟨RX8, "isBoat", "(I)Z"⟩
abbrev cX8_isHour : ByteArray := prog_10_method_31_code
def yX8_isHour : MethodName := ⟨RX8, "isHour", "(I)Z"⟩
abbrev cX8_isTrade : ByteArray := prog_10_method_32_code
def yX8_isTrade : MethodName := ⟨RX8, "isTrade", "(I)Z"⟩
abbrev cX8_archOf : ByteArray := prog_10_method_33_code
def yX8_archOf : MethodName := ⟨RX8, "archOf", "(II)I"⟩
abbrev cX8_of : ByteArray := prog_10_method_34_code
def yX8_of : MethodName := ⟨RX8, "of", "(II)I"⟩
abbrev cX8_allOf : ByteArray := prog_10_method_35_code
def yX8_allOf : MethodName := ⟨RX8, "allOf", "(I)I"⟩
abbrev cX8_tradesOf : ByteArray := prog_10_method_36_code
def yX8_tradesOf : MethodName := ⟨RX8, "tradesOf", "(I)I"⟩
abbrev cX8_isMixed : ByteArray := prog_10_method_37_code
def yX8_isMixed : MethodName := ⟨RX8, "isMixed", "(I)Z"⟩
abbrev cX8_sideOf : ByteArray := prog_10_method_38_code
def yX8_sideOf : MethodName := ⟨RX8, "sideOf", "(I)I"⟩
abbrev cX8_letsBy : ByteArray := prog_10_method_39_code
def yX8_letsBy : MethodName := ⟨RX8, "letsBy", "(II)Z"⟩
abbrev cX8_mayBy : ByteArray := prog_10_method_40_code
def yX8_mayBy : MethodName := ⟨RX8, "mayBy", "(IIII)Z"⟩
abbrev cX8_mayGo : ByteArray := prog_10_method_41_code
def yX8_mayGo : MethodName := ⟨RX8, "mayGo", "(III)Z"⟩
abbrev cX8_keep : ByteArray := prog_10_method_42_code
def yX8_keep : MethodName := ⟨RX8, "keep", "()V"⟩
abbrev cX8_becomes : ByteArray := prog_10_method_43_code
def yX8_becomes : MethodName := ⟨RX8, "becomes", "(II)I"⟩
abbrev cX8_lend : ByteArray := prog_10_method_44_code
def yX8_lend : MethodName := ⟨RX8, "lend", "(III)I"⟩
abbrev cX8_shut : ByteArray := prog_10_method_45_code
def yX8_shut : MethodName := ⟨RX8, "shut", "(II)I"⟩
abbrev cX8_pass : ByteArray := prog_10_method_46_code
def yX8_pass : MethodName := ⟨RX8, "pass", "(II)I"⟩
abbrev cX8_split : ByteArray := prog_10_method_47_code
def yX8_split : MethodName := ⟨RX8, "split", "(II)I"⟩
abbrev cX8_hour : ByteArray := prog_10_method_48_code
def yX8_hour : MethodName := ⟨RX8, "hour", "()I"⟩
abbrev cX8_undo : ByteArray := prog_10_method_49_code
def yX8_undo : MethodName := ⟨RX8, "undo", "()I"⟩
abbrev cX8_arch : ByteArray := prog_10_method_50_code
def yX8_arch : MethodName := ⟨RX8, "arch", "(II)I"⟩
abbrev cX8_portersOf : ByteArray := prog_10_method_51_code
def yX8_portersOf : MethodName := ⟨RX8, "portersOf", "(I)I"⟩
abbrev cX8_boat : ByteArray := prog_10_method_52_code
def yX8_boat : MethodName := ⟨RX8, "boat", "(II)I"⟩
abbrev cX8_may : ByteArray := prog_10_method_53_code
def yX8_may : MethodName := ⟨RX8, "may", "(II)I"⟩
abbrev cX8_layCharters : ByteArray := prog_10_method_54_code
def yX8_layCharters : MethodName := ⟨RX8, "layCharters", "()V"⟩
abbrev cX8_canBe : ByteArray := prog_10_method_55_code
def yX8_canBe : MethodName := ⟨RX8, "canBe", "(II)Z"⟩
abbrev cX8_shift : ByteArray := prog_10_method_56_code
def yX8_shift : MethodName := ⟨RX8, "shift", "(I)V"⟩
abbrev cX8_putsOne : ByteArray := prog_10_method_57_code
def yX8_putsOne : MethodName := ⟨RX8, "putsOne", "(I)Z"⟩
abbrev cX8_mostFrom : ByteArray := prog_10_method_58_code
def yX8_mostFrom : MethodName := ⟨RX8, "mostFrom", "(I)I"⟩
abbrev cX8_noneTaken : ByteArray := prog_10_method_59_code
def yX8_noneTaken : MethodName := ⟨RX8, "noneTaken", "()V"⟩
abbrev cX8_firstOf : ByteArray := prog_10_method_60_code
def yX8_firstOf : MethodName := ⟨RX8, "firstOf", "(II)I"⟩
abbrev cX8_areHours : ByteArray := prog_10_method_61_code
def yX8_areHours : MethodName := ⟨RX8, "areHours", "(II)Z"⟩
abbrev cX8_most : ByteArray := prog_10_method_62_code
def yX8_most : MethodName := ⟨RX8, "most", "(III)I"⟩
abbrev cX8_nextCharters : ByteArray := prog_10_method_63_code
def yX8_nextCharters : MethodName := ⟨RX8, "nextCharters", "()Z"⟩
abbrev cX8_swap : ByteArray := prog_10_method_64_code
def yX8_swap : MethodName := ⟨RX8, "swap", "(II)V"⟩
abbrev cX8_sortCharters : ByteArray := prog_10_method_65_code
def yX8_sortCharters : MethodName := ⟨RX8, "sortCharters", "()V"⟩
abbrev cX8_anew : ByteArray := prog_10_method_66_code
def yX8_anew : MethodName := ⟨RX8, "anew", "(III)I"⟩
abbrev cX8_cut : ByteArray := prog_10_method_67_code
def yX8_cut : MethodName := ⟨RX8, "cut", "(II)I"⟩
abbrev cX8_weightOf : ByteArray := prog_10_method_68_code
def yX8_weightOf : MethodName := ⟨RX8, "weightOf", "(I)I"⟩
abbrev cX8_weighed : ByteArray := prog_10_method_69_code
def yX8_weighed : MethodName := ⟨RX8, "weighed", "(II)I"⟩
abbrev cX8_image : ByteArray := prog_10_method_70_code
def yX8_image : MethodName := ⟨RX8, "image", "(I)I"⟩
abbrev cX8_restore : ByteArray := prog_10_method_71_code
def yX8_restore : MethodName := ⟨RX8, "restore", "(I)I"⟩
abbrev cX8_isOf : ByteArray := prog_10_method_72_code
def yX8_isOf : MethodName := ⟨RX8, "isOf", "(II)Z"⟩
abbrev cX8_kind : ByteArray := prog_10_method_73_code
def yX8_kind : MethodName := ⟨RX8, "kind", "(I)I"⟩
abbrev cX8_as : ByteArray := prog_10_method_74_code
def yX8_as : MethodName := ⟨RX8, "as", "(II)I"⟩
abbrev cX8_began : ByteArray := prog_10_method_75_code
def yX8_began : MethodName := ⟨RX8, "began", "(I)V"⟩
abbrev cX8_plainSize : ByteArray := prog_10_method_76_code
def yX8_plainSize : MethodName := ⟨RX8, "plainSize", "(I)I"⟩
abbrev cX8_cartSize : ByteArray := prog_10_method_77_code
def yX8_cartSize : MethodName := ⟨RX8, "cartSize", "(I)I"⟩
abbrev cX8_markOf : ByteArray := prog_10_method_78_code
def yX8_markOf : MethodName := ⟨RX8, "markOf", "(I)I"⟩
abbrev cX8_sizeOf : ByteArray := prog_10_method_79_code
def yX8_sizeOf : MethodName := ⟨RX8, "sizeOf", "(I)I"⟩
abbrev cX8_ask : ByteArray := prog_10_method_80_code
def yX8_ask : MethodName := ⟨RX8, "ask", "(II)I"⟩
abbrev cX8_trace : ByteArray := prog_10_method_81_code
def yX8_trace : MethodName := ⟨RX8, "trace", "(I)I"⟩
abbrev cX8_count : ByteArray := prog_10_method_82_code
def yX8_count : MethodName := ⟨RX8, "count", "(I)I"⟩
abbrev cX8_status : ByteArray := prog_10_method_83_code
def yX8_status : MethodName := ⟨RX8, "status", "()I"⟩
def RJx145de : String := "java/io/Serializable"
def TJx145de : u_T := fun k => match k with
  | _ => ("", "", "", false)
def tyJx145de : Nat → FieldType := fun k => match k with
  | _ => .int
abbrev wsJx145de0 : List Cond := u_ws RJx145de TJx145de 0
theorem nmJx145de : ∀ a, a < 0 → ∀ b, b < 0 → a ≠ b → (TJx145de a).2.1 ≠ (TJx145de b).2.1 := by decide +kernel
theorem tyJx145de_ok : ∀ k, k < 0 → parseFieldDescriptor (TJx145de k).2.2.1 = some (tyJx145de k) := by decide +kernel
def RJx9f9b0 : String := "java/lang/CharSequence"
def TJx9f9b0 : u_T := fun k => match k with
  | _ => ("", "", "", false)
def tyJx9f9b0 : Nat → FieldType := fun k => match k with
  | _ => .int
abbrev wsJx9f9b00 : List Cond := u_ws RJx9f9b0 TJx9f9b0 0
theorem nmJx9f9b0 : ∀ a, a < 0 → ∀ b, b < 0 → a ≠ b → (TJx9f9b0 a).2.1 ≠ (TJx9f9b0 b).2.1 := by decide +kernel
theorem tyJx9f9b0_ok : ∀ k, k < 0 → parseFieldDescriptor (TJx9f9b0 k).2.2.1 = some (tyJx9f9b0 k) := by decide +kernel
def RJxb160c : String := "java/lang/Comparable"
def TJxb160c : u_T := fun k => match k with
  | _ => ("", "", "", false)
def tyJxb160c : Nat → FieldType := fun k => match k with
  | _ => .int
abbrev wsJxb160c0 : List Cond := u_ws RJxb160c TJxb160c 0
theorem nmJxb160c : ∀ a, a < 0 → ∀ b, b < 0 → a ≠ b → (TJxb160c a).2.1 ≠ (TJxb160c b).2.1 := by decide +kernel
theorem tyJxb160c_ok : ∀ k, k < 0 → parseFieldDescriptor (TJxb160c k).2.2.1 = some (tyJxb160c k) := by decide +kernel
def RJ6 : String := "java/lang/Integer"
def TJ6 : u_T := fun k => match k with
  | _ => ("", "", "", false)
def tyJ6 : Nat → FieldType := fun k => match k with
  | _ => .int
abbrev wsJ60 : List Cond := u_ws RJ6 TJ6 0
theorem nmJ6 : ∀ a, a < 0 → ∀ b, b < 0 → a ≠ b → (TJ6 a).2.1 ≠ (TJ6 b).2.1 := by decide +kernel
theorem tyJ6_ok : ∀ k, k < 0 → parseFieldDescriptor (TJ6 k).2.2.1 = some (tyJ6 k) := by decide +kernel
abbrev cJ6_bitCount_0f7a4 : ByteArray := prog_11_method_49_code
def yJ6_bitCount_0f7a4 : MethodName := ⟨RJ6, "bitCount", "(I)I"⟩
def RJ9 : String := "java/lang/Math"
def TJ9 : u_T := fun k => match k with
  | _ => ("", "", "", false)
def tyJ9 : Nat → FieldType := fun k => match k with
  | _ => .int
abbrev wsJ90 : List Cond := u_ws RJ9 TJ9 0
theorem nmJ9 : ∀ a, a < 0 → ∀ b, b < 0 → a ≠ b → (TJ9 a).2.1 ≠ (TJ9 b).2.1 := by decide +kernel
theorem tyJ9_ok : ∀ k, k < 0 → parseFieldDescriptor (TJ9 k).2.2.1 = some (tyJ9 k) := by decide +kernel
abbrev cJ9_max_7cf53 : ByteArray := prog_12_method_65_code
def yJ9_max_7cf53 : MethodName := ⟨RJ9, "max", "(II)I"⟩
def RJ0 : String := "java/lang/String"
def TJ0 : u_T := fun k => match k with
  | _ => ("", "", "", false)
def tyJ0 : Nat → FieldType := fun k => match k with
  | _ => .int
abbrev wsJ00 : List Cond := u_ws RJ0 TJ0 0
theorem nmJ0 : ∀ a, a < 0 → ∀ b, b < 0 → a ≠ b → (TJ0 a).2.1 ≠ (TJ0 b).2.1 := by decide +kernel
theorem tyJ0_ok : ∀ k, k < 0 → parseFieldDescriptor (TJ0 k).2.2.1 = some (tyJ0 k) := by decide +kernel
abbrev cJ0_length_8abf5 : ByteArray := prog_13_method_54_code
def yJ0_length_8abf5 : MethodName := ⟨RJ0, "length", "()I"⟩
abbrev cJ0_charAt_5068e : ByteArray := prog_13_method_56_code
def yJ0_charAt_5068e : MethodName := ⟨RJ0, "charAt", "(I)C"⟩
abbrev cJ0_coder_7d493 : ByteArray := prog_13_method_152_code
def yJ0_coder_7d493 : MethodName := ⟨RJ0, "coder", "()B"⟩
abbrev cJ0_isLatin1_aae02 : ByteArray := prog_13_method_154_code
def yJ0_isLatin1_aae02 : MethodName := ⟨RJ0, "isLatin1", "()Z"⟩
abbrev cJ0_checkIndex_df160 : ByteArray := prog_13_method_155_code
def yJ0_checkIndex_df160 : MethodName := ⟨RJ0, "checkIndex", "(II)V"⟩
def RJ1 : String := "java/lang/StringLatin1"
def TJ1 : u_T := fun k => match k with
  | _ => ("", "", "", false)
def tyJ1 : Nat → FieldType := fun k => match k with
  | _ => .int
abbrev wsJ10 : List Cond := u_ws RJ1 TJ1 0
theorem nmJ1 : ∀ a, a < 0 → ∀ b, b < 0 → a ≠ b → (TJ1 a).2.1 ≠ (TJ1 b).2.1 := by decide +kernel
theorem tyJ1_ok : ∀ k, k < 0 → parseFieldDescriptor (TJ1 k).2.2.1 = some (tyJ1 k) := by decide +kernel
abbrev cJ1_charAt_3b067 : ByteArray := prog_14_method_2_code
def yJ1_charAt_3b067 : MethodName := ⟨RJ1, "charAt", "([BI)C"⟩
def RJ2 : String := "java/lang/StringUTF16"
def TJ2 : u_T := fun k => match k with
  | _ => ("", "", "", false)
def tyJ2 : Nat → FieldType := fun k => match k with
  | _ => .int
abbrev wsJ20 : List Cond := u_ws RJ2 TJ2 0
theorem nmJ2 : ∀ a, a < 0 → ∀ b, b < 0 → a ≠ b → (TJ2 a).2.1 ≠ (TJ2 b).2.1 := by decide +kernel
theorem tyJ2_ok : ∀ k, k < 0 → parseFieldDescriptor (TJ2 k).2.2.1 = some (tyJ2 k) := by decide +kernel
abbrev cJ2_getChar_3b067 : ByteArray := prog_15_method_5_code
def yJ2_getChar_3b067 : MethodName := ⟨RJ2, "getChar", "([BI)C"⟩
abbrev cJ2_length_9d52b : ByteArray := prog_15_method_6_code
def yJ2_length_9d52b : MethodName := ⟨RJ2, "length", "([B)I"⟩
abbrev cJ2_charAt_3b067 : ByteArray := prog_15_method_83_code
def yJ2_charAt_3b067 : MethodName := ⟨RJ2, "charAt", "([BI)C"⟩
abbrev cJ2_checkIndex_2214a : ByteArray := prog_15_method_91_code
def yJ2_checkIndex_2214a : MethodName := ⟨RJ2, "checkIndex", "(I[B)V"⟩
def RJ10 : String := "java/lang/System"
def TJ10 : u_T := fun k => match k with
  | _ => ("", "", "", false)
def tyJ10 : Nat → FieldType := fun k => match k with
  | _ => .int
abbrev wsJ100 : List Cond := u_ws RJ10 TJ10 0
theorem nmJ10 : ∀ a, a < 0 → ∀ b, b < 0 → a ≠ b → (TJ10 a).2.1 ≠ (TJ10 b).2.1 := by decide +kernel
theorem tyJ10_ok : ∀ k, k < 0 → parseFieldDescriptor (TJ10 k).2.2.1 = some (tyJ10 k) := by decide +kernel
def RJxfd54e : String := "java/lang/constant/Constable"
def TJxfd54e : u_T := fun k => match k with
  | _ => ("", "", "", false)
def tyJxfd54e : Nat → FieldType := fun k => match k with
  | _ => .int
abbrev wsJxfd54e0 : List Cond := u_ws RJxfd54e TJxfd54e 0
theorem nmJxfd54e : ∀ a, a < 0 → ∀ b, b < 0 → a ≠ b → (TJxfd54e a).2.1 ≠ (TJxfd54e b).2.1 := by decide +kernel
theorem tyJxfd54e_ok : ∀ k, k < 0 → parseFieldDescriptor (TJxfd54e k).2.2.1 = some (tyJxfd54e k) := by decide +kernel
def RJx3cf43 : String := "java/lang/constant/ConstantDesc"
def TJx3cf43 : u_T := fun k => match k with
  | _ => ("", "", "", false)
def tyJx3cf43 : Nat → FieldType := fun k => match k with
  | _ => .int
abbrev wsJx3cf430 : List Cond := u_ws RJx3cf43 TJx3cf43 0
theorem nmJx3cf43 : ∀ a, a < 0 → ∀ b, b < 0 → a ≠ b → (TJx3cf43 a).2.1 ≠ (TJx3cf43 b).2.1 := by decide +kernel
theorem tyJx3cf43_ok : ∀ k, k < 0 → parseFieldDescriptor (TJx3cf43 k).2.2.1 = some (tyJx3cf43 k) := by decide +kernel
def RJ7 : String := "java/util/Arrays"
def TJ7 : u_T := fun k => match k with
  | _ => ("", "", "", false)
def tyJ7 : Nat → FieldType := fun k => match k with
  | _ => .int
abbrev wsJ70 : List Cond := u_ws RJ7 TJ7 0
theorem nmJ7 : ∀ a, a < 0 → ∀ b, b < 0 → a ≠ b → (TJ7 a).2.1 ≠ (TJ7 b).2.1 := by decide +kernel
theorem tyJ7_ok : ∀ k, k < 0 → parseFieldDescriptor (TJ7 k).2.2.1 = some (tyJ7 k) := by decide +kernel
abbrev cJ7_fill_53178 : ByteArray := prog_17_method_103_code
def yJ7_fill_53178 : MethodName := ⟨RJ7, "fill", "([II)V"⟩
def RJ3 : String := "jdk/internal/util/Preconditions"
def TJ3 : u_T := fun k => match k with
  | _ => ("", "", "", false)
def tyJ3 : Nat → FieldType := fun k => match k with
  | _ => .int
abbrev wsJ30 : List Cond := u_ws RJ3 TJ3 0
theorem nmJ3 : ∀ a, a < 0 → ∀ b, b < 0 → a ≠ b → (TJ3 a).2.1 ≠ (TJ3 b).2.1 := by decide +kernel
theorem tyJ3_ok : ∀ k, k < 0 → parseFieldDescriptor (TJ3 k).2.2.1 = some (tyJ3 k) := by decide +kernel
abbrev cJ3_checkIndex_8e157 : ByteArray := prog_18_method_11_code
def yJ3_checkIndex_8e157 : MethodName := ⟨RJ3, "checkIndex", "(IILjava/util/function/BiFunction;)I"⟩
def RL : String := "ArchTradesLaw"
abbrev cL_law : ByteArray := code
def yL_law : MethodName := ⟨RL, "law", "([I)Z"⟩
abbrev vwCl : List vw_C := [(RX0, TX0, 6), (RX1, TX1, 2), (RX2, TX2, 15), (RX3, TX3, 11), (RX4, TX4, 2), (RX5, TX5, 3), (RX6, TX6, 5), (RX7, TX7, 11), (RX8, TX8, 34)]
