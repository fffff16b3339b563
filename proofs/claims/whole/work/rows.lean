section
-- ===== PART A: goes FIRST, ahead of the names: the tables' words, and 'selects' of the private methods out of them =====
/-- a private method of a class that the tables say can be made, by its rows of tables_1 -/
def lw_okq (q : MethodName × Nat) : Prop := (q.1.cls ≠ "java/lang/invoke/MethodHandle" ∧ q.1.cls ≠ "java/lang/invoke/VarHandle") ∧ Cond.instantiable q.1.cls q.2 ∈ tables_1 ∧ Cond.privateMethod q.1 ∈ tables_1 ∧ Cond.instanceMethod q.1 ∈ tables_1
theorem lw_p0 : lw_okq (⟨"ArchTrades", "found", "(I)I"⟩, 11) := ⟨⟨by decide +kernel, by decide +kernel⟩, List.mem_of_getElem? (i := 19) (by decide +kernel), List.mem_of_getElem? (i := 282) (by decide +kernel), List.mem_of_getElem? (i := 283) (by decide +kernel)⟩
theorem lw_p1 : lw_okq (⟨"ArchTrades", "unfound", "(I)I"⟩, 11) := ⟨⟨by decide +kernel, by decide +kernel⟩, List.mem_of_getElem? (i := 19) (by decide +kernel), List.mem_of_getElem? (i := 291) (by decide +kernel), List.mem_of_getElem? (i := 292) (by decide +kernel)⟩
theorem lw_p2 : lw_okq (⟨"ArchTrades$Reader", "readTide", "(LArchTrades$Tape;)Z"⟩, 2) := ⟨⟨by decide +kernel, by decide +kernel⟩, List.mem_of_getElem? (i := 67) (by decide +kernel), List.mem_of_getElem? (i := 379) (by decide +kernel), List.mem_of_getElem? (i := 380) (by decide +kernel)⟩
theorem lw_p3 : lw_okq (⟨"ArchTrades$Reader", "faulty", "(I)Z"⟩, 2) := ⟨⟨by decide +kernel, by decide +kernel⟩, List.mem_of_getElem? (i := 67) (by decide +kernel), List.mem_of_getElem? (i := 436) (by decide +kernel), List.mem_of_getElem? (i := 437) (by decide +kernel)⟩
theorem lw_p4 : lw_okq (⟨"ArchTrades$Reader", "readNumber", "(LArchTrades$Tape;II[II)Z"⟩, 2) := ⟨⟨by decide +kernel, by decide +kernel⟩, List.mem_of_getElem? (i := 67) (by decide +kernel), List.mem_of_getElem? (i := 441) (by decide +kernel), List.mem_of_getElem? (i := 442) (by decide +kernel)⟩
theorem lw_p5 : lw_okq (⟨"ArchTrades$Reader", "readSign", "(LArchTrades$Tape;)Z"⟩, 2) := ⟨⟨by decide +kernel, by decide +kernel⟩, List.mem_of_getElem? (i := 67) (by decide +kernel), List.mem_of_getElem? (i := 453) (by decide +kernel), List.mem_of_getElem? (i := 454) (by decide +kernel)⟩
theorem lw_p6 : lw_okq (⟨"ArchTrades$Reader", "readArches", "(LArchTrades$Tape;)Z"⟩, 2) := ⟨⟨by decide +kernel, by decide +kernel⟩, List.mem_of_getElem? (i := 67) (by decide +kernel), List.mem_of_getElem? (i := 461) (by decide +kernel), List.mem_of_getElem? (i := 462) (by decide +kernel)⟩
theorem lw_p7 : lw_okq (⟨"ArchTrades$Reader", "readArch", "(LArchTrades$Tape;I)Z"⟩, 2) := ⟨⟨by decide +kernel, by decide +kernel⟩, List.mem_of_getElem? (i := 67) (by decide +kernel), List.mem_of_getElem? (i := 466) (by decide +kernel), List.mem_of_getElem? (i := 467) (by decide +kernel)⟩
theorem lw_p8 : lw_okq (⟨"ArchTrades$Reader", "readBoats", "(LArchTrades$Tape;)Z"⟩, 2) := ⟨⟨by decide +kernel, by decide +kernel⟩, List.mem_of_getElem? (i := 67) (by decide +kernel), List.mem_of_getElem? (i := 473) (by decide +kernel), List.mem_of_getElem? (i := 474) (by decide +kernel)⟩
theorem lw_p9 : lw_okq (⟨"ArchTrades$Reader", "readBoat", "(LArchTrades$Tape;I)Z"⟩, 2) := ⟨⟨by decide +kernel, by decide +kernel⟩, List.mem_of_getElem? (i := 67) (by decide +kernel), List.mem_of_getElem? (i := 478) (by decide +kernel), List.mem_of_getElem? (i := 479) (by decide +kernel)⟩
theorem lw_p10 : lw_okq (⟨"ArchTrades$Reader", "sortTold", "(LArchTrades$Tape;)I"⟩, 2) := ⟨⟨by decide +kernel, by decide +kernel⟩, List.mem_of_getElem? (i := 67) (by decide +kernel), List.mem_of_getElem? (i := 482) (by decide +kernel), List.mem_of_getElem? (i := 483) (by decide +kernel)⟩
theorem lw_p11 : lw_okq (⟨"ArchTrades$Bridge", "tradesOf", "(I)I"⟩, 15) := ⟨⟨by decide +kernel, by decide +kernel⟩, List.mem_of_getElem? (i := 73) (by decide +kernel), List.mem_of_getElem? (i := 584) (by decide +kernel), List.mem_of_getElem? (i := 585) (by decide +kernel)⟩
theorem lw_p12 : lw_okq (⟨"ArchTrades$Bridge", "markWent", "(III)V"⟩, 15) := ⟨⟨by decide +kernel, by decide +kernel⟩, List.mem_of_getElem? (i := 73) (by decide +kernel), List.mem_of_getElem? (i := 631) (by decide +kernel), List.mem_of_getElem? (i := 632) (by decide +kernel)⟩
theorem lw_p13 : lw_okq (⟨"ArchTrades$Foretold", "greatestOf", "(LArchTrades$Bridge;III)I"⟩, 11) := ⟨⟨by decide +kernel, by decide +kernel⟩, List.mem_of_getElem? (i := 187) (by decide +kernel), List.mem_of_getElem? (i := 707) (by decide +kernel), List.mem_of_getElem? (i := 708) (by decide +kernel)⟩
theorem lw_p14 : lw_okq (⟨"ArchTrades$Foretold", "prepare", "(LArchTrades$Bridge;III)V"⟩, 11) := ⟨⟨by decide +kernel, by decide +kernel⟩, List.mem_of_getElem? (i := 187) (by decide +kernel), List.mem_of_getElem? (i := 711) (by decide +kernel), List.mem_of_getElem? (i := 712) (by decide +kernel)⟩
theorem lw_p15 : lw_okq (⟨"ArchTrades$Foretold", "placedFrom", "(I)I"⟩, 11) := ⟨⟨by decide +kernel, by decide +kernel⟩, List.mem_of_getElem? (i := 187) (by decide +kernel), List.mem_of_getElem? (i := 725) (by decide +kernel), List.mem_of_getElem? (i := 726) (by decide +kernel)⟩
def lw_privs_1 : List (MethodName × Nat) := [(⟨"ArchTrades", "found", "(I)I"⟩, 11), (⟨"ArchTrades", "unfound", "(I)I"⟩, 11), (⟨"ArchTrades$Reader", "readTide", "(LArchTrades$Tape;)Z"⟩, 2), (⟨"ArchTrades$Reader", "faulty", "(I)Z"⟩, 2), (⟨"ArchTrades$Reader", "readNumber", "(LArchTrades$Tape;II[II)Z"⟩, 2), (⟨"ArchTrades$Reader", "readSign", "(LArchTrades$Tape;)Z"⟩, 2), (⟨"ArchTrades$Reader", "readArches", "(LArchTrades$Tape;)Z"⟩, 2), (⟨"ArchTrades$Reader", "readArch", "(LArchTrades$Tape;I)Z"⟩, 2), (⟨"ArchTrades$Reader", "readBoats", "(LArchTrades$Tape;)Z"⟩, 2), (⟨"ArchTrades$Reader", "readBoat", "(LArchTrades$Tape;I)Z"⟩, 2), (⟨"ArchTrades$Reader", "sortTold", "(LArchTrades$Tape;)I"⟩, 2), (⟨"ArchTrades$Bridge", "tradesOf", "(I)I"⟩, 15), (⟨"ArchTrades$Bridge", "markWent", "(III)V"⟩, 15), (⟨"ArchTrades$Foretold", "greatestOf", "(LArchTrades$Bridge;III)I"⟩, 11), (⟨"ArchTrades$Foretold", "prepare", "(LArchTrades$Bridge;III)V"⟩, 11), (⟨"ArchTrades$Foretold", "placedFrom", "(I)I"⟩, 11)]
theorem lw_r1 : ∀ q ∈ lw_privs_1, lw_okq q := List.forall_mem_cons.mpr ⟨lw_p0, List.forall_mem_cons.mpr ⟨lw_p1, List.forall_mem_cons.mpr ⟨lw_p2, List.forall_mem_cons.mpr ⟨lw_p3, List.forall_mem_cons.mpr ⟨lw_p4, List.forall_mem_cons.mpr ⟨lw_p5, List.forall_mem_cons.mpr ⟨lw_p6, List.forall_mem_cons.mpr ⟨lw_p7, List.forall_mem_cons.mpr ⟨lw_p8, List.forall_mem_cons.mpr ⟨lw_p9, List.forall_mem_cons.mpr ⟨lw_p10, List.forall_mem_cons.mpr ⟨lw_p11, List.forall_mem_cons.mpr ⟨lw_p12, List.forall_mem_cons.mpr ⟨lw_p13, List.forall_mem_cons.mpr ⟨lw_p14, List.forall_mem_cons.mpr ⟨lw_p15, fun _ h => absurd h List.not_mem_nil⟩⟩⟩⟩⟩⟩⟩⟩⟩⟩⟩⟩⟩⟩⟩⟩
theorem lw_p16 : lw_okq (⟨"ArchTrades$Foretold", "findPlace", "(II)Z"⟩, 11) := ⟨⟨by decide +kernel, by decide +kernel⟩, List.mem_of_getElem? (i := 187) (by decide +kernel), List.mem_of_getElem? (i := 731) (by decide +kernel), List.mem_of_getElem? (i := 732) (by decide +kernel)⟩
theorem lw_p17 : lw_okq (⟨"ArchTrades$Foretold", "openHours", "(II)I"⟩, 11) := ⟨⟨by decide +kernel, by decide +kernel⟩, List.mem_of_getElem? (i := 187) (by decide +kernel), List.mem_of_getElem? (i := 735) (by decide +kernel), List.mem_of_getElem? (i := 736) (by decide +kernel)⟩
theorem lw_p18 : lw_okq (⟨"ArchTrades$Foretold", "givePlace", "(III)V"⟩, 11) := ⟨⟨by decide +kernel, by decide +kernel⟩, List.mem_of_getElem? (i := 187) (by decide +kernel), List.mem_of_getElem? (i := 740) (by decide +kernel), List.mem_of_getElem? (i := 741) (by decide +kernel)⟩
theorem lw_p19 : lw_okq (⟨"ArchTrades$Foretold", "settleFirst", "(IIII)I"⟩, 11) := ⟨⟨by decide +kernel, by decide +kernel⟩, List.mem_of_getElem? (i := 187) (by decide +kernel), List.mem_of_getElem? (i := 749) (by decide +kernel), List.mem_of_getElem? (i := 750) (by decide +kernel)⟩
theorem lw_p20 : lw_okq (⟨"ArchTrades$Foretold", "countHopeful", "()I"⟩, 11) := ⟨⟨by decide +kernel, by decide +kernel⟩, List.mem_of_getElem? (i := 187) (by decide +kernel), List.mem_of_getElem? (i := 761) (by decide +kernel), List.mem_of_getElem? (i := 762) (by decide +kernel)⟩
theorem lw_p21 : lw_okq (⟨"ArchTrades$Foretold", "sortCharters", "()V"⟩, 11) := ⟨⟨by decide +kernel, by decide +kernel⟩, List.mem_of_getElem? (i := 187) (by decide +kernel), List.mem_of_getElem? (i := 765) (by decide +kernel), List.mem_of_getElem? (i := 766) (by decide +kernel)⟩
theorem lw_p22 : lw_okq (⟨"ArchTrades$Foretold", "swapCharters", "(II)V"⟩, 11) := ⟨⟨by decide +kernel, by decide +kernel⟩, List.mem_of_getElem? (i := 187) (by decide +kernel), List.mem_of_getElem? (i := 769) (by decide +kernel), List.mem_of_getElem? (i := 770) (by decide +kernel)⟩
theorem lw_p23 : lw_okq (⟨"ArchTrades$Foretold", "dealNext", "()Z"⟩, 11) := ⟨⟨by decide +kernel, by decide +kernel⟩, List.mem_of_getElem? (i := 187) (by decide +kernel), List.mem_of_getElem? (i := 773) (by decide +kernel), List.mem_of_getElem? (i := 774) (by decide +kernel)⟩
theorem lw_p24 : lw_okq (⟨"ArchTrades", "areTrades", "(II)Z"⟩, 11) := ⟨⟨by decide +kernel, by decide +kernel⟩, List.mem_of_getElem? (i := 19) (by decide +kernel), List.mem_of_getElem? (i := 793) (by decide +kernel), List.mem_of_getElem? (i := 794) (by decide +kernel)⟩
theorem lw_p25 : lw_okq (⟨"ArchTrades", "falselyDeclared", "(II)I"⟩, 11) := ⟨⟨by decide +kernel, by decide +kernel⟩, List.mem_of_getElem? (i := 19) (by decide +kernel), List.mem_of_getElem? (i := 801) (by decide +kernel), List.mem_of_getElem? (i := 802) (by decide +kernel)⟩
theorem lw_p26 : lw_okq (⟨"ArchTrades", "imageOf", "(I)LArchTrades$Bridge;"⟩, 11) := ⟨⟨by decide +kernel, by decide +kernel⟩, List.mem_of_getElem? (i := 19) (by decide +kernel), List.mem_of_getElem? (i := 820) (by decide +kernel), List.mem_of_getElem? (i := 821) (by decide +kernel)⟩
theorem lw_p27 : lw_okq (⟨"ArchTrades$Asks", "gives", "(ILArchTrades$Bridge;II)I"⟩, 2) := ⟨⟨by decide +kernel, by decide +kernel⟩, List.mem_of_getElem? (i := 227) (by decide +kernel), List.mem_of_getElem? (i := 856) (by decide +kernel), List.mem_of_getElem? (i := 857) (by decide +kernel)⟩
theorem lw_p28 : lw_okq (⟨"ArchTrades$Asks", "leaveTrace", "(I)V"⟩, 2) := ⟨⟨by decide +kernel, by decide +kernel⟩, List.mem_of_getElem? (i := 227) (by decide +kernel), List.mem_of_getElem? (i := 860) (by decide +kernel), List.mem_of_getElem? (i := 861) (by decide +kernel)⟩
theorem lw_p29 : lw_okq (⟨"ArchTradesModel", "finding", "(I)I"⟩, 34) := ⟨⟨by decide +kernel, by decide +kernel⟩, List.mem_of_getElem? (i := 888) (by decide +kernel), List.mem_of_getElem? (i := 1011) (by decide +kernel), List.mem_of_getElem? (i := 1012) (by decide +kernel)⟩
theorem lw_p30 : lw_okq (⟨"ArchTradesModel", "begin", "()V"⟩, 34) := ⟨⟨by decide +kernel, by decide +kernel⟩, List.mem_of_getElem? (i := 888) (by decide +kernel), List.mem_of_getElem? (i := 1039) (by decide +kernel), List.mem_of_getElem? (i := 1040) (by decide +kernel)⟩
theorem lw_p31 : lw_okq (⟨"ArchTradesModel", "next", "()V"⟩, 34) := ⟨⟨by decide +kernel, by decide +kernel⟩, List.mem_of_getElem? (i := 888) (by decide +kernel), List.mem_of_getElem? (i := 1043) (by decide +kernel), List.mem_of_getElem? (i := 1044) (by decide +kernel)⟩
def lw_privs_2 : List (MethodName × Nat) := [(⟨"ArchTrades$Foretold", "findPlace", "(II)Z"⟩, 11), (⟨"ArchTrades$Foretold", "openHours", "(II)I"⟩, 11), (⟨"ArchTrades$Foretold", "givePlace", "(III)V"⟩, 11), (⟨"ArchTrades$Foretold", "settleFirst", "(IIII)I"⟩, 11), (⟨"ArchTrades$Foretold", "countHopeful", "()I"⟩, 11), (⟨"ArchTrades$Foretold", "sortCharters", "()V"⟩, 11), (⟨"ArchTrades$Foretold", "swapCharters", "(II)V"⟩, 11), (⟨"ArchTrades$Foretold", "dealNext", "()Z"⟩, 11), (⟨"ArchTrades", "areTrades", "(II)Z"⟩, 11), (⟨"ArchTrades", "falselyDeclared", "(II)I"⟩, 11), (⟨"ArchTrades", "imageOf", "(I)LArchTrades$Bridge;"⟩, 11), (⟨"ArchTrades$Asks", "gives", "(ILArchTrades$Bridge;II)I"⟩, 2), (⟨"ArchTrades$Asks", "leaveTrace", "(I)V"⟩, 2), (⟨"ArchTradesModel", "finding", "(I)I"⟩, 34), (⟨"ArchTradesModel", "begin", "()V"⟩, 34), (⟨"ArchTradesModel", "next", "()V"⟩, 34)]
theorem lw_r2 : ∀ q ∈ lw_privs_2, lw_okq q := List.forall_mem_cons.mpr ⟨lw_p16, List.forall_mem_cons.mpr ⟨lw_p17, List.forall_mem_cons.mpr ⟨lw_p18, List.forall_mem_cons.mpr ⟨lw_p19, List.forall_mem_cons.mpr ⟨lw_p20, List.forall_mem_cons.mpr ⟨lw_p21, List.forall_mem_cons.mpr ⟨lw_p22, List.forall_mem_cons.mpr ⟨lw_p23, List.forall_mem_cons.mpr ⟨lw_p24, List.forall_mem_cons.mpr ⟨lw_p25, List.forall_mem_cons.mpr ⟨lw_p26, List.forall_mem_cons.mpr ⟨lw_p27, List.forall_mem_cons.mpr ⟨lw_p28, List.forall_mem_cons.mpr ⟨lw_p29, List.forall_mem_cons.mpr ⟨lw_p30, List.forall_mem_cons.mpr ⟨lw_p31, fun _ h => absurd h List.not_mem_nil⟩⟩⟩⟩⟩⟩⟩⟩⟩⟩⟩⟩⟩⟩⟩⟩
theorem lw_p32 : lw_okq (⟨"ArchTradesModel", "byteAt", "(I)I"⟩, 34) := ⟨⟨by decide +kernel, by decide +kernel⟩, List.mem_of_getElem? (i := 888) (by decide +kernel), List.mem_of_getElem? (i := 1047) (by decide +kernel), List.mem_of_getElem? (i := 1048) (by decide +kernel)⟩
theorem lw_p33 : lw_okq (⟨"ArchTradesModel", "readTide", "()V"⟩, 34) := ⟨⟨by decide +kernel, by decide +kernel⟩, List.mem_of_getElem? (i := 888) (by decide +kernel), List.mem_of_getElem? (i := 1058) (by decide +kernel), List.mem_of_getElem? (i := 1059) (by decide +kernel)⟩
theorem lw_p34 : lw_okq (⟨"ArchTradesModel", "name", "()J"⟩, 34) := ⟨⟨by decide +kernel, by decide +kernel⟩, List.mem_of_getElem? (i := 888) (by decide +kernel), List.mem_of_getElem? (i := 1062) (by decide +kernel), List.mem_of_getElem? (i := 1063) (by decide +kernel)⟩
theorem lw_p35 : lw_okq (⟨"ArchTradesModel", "must", "(Z)V"⟩, 34) := ⟨⟨by decide +kernel, by decide +kernel⟩, List.mem_of_getElem? (i := 888) (by decide +kernel), List.mem_of_getElem? (i := 1067) (by decide +kernel), List.mem_of_getElem? (i := 1068) (by decide +kernel)⟩
theorem lw_p36 : lw_okq (⟨"ArchTradesModel", "bad", "(I)V"⟩, 34) := ⟨⟨by decide +kernel, by decide +kernel⟩, List.mem_of_getElem? (i := 888) (by decide +kernel), List.mem_of_getElem? (i := 1071) (by decide +kernel), List.mem_of_getElem? (i := 1072) (by decide +kernel)⟩
theorem lw_p37 : lw_okq (⟨"ArchTradesModel", "number", "(II)I"⟩, 34) := ⟨⟨by decide +kernel, by decide +kernel⟩, List.mem_of_getElem? (i := 888) (by decide +kernel), List.mem_of_getElem? (i := 1075) (by decide +kernel), List.mem_of_getElem? (i := 1076) (by decide +kernel)⟩
theorem lw_p38 : lw_okq (⟨"ArchTradesModel", "figures", "()I"⟩, 34) := ⟨⟨by decide +kernel, by decide +kernel⟩, List.mem_of_getElem? (i := 888) (by decide +kernel), List.mem_of_getElem? (i := 1079) (by decide +kernel), List.mem_of_getElem? (i := 1080) (by decide +kernel)⟩
theorem lw_p39 : lw_okq (⟨"ArchTradesModel", "mustEnd", "()V"⟩, 34) := ⟨⟨by decide +kernel, by decide +kernel⟩, List.mem_of_getElem? (i := 888) (by decide +kernel), List.mem_of_getElem? (i := 1083) (by decide +kernel), List.mem_of_getElem? (i := 1084) (by decide +kernel)⟩
theorem lw_p40 : lw_okq (⟨"ArchTradesModel", "readArch", "()V"⟩, 34) := ⟨⟨by decide +kernel, by decide +kernel⟩, List.mem_of_getElem? (i := 888) (by decide +kernel), List.mem_of_getElem? (i := 1088) (by decide +kernel), List.mem_of_getElem? (i := 1089) (by decide +kernel)⟩
theorem lw_p41 : lw_okq (⟨"ArchTradesModel", "begins", "(II)V"⟩, 34) := ⟨⟨by decide +kernel, by decide +kernel⟩, List.mem_of_getElem? (i := 888) (by decide +kernel), List.mem_of_getElem? (i := 1092) (by decide +kernel), List.mem_of_getElem? (i := 1093) (by decide +kernel)⟩
theorem lw_p42 : lw_okq (⟨"ArchTradesModel", "readBoat", "()V"⟩, 34) := ⟨⟨by decide +kernel, by decide +kernel⟩, List.mem_of_getElem? (i := 888) (by decide +kernel), List.mem_of_getElem? (i := 1097) (by decide +kernel), List.mem_of_getElem? (i := 1098) (by decide +kernel)⟩
theorem lw_p43 : lw_okq (⟨"ArchTradesModel", "isArch", "(I)Z"⟩, 34) := ⟨⟨by decide +kernel, by decide +kernel⟩, List.mem_of_getElem? (i := 888) (by decide +kernel), List.mem_of_getElem? (i := 1118) (by decide +kernel), List.mem_of_getElem? (i := 1119) (by decide +kernel)⟩
theorem lw_p44 : lw_okq (⟨"ArchTradesModel", "becomes", "(II)I"⟩, 34) := ⟨⟨by decide +kernel, by decide +kernel⟩, List.mem_of_getElem? (i := 888) (by decide +kernel), List.mem_of_getElem? (i := 1123) (by decide +kernel), List.mem_of_getElem? (i := 1124) (by decide +kernel)⟩
theorem lw_p45 : lw_okq (⟨"ArchTradesModel", "keep", "()V"⟩, 34) := ⟨⟨by decide +kernel, by decide +kernel⟩, List.mem_of_getElem? (i := 888) (by decide +kernel), List.mem_of_getElem? (i := 1127) (by decide +kernel), List.mem_of_getElem? (i := 1128) (by decide +kernel)⟩
theorem lw_p46 : lw_okq (⟨"ArchTradesModel", "isBoat", "(I)Z"⟩, 34) := ⟨⟨by decide +kernel, by decide +kernel⟩, List.mem_of_getElem? (i := 888) (by decide +kernel), List.mem_of_getElem? (i := 1139) (by decide +kernel), List.mem_of_getElem? (i := 1140) (by decide +kernel)⟩
theorem lw_p47 : lw_okq (⟨"ArchTradesModel", "sideOf", "(I)I"⟩, 34) := ⟨⟨by decide +kernel, by decide +kernel⟩, List.mem_of_getElem? (i := 888) (by decide +kernel), List.mem_of_getElem? (i := 1143) (by decide +kernel), List.mem_of_getElem? (i := 1144) (by decide +kernel)⟩
def lw_privs_3 : List (MethodName × Nat) := [(⟨"ArchTradesModel", "byteAt", "(I)I"⟩, 34), (⟨"ArchTradesModel", "readTide", "()V"⟩, 34), (⟨"ArchTradesModel", "name", "()J"⟩, 34), (⟨"ArchTradesModel", "must", "(Z)V"⟩, 34), (⟨"ArchTradesModel", "bad", "(I)V"⟩, 34), (⟨"ArchTradesModel", "number", "(II)I"⟩, 34), (⟨"ArchTradesModel", "figures", "()I"⟩, 34), (⟨"ArchTradesModel", "mustEnd", "()V"⟩, 34), (⟨"ArchTradesModel", "readArch", "()V"⟩, 34), (⟨"ArchTradesModel", "begins", "(II)V"⟩, 34), (⟨"ArchTradesModel", "readBoat", "()V"⟩, 34), (⟨"ArchTradesModel", "isArch", "(I)Z"⟩, 34), (⟨"ArchTradesModel", "becomes", "(II)I"⟩, 34), (⟨"ArchTradesModel", "keep", "()V"⟩, 34), (⟨"ArchTradesModel", "isBoat", "(I)Z"⟩, 34), (⟨"ArchTradesModel", "sideOf", "(I)I"⟩, 34)]
theorem lw_r3 : ∀ q ∈ lw_privs_3, lw_okq q := List.forall_mem_cons.mpr ⟨lw_p32, List.forall_mem_cons.mpr ⟨lw_p33, List.forall_mem_cons.mpr ⟨lw_p34, List.forall_mem_cons.mpr ⟨lw_p35, List.forall_mem_cons.mpr ⟨lw_p36, List.forall_mem_cons.mpr ⟨lw_p37, List.forall_mem_cons.mpr ⟨lw_p38, List.forall_mem_cons.mpr ⟨lw_p39, List.forall_mem_cons.mpr ⟨lw_p40, List.forall_mem_cons.mpr ⟨lw_p41, List.forall_mem_cons.mpr ⟨lw_p42, List.forall_mem_cons.mpr ⟨lw_p43, List.forall_mem_cons.mpr ⟨lw_p44, List.forall_mem_cons.mpr ⟨lw_p45, List.forall_mem_cons.mpr ⟨lw_p46, List.forall_mem_cons.mpr ⟨lw_p47, fun _ h => absurd h List.not_mem_nil⟩⟩⟩⟩⟩⟩⟩⟩⟩⟩⟩⟩⟩⟩⟩⟩
theorem lw_p48 : lw_okq (⟨"ArchTradesModel", "of", "(II)I"⟩, 34) := ⟨⟨by decide +kernel, by decide +kernel⟩, List.mem_of_getElem? (i := 888) (by decide +kernel), List.mem_of_getElem? (i := 1147) (by decide +kernel), List.mem_of_getElem? (i := 1148) (by decide +kernel)⟩
theorem lw_p49 : lw_okq (⟨"ArchTradesModel", "mayGo", "(III)Z"⟩, 34) := ⟨⟨by decide +kernel, by decide +kernel⟩, List.mem_of_getElem? (i := 888) (by decide +kernel), List.mem_of_getElem? (i := 1151) (by decide +kernel), List.mem_of_getElem? (i := 1152) (by decide +kernel)⟩
theorem lw_p50 : lw_okq (⟨"ArchTradesModel", "archOf", "(II)I"⟩, 34) := ⟨⟨by decide +kernel, by decide +kernel⟩, List.mem_of_getElem? (i := 888) (by decide +kernel), List.mem_of_getElem? (i := 1155) (by decide +kernel), List.mem_of_getElem? (i := 1156) (by decide +kernel)⟩
theorem lw_p51 : lw_okq (⟨"ArchTradesModel", "mayBy", "(IIII)Z"⟩, 34) := ⟨⟨by decide +kernel, by decide +kernel⟩, List.mem_of_getElem? (i := 888) (by decide +kernel), List.mem_of_getElem? (i := 1159) (by decide +kernel), List.mem_of_getElem? (i := 1160) (by decide +kernel)⟩
theorem lw_p52 : lw_okq (⟨"ArchTradesModel", "tradesOf", "(I)I"⟩, 34) := ⟨⟨by decide +kernel, by decide +kernel⟩, List.mem_of_getElem? (i := 888) (by decide +kernel), List.mem_of_getElem? (i := 1163) (by decide +kernel), List.mem_of_getElem? (i := 1164) (by decide +kernel)⟩
theorem lw_p53 : lw_okq (⟨"ArchTradesModel", "allOf", "(I)I"⟩, 34) := ⟨⟨by decide +kernel, by decide +kernel⟩, List.mem_of_getElem? (i := 888) (by decide +kernel), List.mem_of_getElem? (i := 1171) (by decide +kernel), List.mem_of_getElem? (i := 1172) (by decide +kernel)⟩
theorem lw_p54 : lw_okq (⟨"ArchTradesModel", "isMixed", "(I)Z"⟩, 34) := ⟨⟨by decide +kernel, by decide +kernel⟩, List.mem_of_getElem? (i := 888) (by decide +kernel), List.mem_of_getElem? (i := 1175) (by decide +kernel), List.mem_of_getElem? (i := 1176) (by decide +kernel)⟩
theorem lw_p55 : lw_okq (⟨"ArchTradesModel", "portersOf", "(I)I"⟩, 34) := ⟨⟨by decide +kernel, by decide +kernel⟩, List.mem_of_getElem? (i := 888) (by decide +kernel), List.mem_of_getElem? (i := 1204) (by decide +kernel), List.mem_of_getElem? (i := 1205) (by decide +kernel)⟩
theorem lw_p56 : lw_okq (⟨"ArchTradesModel", "layCharters", "()V"⟩, 34) := ⟨⟨by decide +kernel, by decide +kernel⟩, List.mem_of_getElem? (i := 888) (by decide +kernel), List.mem_of_getElem? (i := 1224) (by decide +kernel), List.mem_of_getElem? (i := 1225) (by decide +kernel)⟩
theorem lw_p57 : lw_okq (⟨"ArchTradesModel", "noneTaken", "()V"⟩, 34) := ⟨⟨by decide +kernel, by decide +kernel⟩, List.mem_of_getElem? (i := 888) (by decide +kernel), List.mem_of_getElem? (i := 1228) (by decide +kernel), List.mem_of_getElem? (i := 1229) (by decide +kernel)⟩
theorem lw_p58 : lw_okq (⟨"ArchTradesModel", "mostFrom", "(I)I"⟩, 34) := ⟨⟨by decide +kernel, by decide +kernel⟩, List.mem_of_getElem? (i := 888) (by decide +kernel), List.mem_of_getElem? (i := 1232) (by decide +kernel), List.mem_of_getElem? (i := 1233) (by decide +kernel)⟩
theorem lw_p59 : lw_okq (⟨"ArchTradesModel", "putsOne", "(I)Z"⟩, 34) := ⟨⟨by decide +kernel, by decide +kernel⟩, List.mem_of_getElem? (i := 888) (by decide +kernel), List.mem_of_getElem? (i := 1236) (by decide +kernel), List.mem_of_getElem? (i := 1237) (by decide +kernel)⟩
theorem lw_p60 : lw_okq (⟨"ArchTradesModel", "canBe", "(II)Z"⟩, 34) := ⟨⟨by decide +kernel, by decide +kernel⟩, List.mem_of_getElem? (i := 888) (by decide +kernel), List.mem_of_getElem? (i := 1240) (by decide +kernel), List.mem_of_getElem? (i := 1241) (by decide +kernel)⟩
theorem lw_p61 : lw_okq (⟨"ArchTradesModel", "shift", "(I)V"⟩, 34) := ⟨⟨by decide +kernel, by decide +kernel⟩, List.mem_of_getElem? (i := 888) (by decide +kernel), List.mem_of_getElem? (i := 1244) (by decide +kernel), List.mem_of_getElem? (i := 1245) (by decide +kernel)⟩
theorem lw_p62 : lw_okq (⟨"ArchTradesModel", "firstOf", "(II)I"⟩, 34) := ⟨⟨by decide +kernel, by decide +kernel⟩, List.mem_of_getElem? (i := 888) (by decide +kernel), List.mem_of_getElem? (i := 1248) (by decide +kernel), List.mem_of_getElem? (i := 1249) (by decide +kernel)⟩
theorem lw_p63 : lw_okq (⟨"ArchTradesModel", "sortCharters", "()V"⟩, 34) := ⟨⟨by decide +kernel, by decide +kernel⟩, List.mem_of_getElem? (i := 888) (by decide +kernel), List.mem_of_getElem? (i := 1256) (by decide +kernel), List.mem_of_getElem? (i := 1257) (by decide +kernel)⟩
def lw_privs_4 : List (MethodName × Nat) := [(⟨"ArchTradesModel", "of", "(II)I"⟩, 34), (⟨"ArchTradesModel", "mayGo", "(III)Z"⟩, 34), (⟨"ArchTradesModel", "archOf", "(II)I"⟩, 34), (⟨"ArchTradesModel", "mayBy", "(IIII)Z"⟩, 34), (⟨"ArchTradesModel", "tradesOf", "(I)I"⟩, 34), (⟨"ArchTradesModel", "allOf", "(I)I"⟩, 34), (⟨"ArchTradesModel", "isMixed", "(I)Z"⟩, 34), (⟨"ArchTradesModel", "portersOf", "(I)I"⟩, 34), (⟨"ArchTradesModel", "layCharters", "()V"⟩, 34), (⟨"ArchTradesModel", "noneTaken", "()V"⟩, 34), (⟨"ArchTradesModel", "mostFrom", "(I)I"⟩, 34), (⟨"ArchTradesModel", "putsOne", "(I)Z"⟩, 34), (⟨"ArchTradesModel", "canBe", "(II)Z"⟩, 34), (⟨"ArchTradesModel", "shift", "(I)V"⟩, 34), (⟨"ArchTradesModel", "firstOf", "(II)I"⟩, 34), (⟨"ArchTradesModel", "sortCharters", "()V"⟩, 34)]
theorem lw_r4 : ∀ q ∈ lw_privs_4, lw_okq q := List.forall_mem_cons.mpr ⟨lw_p48, List.forall_mem_cons.mpr ⟨lw_p49, List.forall_mem_cons.mpr ⟨lw_p50, List.forall_mem_cons.mpr ⟨lw_p51, List.forall_mem_cons.mpr ⟨lw_p52, List.forall_mem_cons.mpr ⟨lw_p53, List.forall_mem_cons.mpr ⟨lw_p54, List.forall_mem_cons.mpr ⟨lw_p55, List.forall_mem_cons.mpr ⟨lw_p56, List.forall_mem_cons.mpr ⟨lw_p57, List.forall_mem_cons.mpr ⟨lw_p58, List.forall_mem_cons.mpr ⟨lw_p59, List.forall_mem_cons.mpr ⟨lw_p60, List.forall_mem_cons.mpr ⟨lw_p61, List.forall_mem_cons.mpr ⟨lw_p62, List.forall_mem_cons.mpr ⟨lw_p63, fun _ h => absurd h List.not_mem_nil⟩⟩⟩⟩⟩⟩⟩⟩⟩⟩⟩⟩⟩⟩⟩⟩
theorem lw_p64 : lw_okq (⟨"ArchTradesModel", "swap", "(II)V"⟩, 34) := ⟨⟨by decide +kernel, by decide +kernel⟩, List.mem_of_getElem? (i := 888) (by decide +kernel), List.mem_of_getElem? (i := 1260) (by decide +kernel), List.mem_of_getElem? (i := 1261) (by decide +kernel)⟩
theorem lw_p65 : lw_okq (⟨"ArchTradesModel", "nextCharters", "()Z"⟩, 34) := ⟨⟨by decide +kernel, by decide +kernel⟩, List.mem_of_getElem? (i := 888) (by decide +kernel), List.mem_of_getElem? (i := 1264) (by decide +kernel), List.mem_of_getElem? (i := 1265) (by decide +kernel)⟩
theorem lw_p66 : lw_okq (⟨"ArchTradesModel", "sizeOf", "(I)I"⟩, 34) := ⟨⟨by decide +kernel, by decide +kernel⟩, List.mem_of_getElem? (i := 888) (by decide +kernel), List.mem_of_getElem? (i := 1305) (by decide +kernel), List.mem_of_getElem? (i := 1306) (by decide +kernel)⟩
theorem lw_p67 : lw_okq (⟨"ArchTradesModel", "cartSize", "(I)I"⟩, 34) := ⟨⟨by decide +kernel, by decide +kernel⟩, List.mem_of_getElem? (i := 888) (by decide +kernel), List.mem_of_getElem? (i := 1309) (by decide +kernel), List.mem_of_getElem? (i := 1310) (by decide +kernel)⟩
theorem lw_p68 : lw_okq (⟨"ArchTradesModel", "began", "(I)V"⟩, 34) := ⟨⟨by decide +kernel, by decide +kernel⟩, List.mem_of_getElem? (i := 888) (by decide +kernel), List.mem_of_getElem? (i := 1313) (by decide +kernel), List.mem_of_getElem? (i := 1314) (by decide +kernel)⟩
theorem lw_p69 : lw_okq (⟨"ArchTradesModel", "plainSize", "(I)I"⟩, 34) := ⟨⟨by decide +kernel, by decide +kernel⟩, List.mem_of_getElem? (i := 888) (by decide +kernel), List.mem_of_getElem? (i := 1317) (by decide +kernel), List.mem_of_getElem? (i := 1318) (by decide +kernel)⟩
theorem lw_p70 : lw_okq (⟨"ArchTradesModel", "markOf", "(I)I"⟩, 34) := ⟨⟨by decide +kernel, by decide +kernel⟩, List.mem_of_getElem? (i := 888) (by decide +kernel), List.mem_of_getElem? (i := 1321) (by decide +kernel), List.mem_of_getElem? (i := 1322) (by decide +kernel)⟩
def lw_privs_5 : List (MethodName × Nat) := [(⟨"ArchTradesModel", "swap", "(II)V"⟩, 34), (⟨"ArchTradesModel", "nextCharters", "()Z"⟩, 34), (⟨"ArchTradesModel", "sizeOf", "(I)I"⟩, 34), (⟨"ArchTradesModel", "cartSize", "(I)I"⟩, 34), (⟨"ArchTradesModel", "began", "(I)V"⟩, 34), (⟨"ArchTradesModel", "plainSize", "(I)I"⟩, 34), (⟨"ArchTradesModel", "markOf", "(I)I"⟩, 34)]
theorem lw_r5 : ∀ q ∈ lw_privs_5, lw_okq q := List.forall_mem_cons.mpr ⟨lw_p64, List.forall_mem_cons.mpr ⟨lw_p65, List.forall_mem_cons.mpr ⟨lw_p66, List.forall_mem_cons.mpr ⟨lw_p67, List.forall_mem_cons.mpr ⟨lw_p68, List.forall_mem_cons.mpr ⟨lw_p69, List.forall_mem_cons.mpr ⟨lw_p70, fun _ h => absurd h List.not_mem_nil⟩⟩⟩⟩⟩⟩⟩
def lw_privs : List (MethodName × Nat) := lw_privs_1 ++ (lw_privs_2 ++ (lw_privs_3 ++ (lw_privs_4 ++ (lw_privs_5))))
def lw_tbl : List Cond := k2_sels lw_privs ++ tables_1
theorem lw_privs_ok : ∀ q ∈ lw_privs, lw_okq q := by
  show ∀ q ∈ lw_privs_1 ++ (lw_privs_2 ++ (lw_privs_3 ++ (lw_privs_4 ++ (lw_privs_5)))), lw_okq q
  exact List.forall_mem_append.mpr ⟨lw_r1, List.forall_mem_append.mpr ⟨lw_r2, List.forall_mem_append.mpr ⟨lw_r3, List.forall_mem_append.mpr ⟨lw_r4, lw_r5⟩⟩⟩⟩
/-! ===== BEGIN words of one list among another's, by their places ===== -/
theorem goodIn_r {big : List Cond} (ws : List Cond) (ps : List Nat) (hp : ws = ps.filterMap (fun i => big[i]?)) (h : ws.all goodWord = true) : GoodIn big ws := by
  intro w hw
  have h1 := List.all_eq_true.mp h w hw
  rw [hp] at hw
  obtain ⟨i, -, hi⟩ := List.mem_filterMap.mp hw
  have hm : w ∈ big := by first | exact List.mem_of_getElem? hi | exact List.getElem?_mem hi
  exact ⟨hm, good_of_word h1⟩
theorem goodIn_app {big a b : List Cond} (ha : GoodIn big a) (hb : GoodIn big b) : GoodIn big (a ++ b) := fun w h => (List.mem_append.mp h).elim (ha w) (hb w)
theorem goodIn_ca {big a b : List Cond} {c : Cond} (ha : GoodIn big (c :: a)) (hb : GoodIn big b) : GoodIn big (c :: (a ++ b)) := fun w h => (List.mem_cons.mp h).elim (fun e => ha w (List.mem_cons.mpr (Or.inl e))) (fun h => (List.mem_append.mp h).elim (fun h => ha w (List.mem_cons.mpr (Or.inr h))) (hb w))
theorem goodIn_sub {big ws : List Cond} (hm : ∀ w ∈ ws, w ∈ big) (h : ws.all goodWord = true) : GoodIn big ws := fun w hw => ⟨hm w hw, good_of_word (List.all_eq_true.mp h w hw)⟩
/-! ===== END ===== -/

/-! ===== BEGIN printed: names, fields, word lists, decode rows ===== -/
def RX0 : String := "ArchTrades$Acts"
def TX0 : u_T := fun k => match k with
  | 0 => ("ArchTrades$Acts", "whats", "[I", true)
  | 1 => ("ArchTrades$Acts", "firsts", "[I", true)
  | 2 => ("ArchTrades$Acts", "seconds", "[I", true)
  | 3 => ("ArchTrades$Acts", "thirds", "[I", true)
  | 4 => ("ArchTrades$Acts", "oldest", "I", false)
  | _ => ("ArchTrades$Acts", "kept", "I", false)
def tyX0 : Nat → FieldType := fun k => match k with
  | 0 => .array .int
  | 1 => .array .int
  | 2 => .array .int
  | 3 => .array .int
  | 4 => .int
  | _ => .int
abbrev wsX00 : List Cond := u_ws RX0 TX0 6
theorem nmX0 : ∀ a, a < 6 → ∀ b, b < 6 → a ≠ b → (TX0 a).2.1 ≠ (TX0 b).2.1 := by decide +kernel
theorem tyX0_ok : ∀ k, k < 6 → parseFieldDescriptor (TX0 k).2.2.1 = some (tyX0 k) := by decide +kernel
abbrev cX0_init : ByteArray := prog_2_method_1_code
def yX0_init : MethodName := ⟨RX0, "<init>", "()V"⟩
abbrev cX0_kept : ByteArray := prog_2_method_2_code
def yX0_kept : MethodName := ⟨RX0, "kept", "()I"⟩
abbrev cX0_forget : ByteArray := prog_2_method_3_code
def yX0_forget : MethodName := ⟨RX0, "forget", "()V"⟩
abbrev cX0_keep : ByteArray := prog_2_method_4_code
def yX0_keep : MethodName := ⟨RX0, "keep", "(IIII)V"⟩
abbrev cX0_takeBack : ByteArray := prog_2_method_5_code
def yX0_takeBack : MethodName := ⟨RX0, "takeBack", "(LArchTrades$Bridge;)V"⟩
def RX1 : String := "ArchTrades$Asks"
def TX1 : u_T := fun k => match k with
  | 0 => ("ArchTrades$Asks", "begun", "[I", true)
  | _ => ("ArchTrades$Asks", "traced", "I", false)
def tyX1 : Nat → FieldType := fun k => match k with
  | 0 => .array .int
  | _ => .int
abbrev wsX10 : List Cond := u_ws RX1 TX1 2
theorem nmX1 : ∀ a, a < 2 → ∀ b, b < 2 → a ≠ b → (TX1 a).2.1 ≠ (TX1 b).2.1 := by decide +kernel
theorem tyX1_ok : ∀ k, k < 2 → parseFieldDescriptor (TX1 k).2.2.1 = some (tyX1 k) := by decide +kernel
abbrev cX1_init : ByteArray := prog_3_method_1_code
def yX1_init : MethodName := ⟨RX1, "<init>", "()V"⟩
abbrev cX1_answer : ByteArray := prog_3_method_2_code
def yX1_answer : MethodName := ⟨RX1, "answer", "(LArchTrades$Bridge;II)I"⟩
abbrev cX1_traceAt : ByteArray := prog_3_method_3_code
def yX1_traceAt : MethodName := ⟨RX1, "traceAt", "(I)I"⟩
abbrev cX1_bodyFor : ByteArray := prog_3_method_4_code
def yX1_bodyFor : MethodName := ⟨RX1, "bodyFor", "(II)I"⟩
abbrev cX1_gives : ByteArray := prog_3_method_5_code
def yX1_gives : MethodName := ⟨RX1, "gives", "(ILArchTrades$Bridge;II)I"⟩
abbrev cX1_leaveTrace : ByteArray := prog_3_method_6_code
def yX1_leaveTrace : MethodName := ⟨RX1, "leaveTrace", "(I)V"⟩
def RX2 : String := "ArchTrades$Bridge"
def TX2 : u_T := fun k => match k with
  | 0 => ("ArchTrades$Bridge", "stands", "Z", false)
  | 1 => ("ArchTrades$Bridge", "arches", "I", false)
  | 2 => ("ArchTrades$Bridge", "boats", "I", false)
  | 3 => ("ArchTrades$Bridge", "hourNow", "I", false)
  | 4 => ("ArchTrades$Bridge", "tollHad", "I", false)
  | 5 => ("ArchTrades$Bridge", "shutArches", "I", false)
  | 6 => ("ArchTrades$Bridge", "goneBoats", "I", false)
  | 7 => ("ArchTrades$Bridge", "tides", "[I", true)
  | 8 => ("ArchTrades$Bridge", "charters", "[I", true)
  | 9 => ("ArchTrades$Bridge", "heights", "[I", true)
  | 10 => ("ArchTrades$Bridge", "tolls", "[I", true)
  | 11 => ("ArchTrades$Bridge", "sorts", "[I", true)
  | 12 => ("ArchTrades$Bridge", "masts", "[I", true)
  | 13 => ("ArchTrades$Bridge", "loads", "[I", true)
  | _ => ("ArchTrades$Bridge", "wentBy", "[I", true)
def tyX2 : Nat → FieldType := fun k => match k with
  | 0 => .boolean
  | 1 => .int
  | 2 => .int
  | 3 => .int
  | 4 => .int
  | 5 => .int
  | 6 => .int
  | 7 => .array .int
  | 8 => .array .int
  | 9 => .array .int
  | 10 => .array .int
  | 11 => .array .int
  | 12 => .array .int
  | 13 => .array .int
  | _ => .array .int
abbrev wsX20 : List Cond := u_ws RX2 TX2 15
theorem nmX2 : ∀ a, a < 15 → ∀ b, b < 15 → a ≠ b → (TX2 a).2.1 ≠ (TX2 b).2.1 := by decide +kernel
theorem tyX2_ok : ∀ k, k < 15 → parseFieldDescriptor (TX2 k).2.2.1 = some (tyX2 k) := by decide +kernel
abbrev cX2_init : ByteArray := prog_4_method_1_code
def yX2_init : MethodName := ⟨RX2, "<init>", "()V"⟩
abbrev cX2_charterPlace : ByteArray := prog_4_method_2_code
def yX2_charterPlace : MethodName := ⟨RX2, "charterPlace", "(II)I"⟩
abbrev cX2_loadPlace : ByteArray := prog_4_method_3_code
def yX2_loadPlace : MethodName := ⟨RX2, "loadPlace", "(II)I"⟩
abbrev cX2_clear : ByteArray := prog_4_method_4_code
def yX2_clear : MethodName := ⟨RX2, "clear", "()V"⟩
abbrev cX2_become : ByteArray := prog_4_method_5_code
def yX2_become : MethodName := ⟨RX2, "become", "(LArchTrades$Bridge;)V"⟩
abbrev cX2_isArch : ByteArray := prog_4_method_6_code
def yX2_isArch : MethodName := ⟨RX2, "isArch", "(I)Z"⟩
abbrev cX2_isBoat : ByteArray := prog_4_method_7_code
def yX2_isBoat : MethodName := ⟨RX2, "isBoat", "(I)Z"⟩
abbrev cX2_isShut : ByteArray := prog_4_method_8_code
def yX2_isShut : MethodName := ⟨RX2, "isShut", "(I)Z"⟩
abbrev cX2_isGone : ByteArray := prog_4_method_9_code
def yX2_isGone : MethodName := ⟨RX2, "isGone", "(I)Z"⟩
abbrev cX2_charterOf : ByteArray := prog_4_method_10_code
def yX2_charterOf : MethodName := ⟨RX2, "charterOf", "(II)I"⟩
abbrev cX2_giveCharter : ByteArray := prog_4_method_11_code
def yX2_giveCharter : MethodName := ⟨RX2, "giveCharter", "(III)V"⟩
abbrev cX2_loadOf : ByteArray := prog_4_method_12_code
def yX2_loadOf : MethodName := ⟨RX2, "loadOf", "(II)I"⟩
abbrev cX2_allOf : ByteArray := prog_4_method_13_code
def yX2_allOf : MethodName := ⟨RX2, "allOf", "(I)I"⟩
abbrev cX2_weightOf : ByteArray := prog_4_method_14_code
def yX2_weightOf : MethodName := ⟨RX2, "weightOf", "(I)I"⟩
abbrev cX2_tradesOf : ByteArray := prog_4_method_15_code
def yX2_tradesOf : MethodName := ⟨RX2, "tradesOf", "(I)I"⟩
abbrev cX2_isMixed : ByteArray := prog_4_method_16_code
def yX2_isMixed : MethodName := ⟨RX2, "isMixed", "(I)Z"⟩
abbrev cX2_portersOf : ByteArray := prog_4_method_17_code
def yX2_portersOf : MethodName := ⟨RX2, "portersOf", "(I)I"⟩
abbrev cX2_tollOf : ByteArray := prog_4_method_18_code
def yX2_tollOf : MethodName := ⟨RX2, "tollOf", "(II)I"⟩
abbrev cX2_sideOf : ByteArray := prog_4_method_19_code
def yX2_sideOf : MethodName := ⟨RX2, "sideOf", "(I)I"⟩
abbrev cX2_chartersFor : ByteArray := prog_4_method_20_code
def yX2_chartersFor : MethodName := ⟨RX2, "chartersFor", "(I)I"⟩
abbrev cX2_hasRoom : ByteArray := prog_4_method_21_code
def yX2_hasRoom : MethodName := ⟨RX2, "hasRoom", "(III)Z"⟩
abbrev cX2_letsBy : ByteArray := prog_4_method_22_code
def yX2_letsBy : MethodName := ⟨RX2, "letsBy", "(III)Z"⟩
abbrev cX2_tradesCutOff : ByteArray := prog_4_method_23_code
def yX2_tradesCutOff : MethodName := ⟨RX2, "tradesCutOff", "(II)I"⟩
abbrev cX2_wentIn : ByteArray := prog_4_method_24_code
def yX2_wentIn : MethodName := ⟨RX2, "wentIn", "(II)I"⟩
abbrev cX2_goBy : ByteArray := prog_4_method_25_code
def yX2_goBy : MethodName := ⟨RX2, "goBy", "(III)V"⟩
abbrev cX2_comeBack : ByteArray := prog_4_method_26_code
def yX2_comeBack : MethodName := ⟨RX2, "comeBack", "(III)V"⟩
abbrev cX2_markWent : ByteArray := prog_4_method_27_code
def yX2_markWent : MethodName := ⟨RX2, "markWent", "(III)V"⟩
abbrev cX2_splitOff : ByteArray := prog_4_method_28_code
def yX2_splitOff : MethodName := ⟨RX2, "splitOff", "(II)I"⟩
abbrev cX2_joinLast : ByteArray := prog_4_method_29_code
def yX2_joinLast : MethodName := ⟨RX2, "joinLast", "(II)V"⟩
def RX3 : String := "ArchTrades$Foretold"
def TX3 : u_T := fun k => match k with
  | 0 => ("ArchTrades$Foretold", "roomy", "[I", true)
  | 1 => ("ArchTrades$Foretold", "chartersFor", "[I", true)
  | 2 => ("ArchTrades$Foretold", "charters", "[I", true)
  | 3 => ("ArchTrades$Foretold", "firstRow", "[I", true)
  | 4 => ("ArchTrades$Foretold", "settled", "[I", true)
  | 5 => ("ArchTrades$Foretold", "taken", "[I", true)
  | 6 => ("ArchTrades$Foretold", "archOf", "[I", true)
  | 7 => ("ArchTrades$Foretold", "hourBitOf", "[I", true)
  | 8 => ("ArchTrades$Foretold", "arches", "I", false)
  | 9 => ("ArchTrades$Foretold", "boats", "I", false)
  | _ => ("ArchTrades$Foretold", "asked", "I", false)
def tyX3 : Nat → FieldType := fun k => match k with
  | 0 => .array .int
  | 1 => .array .int
  | 2 => .array .int
  | 3 => .array .int
  | 4 => .array .int
  | 5 => .array .int
  | 6 => .array .int
  | 7 => .array .int
  | 8 => .int
  | 9 => .int
  | _ => .int
abbrev wsX30 : List Cond := u_ws RX3 TX3 11
theorem nmX3 : ∀ a, a < 11 → ∀ b, b < 11 → a ≠ b → (TX3 a).2.1 ≠ (TX3 b).2.1 := by decide +kernel
theorem tyX3_ok : ∀ k, k < 11 → parseFieldDescriptor (TX3 k).2.2.1 = some (tyX3 k) := by decide +kernel
abbrev cX3_init : ByteArray := prog_5_method_1_code
def yX3_init : MethodName := ⟨RX3, "<init>", "()V"⟩
abbrev cX3_greatest : ByteArray := prog_5_method_2_code
def yX3_greatest : MethodName := ⟨RX3, "greatest", "(LArchTrades$Bridge;II)I"⟩
abbrev cX3_whenGoes : ByteArray := prog_5_method_3_code
def yX3_whenGoes : MethodName := ⟨RX3, "whenGoes", "(LArchTrades$Bridge;III)I"⟩
abbrev cX3_dealAnew : ByteArray := prog_5_method_4_code
def yX3_dealAnew : MethodName := ⟨RX3, "dealAnew", "(LArchTrades$Bridge;II)I"⟩
abbrev cX3_dealtTo : ByteArray := prog_5_method_5_code
def yX3_dealtTo : MethodName := ⟨RX3, "dealtTo", "(I)I"⟩
abbrev cX3_greatestOf : ByteArray := prog_5_method_6_code
def yX3_greatestOf : MethodName := ⟨RX3, "greatestOf", "(LArchTrades$Bridge;III)I"⟩
abbrev cX3_prepare : ByteArray := prog_5_method_7_code
def yX3_prepare : MethodName := ⟨RX3, "prepare", "(LArchTrades$Bridge;III)V"⟩
abbrev cX3_roomyHours : ByteArray := prog_5_method_8_code
def yX3_roomyHours : MethodName := ⟨RX3, "roomyHours", "(LArchTrades$Bridge;IIII)I"⟩
abbrev cX3_openHours : ByteArray := prog_5_method_9_code
def yX3_openHours : MethodName := ⟨RX3, "openHours", "(II)I"⟩
abbrev cX3_placedFrom : ByteArray := prog_5_method_10_code
def yX3_placedFrom : MethodName := ⟨RX3, "placedFrom", "(I)I"⟩
abbrev cX3_findPlace : ByteArray := prog_5_method_11_code
def yX3_findPlace : MethodName := ⟨RX3, "findPlace", "(II)Z"⟩
abbrev cX3_givePlace : ByteArray := prog_5_method_12_code
def yX3_givePlace : MethodName := ⟨RX3, "givePlace", "(III)V"⟩
abbrev cX3_settleFirst : ByteArray := prog_5_method_13_code
def yX3_settleFirst : MethodName := ⟨RX3, "settleFirst", "(IIII)I"⟩
abbrev cX3_countHopeful : ByteArray := prog_5_method_14_code
def yX3_countHopeful : MethodName := ⟨RX3, "countHopeful", "()I"⟩
abbrev cX3_sortCharters : ByteArray := prog_5_method_15_code
def yX3_sortCharters : MethodName := ⟨RX3, "sortCharters", "()V"⟩
abbrev cX3_dealNext : ByteArray := prog_5_method_16_code
def yX3_dealNext : MethodName := ⟨RX3, "dealNext", "()Z"⟩
abbrev cX3_swapCharters : ByteArray := prog_5_method_17_code
def yX3_swapCharters : MethodName := ⟨RX3, "swapCharters", "(II)V"⟩
def RX4 : String := "ArchTrades$Reader"
def TX4 : u_T := fun k => match k with
  | 0 => ("ArchTrades$Reader", "told", "LArchTrades$Bridge;", true)
  | _ => ("ArchTrades$Reader", "faultNumber", "I", false)
def tyX4 : Nat → FieldType := fun k => match k with
  | 0 => .object "ArchTrades$Bridge"
  | _ => .int
abbrev wsX40 : List Cond := u_ws RX4 TX4 2
theorem nmX4 : ∀ a, a < 2 → ∀ b, b < 2 → a ≠ b → (TX4 a).2.1 ≠ (TX4 b).2.1 := by decide +kernel
theorem tyX4_ok : ∀ k, k < 2 → parseFieldDescriptor (TX4 k).2.2.1 = some (tyX4 k) := by decide +kernel
abbrev cX4_init : ByteArray := prog_6_method_1_code
def yX4_init : MethodName := ⟨RX4, "<init>", "()V"⟩
abbrev cX4_result : ByteArray := prog_6_method_2_code
def yX4_result : MethodName := ⟨RX4, "result", "()LArchTrades$Bridge;"⟩
abbrev cX4_faultNumber : ByteArray := prog_6_method_3_code
def yX4_faultNumber : MethodName := ⟨RX4, "faultNumber", "()I"⟩
abbrev cX4_read : ByteArray := prog_6_method_4_code
def yX4_read : MethodName := ⟨RX4, "read", "(LArchTrades$Tape;)Z"⟩
abbrev cX4_faulty : ByteArray := prog_6_method_5_code
def yX4_faulty : MethodName := ⟨RX4, "faulty", "(I)Z"⟩
abbrev cX4_readTide : ByteArray := prog_6_method_6_code
def yX4_readTide : MethodName := ⟨RX4, "readTide", "(LArchTrades$Tape;)Z"⟩
abbrev cX4_readArches : ByteArray := prog_6_method_7_code
def yX4_readArches : MethodName := ⟨RX4, "readArches", "(LArchTrades$Tape;)Z"⟩
abbrev cX4_readArch : ByteArray := prog_6_method_8_code
def yX4_readArch : MethodName := ⟨RX4, "readArch", "(LArchTrades$Tape;I)Z"⟩
abbrev cX4_readBoats : ByteArray := prog_6_method_9_code
def yX4_readBoats : MethodName := ⟨RX4, "readBoats", "(LArchTrades$Tape;)Z"⟩
abbrev cX4_readBoat : ByteArray := prog_6_method_10_code
def yX4_readBoat : MethodName := ⟨RX4, "readBoat", "(LArchTrades$Tape;I)Z"⟩
abbrev cX4_sortTold : ByteArray := prog_6_method_11_code
def yX4_sortTold : MethodName := ⟨RX4, "sortTold", "(LArchTrades$Tape;)I"⟩
abbrev cX4_readNumber : ByteArray := prog_6_method_12_code
def yX4_readNumber : MethodName := ⟨RX4, "readNumber", "(LArchTrades$Tape;II[II)Z"⟩
abbrev cX4_readSign : ByteArray := prog_6_method_13_code
def yX4_readSign : MethodName := ⟨RX4, "readSign", "(LArchTrades$Tape;)Z"⟩
def RX5 : String := "ArchTrades$Rows"
def TX5 : u_T := fun k => match k with
  | 0 => ("ArchTrades$Rows", "lanes", "[I", true)
  | 1 => ("ArchTrades$Rows", "sizes", "[I", true)
  | _ => ("ArchTrades$Rows", "items", "[I", true)
def tyX5 : Nat → FieldType := fun k => match k with
  | 0 => .array .int
  | 1 => .array .int
  | _ => .array .int
abbrev wsX50 : List Cond := u_ws RX5 TX5 3
theorem nmX5 : ∀ a, a < 3 → ∀ b, b < 3 → a ≠ b → (TX5 a).2.1 ≠ (TX5 b).2.1 := by decide +kernel
theorem tyX5_ok : ∀ k, k < 3 → parseFieldDescriptor (TX5 k).2.2.1 = some (tyX5 k) := by decide +kernel
abbrev cX5_init : ByteArray := prog_7_method_1_code
def yX5_init : MethodName := ⟨RX5, "<init>", "()V"⟩
abbrev cX5_isRow : ByteArray := prog_7_method_2_code
def yX5_isRow : MethodName := ⟨RX5, "isRow", "(I)Z"⟩
abbrev cX5_isMissing : ByteArray := prog_7_method_3_code
def yX5_isMissing : MethodName := ⟨RX5, "isMissing", "(I)Z"⟩
abbrev cX5_laneOf : ByteArray := prog_7_method_4_code
def yX5_laneOf : MethodName := ⟨RX5, "laneOf", "(I)I"⟩
abbrev cX5_hasPlaces : ByteArray := prog_7_method_5_code
def yX5_hasPlaces : MethodName := ⟨RX5, "hasPlaces", "(III)Z"⟩
abbrev cX5_begin : ByteArray := prog_7_method_6_code
def yX5_begin : MethodName := ⟨RX5, "begin", "(III)V"⟩
abbrev cX5_put : ByteArray := prog_7_method_7_code
def yX5_put : MethodName := ⟨RX5, "put", "(III)I"⟩
abbrev cX5_itemAt : ByteArray := prog_7_method_8_code
def yX5_itemAt : MethodName := ⟨RX5, "itemAt", "(II)I"⟩
abbrev cX5_move : ByteArray := prog_7_method_9_code
def yX5_move : MethodName := ⟨RX5, "move", "(IIIII)V"⟩
abbrev cX5_remove : ByteArray := prog_7_method_10_code
def yX5_remove : MethodName := ⟨RX5, "remove", "(I)I"⟩
abbrev cX5_present : ByteArray := prog_7_method_11_code
def yX5_present : MethodName := ⟨RX5, "present", "()I"⟩
abbrev cX5_narrowed : ByteArray := prog_7_method_12_code
def yX5_narrowed : MethodName := ⟨RX5, "narrowed", "(II)I"⟩
def RX6 : String := "ArchTrades$Tape"
def TX6 : u_T := fun k => match k with
  | 0 => ("ArchTrades$Tape", "bytes", "[B", true)
  | 1 => ("ArchTrades$Tape", "length", "I", false)
  | 2 => ("ArchTrades$Tape", "sort", "I", false)
  | 3 => ("ArchTrades$Tape", "start", "I", false)
  | _ => ("ArchTrades$Tape", "end", "I", false)
def tyX6 : Nat → FieldType := fun k => match k with
  | 0 => .array .byte
  | 1 => .int
  | 2 => .int
  | 3 => .int
  | _ => .int
abbrev wsX60 : List Cond := u_ws RX6 TX6 5
theorem nmX6 : ∀ a, a < 5 → ∀ b, b < 5 → a ≠ b → (TX6 a).2.1 ≠ (TX6 b).2.1 := by decide +kernel
theorem tyX6_ok : ∀ k, k < 5 → parseFieldDescriptor (TX6 k).2.2.1 = some (tyX6 k) := by decide +kernel
abbrev cX6_init : ByteArray := prog_8_method_1_code
def yX6_init : MethodName := ⟨RX6, "<init>", "()V"⟩
abbrev cX6_size : ByteArray := prog_8_method_2_code
def yX6_size : MethodName := ⟨RX6, "size", "()I"⟩
abbrev cX6_clear : ByteArray := prog_8_method_3_code
def yX6_clear : MethodName := ⟨RX6, "clear", "()V"⟩
abbrev cX6_append : ByteArray := prog_8_method_4_code
def yX6_append : MethodName := ⟨RX6, "append", "(JI)Z"⟩
abbrev cX6_tokenStart : ByteArray := prog_8_method_5_code
def yX6_tokenStart : MethodName := ⟨RX6, "tokenStart", "()I"⟩
abbrev cX6_numberTold : ByteArray := prog_8_method_6_code
def yX6_numberTold : MethodName := ⟨RX6, "numberTold", "()I"⟩
abbrev cX6_rewind : ByteArray := prog_8_method_7_code
def yX6_rewind : MethodName := ⟨RX6, "rewind", "()V"⟩
abbrev cX6_step : ByteArray := prog_8_method_8_code
def yX6_step : MethodName := ⟨RX6, "step", "()V"⟩
abbrev cX6_isEnd : ByteArray := prog_8_method_9_code
def yX6_isEnd : MethodName := ⟨RX6, "isEnd", "()Z"⟩
abbrev cX6_isNumber : ByteArray := prog_8_method_10_code
def yX6_isNumber : MethodName := ⟨RX6, "isNumber", "()Z"⟩
abbrev cX6_isSign : ByteArray := prog_8_method_11_code
def yX6_isSign : MethodName := ⟨RX6, "isSign", "()Z"⟩
abbrev cX6_isWord : ByteArray := prog_8_method_12_code
def yX6_isWord : MethodName := ⟨RX6, "isWord", "(Ljava/lang/String;)Z"⟩
abbrev cX6_isBlank : ByteArray := prog_8_method_13_code
def yX6_isBlank : MethodName := ⟨RX6, "isBlank", "(B)Z"⟩
abbrev cX6_sortOf : ByteArray := prog_8_method_14_code
def yX6_sortOf : MethodName := ⟨RX6, "sortOf", "(B)I"⟩
def RX7 : String := "ArchTrades"
def TX7 : u_T := fun k => match k with
  | 0 => ("ArchTrades", "rows", "LArchTrades$Rows;", true)
  | 1 => ("ArchTrades", "tape", "LArchTrades$Tape;", true)
  | 2 => ("ArchTrades", "reader", "LArchTrades$Reader;", true)
  | 3 => ("ArchTrades", "now", "LArchTrades$Bridge;", true)
  | 4 => ("ArchTrades", "firstImage", "LArchTrades$Bridge;", true)
  | 5 => ("ArchTrades", "secondImage", "LArchTrades$Bridge;", true)
  | 6 => ("ArchTrades", "acts", "LArchTrades$Acts;", true)
  | 7 => ("ArchTrades", "foretold", "LArchTrades$Foretold;", true)
  | 8 => ("ArchTrades", "asks", "LArchTrades$Asks;", true)
  | 9 => ("ArchTrades", "latestFault", "I", false)
  | _ => ("ArchTrades", "latestFinding", "I", false)
def tyX7 : Nat → FieldType := fun k => match k with
  | 0 => .object "ArchTrades$Rows"
  | 1 => .object "ArchTrades$Tape"
  | 2 => .object "ArchTrades$Reader"
  | 3 => .object "ArchTrades$Bridge"
  | 4 => .object "ArchTrades$Bridge"
  | 5 => .object "ArchTrades$Bridge"
  | 6 => .object "ArchTrades$Acts"
  | 7 => .object "ArchTrades$Foretold"
  | 8 => .object "ArchTrades$Asks"
  | 9 => .int
  | _ => .int
abbrev wsX70 : List Cond := u_ws RX7 TX7 11
theorem nmX7 : ∀ a, a < 11 → ∀ b, b < 11 → a ≠ b → (TX7 a).2.1 ≠ (TX7 b).2.1 := by decide +kernel
theorem tyX7_ok : ∀ k, k < 11 → parseFieldDescriptor (TX7 k).2.2.1 = some (tyX7 k) := by decide +kernel
abbrev cX7_init : ByteArray := prog_1_method_1_code
def yX7_init : MethodName := ⟨RX7, "<init>", "()V"⟩
abbrev cX7_row : ByteArray := prog_1_method_2_code
def yX7_row : MethodName := ⟨RX7, "row", "(III)I"⟩
abbrev cX7_set : ByteArray := prog_1_method_3_code
def yX7_set : MethodName := ⟨RX7, "set", "(III)I"⟩
abbrev cX7_copy : ByteArray := prog_1_method_4_code
def yX7_copy : MethodName := ⟨RX7, "copy", "(IIIII)I"⟩
abbrev cX7_drop : ByteArray := prog_1_method_5_code
def yX7_drop : MethodName := ⟨RX7, "drop", "(I)I"⟩
abbrev cX7_feed : ByteArray := prog_1_method_6_code
def yX7_feed : MethodName := ⟨RX7, "feed", "(JI)I"⟩
abbrev cX7_bridge : ByteArray := prog_1_method_7_code
def yX7_bridge : MethodName := ⟨RX7, "bridge", "()I"⟩
abbrev cX7_fault : ByteArray := prog_1_method_8_code
def yX7_fault : MethodName := ⟨RX7, "fault", "()I"⟩
abbrev cX7_lend : ByteArray := prog_1_method_9_code
def yX7_lend : MethodName := ⟨RX7, "lend", "(III)I"⟩
abbrev cX7_shut : ByteArray := prog_1_method_10_code
def yX7_shut : MethodName := ⟨RX7, "shut", "(II)I"⟩
abbrev cX7_pass : ByteArray := prog_1_method_11_code
def yX7_pass : MethodName := ⟨RX7, "pass", "(II)I"⟩
abbrev cX7_split : ByteArray := prog_1_method_12_code
def yX7_split : MethodName := ⟨RX7, "split", "(II)I"⟩
abbrev cX7_hour : ByteArray := prog_1_method_13_code
def yX7_hour : MethodName := ⟨RX7, "hour", "()I"⟩
abbrev cX7_undo : ByteArray := prog_1_method_14_code
def yX7_undo : MethodName := ⟨RX7, "undo", "()I"⟩
abbrev cX7_arch : ByteArray := prog_1_method_15_code
def yX7_arch : MethodName := ⟨RX7, "arch", "(II)I"⟩
abbrev cX7_boat : ByteArray := prog_1_method_16_code
def yX7_boat : MethodName := ⟨RX7, "boat", "(II)I"⟩
abbrev cX7_may : ByteArray := prog_1_method_17_code
def yX7_may : MethodName := ⟨RX7, "may", "(II)I"⟩
abbrev cX7_most : ByteArray := prog_1_method_18_code
def yX7_most : MethodName := ⟨RX7, "most", "(III)I"⟩
abbrev cX7_anew : ByteArray := prog_1_method_19_code
def yX7_anew : MethodName := ⟨RX7, "anew", "(III)I"⟩
abbrev cX7_cut : ByteArray := prog_1_method_20_code
def yX7_cut : MethodName := ⟨RX7, "cut", "(II)I"⟩
abbrev cX7_weighed : ByteArray := prog_1_method_21_code
def yX7_weighed : MethodName := ⟨RX7, "weighed", "(II)I"⟩
abbrev cX7_image : ByteArray := prog_1_method_22_code
def yX7_image : MethodName := ⟨RX7, "image", "(I)I"⟩
abbrev cX7_restore : ByteArray := prog_1_method_23_code
def yX7_restore : MethodName := ⟨RX7, "restore", "(I)I"⟩
abbrev cX7_kind : ByteArray := prog_1_method_24_code
def yX7_kind : MethodName := ⟨RX7, "kind", "(I)I"⟩
abbrev cX7_as : ByteArray := prog_1_method_25_code
def yX7_as : MethodName := ⟨RX7, "as", "(II)I"⟩
abbrev cX7_ask : ByteArray := prog_1_method_26_code
def yX7_ask : MethodName := ⟨RX7, "ask", "(II)I"⟩
abbrev cX7_trace : ByteArray := prog_1_method_27_code
def yX7_trace : MethodName := ⟨RX7, "trace", "(I)I"⟩
abbrev cX7_count : ByteArray := prog_1_method_28_code
def yX7_count : MethodName := ⟨RX7, "count", "(I)I"⟩
abbrev cX7_status : ByteArray := prog_1_method_29_code
def yX7_status : MethodName := ⟨RX7, "status", "()I"⟩
abbrev cX7_found : ByteArray := prog_1_method_30_code
def yX7_found : MethodName := ⟨RX7, "found", "(I)I"⟩
abbrev cX7_unfound : ByteArray := prog_1_method_31_code
def yX7_unfound : MethodName := ⟨RX7, "unfound", "(I)I"⟩
abbrev cX7_areTrades : ByteArray := prog_1_method_32_code
def yX7_areTrades : MethodName := ⟨RX7, "areTrades", "(II)Z"⟩
abbrev cX7_falselyDeclared : ByteArray := prog_1_method_33_code
def yX7_falselyDeclared : MethodName := ⟨RX7, "falselyDeclared", "(II)I"⟩
abbrev cX7_imageOf : ByteArray := prog_1_method_34_code
def yX7_imageOf : MethodName := ⟨RX7, "imageOf", "(I)LArchTrades$Bridge;"⟩
abbrev cX7_isImage : ByteArray := prog_1_method_35_code
def yX7_isImage : MethodName := ⟨RX7, "isImage", "(I)Z"⟩
abbrev cX7_isTrade : ByteArray := prog_1_method_36_code
def yX7_isTrade : MethodName := ⟨RX7, "isTrade", "(I)Z"⟩
abbrev cX7_isHour : ByteArray := prog_1_method_37_code
def yX7_isHour : MethodName := ⟨RX7, "isHour", "(I)Z"⟩
abbrev cX7_areHours : ByteArray := prog_1_method_38_code
def yX7_areHours : MethodName := ⟨RX7, "areHours", "(II)Z"⟩
abbrev cX7_isKind : ByteArray := prog_1_method_39_code
def yX7_isKind : MethodName := ⟨RX7, "isKind", "(II)Z"⟩
abbrev cX7_bitOf : ByteArray := prog_1_method_40_code
def yX7_bitOf : MethodName := ⟨RX7, "bitOf", "(II)I"⟩
abbrev cX7_withBit : ByteArray := prog_1_method_41_code
def yX7_withBit : MethodName := ⟨RX7, "withBit", "(III)I"⟩
def RX8 : String := "ArchTradesModel"
def TX8 : u_T := fun k => match k with
  | 0 => ("ArchTradesModel", "thrown", "I", false)
  | 1 => ("ArchTradesModel", "status", "I", false)
  | 2 => ("ArchTradesModel", "lane", "[I", true)
  | 3 => ("ArchTradesModel", "many", "[I", true)
  | 4 => ("ArchTradesModel", "item", "[I", true)
  | 5 => ("ArchTradesModel", "bridge", "[I", true)
  | 6 => ("ArchTradesModel", "fresh", "[I", true)
  | 7 => ("ArchTradesModel", "isThere", "Z", false)
  | 8 => ("ArchTradesModel", "was", "[I", true)
  | 9 => ("ArchTradesModel", "acts", "I", false)
  | 10 => ("ArchTradesModel", "tape", "[I", true)
  | 11 => ("ArchTradesModel", "taped", "I", false)
  | 12 => ("ArchTradesModel", "latest", "I", false)
  | 13 => ("ArchTradesModel", "length", "I", false)
  | 14 => ("ArchTradesModel", "cursor", "I", false)
  | 15 => ("ArchTradesModel", "token", "I", false)
  | 16 => ("ArchTradesModel", "start", "I", false)
  | 17 => ("ArchTradesModel", "till", "I", false)
  | 18 => ("ArchTradesModel", "fault", "I", false)
  | 19 => ("ArchTradesModel", "faultAt", "I", false)
  | 20 => ("ArchTradesModel", "holder", "[I", true)
  | 21 => ("ArchTradesModel", "isTaken", "[Z", true)
  | 22 => ("ArchTradesModel", "isMet", "[Z", true)
  | 23 => ("ArchTradesModel", "cameBy", "[I", true)
  | 24 => ("ArchTradesModel", "placeOf", "[I", true)
  | 25 => ("ArchTradesModel", "waits", "[I", true)
  | 26 => ("ArchTradesModel", "from", "I", false)
  | 27 => ("ArchTradesModel", "until", "I", false)
  | 28 => ("ArchTradesModel", "charter", "[I", true)
  | 29 => ("ArchTradesModel", "best", "[I", true)
  | 30 => ("ArchTradesModel", "isKept", "[Z", true)
  | 31 => ("ArchTradesModel", "kept", "[I", true)
  | 32 => ("ArchTradesModel", "trace", "[I", true)
  | _ => ("ArchTradesModel", "traced", "I", false)
def tyX8 : Nat → FieldType := fun k => match k with
  | 0 => .int
  | 1 => .int
  | 2 => .array .int
  | 3 => .array .int
  | 4 => .array .int
  | 5 => .array .int
  | 6 => .array .int
  | 7 => .boolean
  | 8 => .array .int
  | 9 => .int
  | 10 => .array .int
  | 11 => .int
  | 12 => .int
  | 13 => .int
  | 14 => .int
  | 15 => .int
  | 16 => .int
  | 17 => .int
  | 18 => .int
  | 19 => .int
  | 20 => .array .int
  | 21 => .array .boolean
  | 22 => .array .boolean
  | 23 => .array .int
  | 24 => .array .int
  | 25 => .array .int
  | 26 => .int
  | 27 => .int
  | 28 => .array .int
  | 29 => .array .int
  | 30 => .array .boolean
  | 31 => .array .int
  | 32 => .array .int
  | _ => .int
abbrev wsX80 : List Cond := u_ws RX8 TX8 34
theorem nmX8 : ∀ a, a < 34 → ∀ b, b < 34 → a ≠ b → (TX8 a).2.1 ≠ (TX8 b).2.1 := by decide +kernel
theorem tyX8_ok : ∀ k, k < 34 → parseFieldDescriptor (TX8 k).2.2.1 = some (tyX8 k) := by decide +kernel
abbrev cX8_init : ByteArray := prog_10_method_1_code
def yX8_init : MethodName := ⟨RX8, "<init>", "()V"⟩
abbrev cX8_in : ByteArray := prog_10_method_3_code
def yX8_in : MethodName := ⟨RX8, "in", "(JJJ)Z"⟩
abbrev cX8_finding : ByteArray := prog_10_method_4_code
def yX8_finding : MethodName := ⟨RX8, "finding", "(I)I"⟩
abbrev cX8_isRow : ByteArray := prog_10_method_5_code
def yX8_isRow : MethodName := ⟨RX8, "isRow", "(I)Z"⟩
abbrev cX8_row : ByteArray := prog_10_method_6_code
def yX8_row : MethodName := ⟨RX8, "row", "(III)I"⟩
abbrev cX8_set : ByteArray := prog_10_method_7_code
def yX8_set : MethodName := ⟨RX8, "set", "(III)I"⟩
abbrev cX8_copy : ByteArray := prog_10_method_8_code
def yX8_copy : MethodName := ⟨RX8, "copy", "(IIIII)I"⟩
abbrev cX8_drop : ByteArray := prog_10_method_9_code
def yX8_drop : MethodName := ⟨RX8, "drop", "(I)I"⟩
abbrev cX8_feed : ByteArray := prog_10_method_10_code
def yX8_feed : MethodName := ⟨RX8, "feed", "(JI)I"⟩
abbrev cX8_byteAt : ByteArray := prog_10_method_11_code
def yX8_byteAt : MethodName := ⟨RX8, "byteAt", "(I)I"⟩
abbrev cX8_isLetter : ByteArray := prog_10_method_12_code
def yX8_isLetter : MethodName := ⟨RX8, "isLetter", "(I)Z"⟩
abbrev cX8_isFigure : ByteArray := prog_10_method_13_code
def yX8_isFigure : MethodName := ⟨RX8, "isFigure", "(I)Z"⟩
abbrev cX8_next : ByteArray := prog_10_method_14_code
def yX8_next : MethodName := ⟨RX8, "next", "()V"⟩
abbrev cX8_begin : ByteArray := prog_10_method_15_code
def yX8_begin : MethodName := ⟨RX8, "begin", "()V"⟩
abbrev cX8_bad : ByteArray := prog_10_method_16_code
def yX8_bad : MethodName := ⟨RX8, "bad", "(I)V"⟩
abbrev cX8_must : ByteArray := prog_10_method_17_code
def yX8_must : MethodName := ⟨RX8, "must", "(Z)V"⟩
abbrev cX8_name : ByteArray := prog_10_method_18_code
def yX8_name : MethodName := ⟨RX8, "name", "()J"⟩
abbrev cX8_figures : ByteArray := prog_10_method_19_code
def yX8_figures : MethodName := ⟨RX8, "figures", "()I"⟩
abbrev cX8_number : ByteArray := prog_10_method_20_code
def yX8_number : MethodName := ⟨RX8, "number", "(II)I"⟩
abbrev cX8_kindBy : ByteArray := prog_10_method_21_code
def yX8_kindBy : MethodName := ⟨RX8, "kindBy", "(J)I"⟩
abbrev cX8_mustEnd : ByteArray := prog_10_method_22_code
def yX8_mustEnd : MethodName := ⟨RX8, "mustEnd", "()V"⟩
abbrev cX8_begins : ByteArray := prog_10_method_23_code
def yX8_begins : MethodName := ⟨RX8, "begins", "(II)V"⟩
abbrev cX8_readTide : ByteArray := prog_10_method_24_code
def yX8_readTide : MethodName := ⟨RX8, "readTide", "()V"⟩
abbrev cX8_readArch : ByteArray := prog_10_method_25_code
def yX8_readArch : MethodName := ⟨RX8, "readArch", "()V"⟩
abbrev cX8_readBoat : ByteArray := prog_10_method_26_code
def yX8_readBoat : MethodName := ⟨RX8, "readBoat", "()V"⟩
abbrev cX8_bridge : ByteArray := prog_10_method_27_code
def yX8_bridge : MethodName := ⟨RX8, "bridge", "()I"⟩
abbrev cX8_fault : ByteArray := prog_10_method_28_code
def yX8_fault : MethodName := ⟨RX8, "fault", "()I"⟩
abbrev cX8_isArch : ByteArray := prog_10_method_29_code
def yX8_isArch : MethodName := ⟨RX8, "isArch", "(I)Z"⟩
abbrev cX8_isBoat : ByteArray := prog_10_method_30_code
def yX8_isBoat : MethodName := ⟨RX8, "isBoat", "(I)Z"⟩
abbrev cX8_isHour : ByteArray := prog_10_method_31_code
def yX8_isHour : MethodName := ⟨RX8, "isHour", "(I)Z"⟩
abbrev cX8_isTrade : ByteArray := prog_10_method_32_code
def yX8_isTrade : MethodName := ⟨RX8, "isTrade", "(I)Z"⟩
abbrev cX8_archOf : ByteArray := prog_10_method_33_code
def yX8_archOf : MethodName := ⟨RX8, "archOf", "(II)I"⟩
abbrev cX8_of : ByteArray := prog_10_method_34_code
def yX8_of : MethodName := ⟨RX8, "of", "(II)I"⟩
abbrev cX8_allOf : ByteArray := prog_10_method_35_code
def yX8_allOf : MethodName := ⟨RX8, "allOf", "(I)I"⟩
abbrev cX8_tradesOf : ByteArray := prog_10_method_36_code
def yX8_tradesOf : MethodName := ⟨RX8, "tradesOf", "(I)I"⟩
abbrev cX8_isMixed : ByteArray := prog_10_method_37_code
def yX8_isMixed : MethodName := ⟨RX8, "isMixed", "(I)Z"⟩
abbrev cX8_sideOf : ByteArray := prog_10_method_38_code
def yX8_sideOf : MethodName := ⟨RX8, "sideOf", "(I)I"⟩
abbrev cX8_letsBy : ByteArray := prog_10_method_39_code
def yX8_letsBy : MethodName := ⟨RX8, "letsBy", "(II)Z"⟩
abbrev cX8_mayBy : ByteArray := prog_10_method_40_code
def yX8_mayBy : MethodName := ⟨RX8, "mayBy", "(IIII)Z"⟩
abbrev cX8_mayGo : ByteArray := prog_10_method_41_code
def yX8_mayGo : MethodName := ⟨RX8, "mayGo", "(III)Z"⟩
abbrev cX8_keep : ByteArray := prog_10_method_42_code
def yX8_keep : MethodName := ⟨RX8, "keep", "()V"⟩
abbrev cX8_becomes : ByteArray := prog_10_method_43_code
def yX8_becomes : MethodName := ⟨RX8, "becomes", "(II)I"⟩
abbrev cX8_lend : ByteArray := prog_10_method_44_code
def yX8_lend : MethodName := ⟨RX8, "lend", "(III)I"⟩
abbrev cX8_shut : ByteArray := prog_10_method_45_code
def yX8_shut : MethodName := ⟨RX8, "shut", "(II)I"⟩
abbrev cX8_pass : ByteArray := prog_10_method_46_code
def yX8_pass : MethodName := ⟨RX8, "pass", "(II)I"⟩
abbrev cX8_split : ByteArray := prog_10_method_47_code
def yX8_split : MethodName := ⟨RX8, "split", "(II)I"⟩
abbrev cX8_hour : ByteArray := prog_10_method_48_code
def yX8_hour : MethodName := ⟨RX8, "hour", "()I"⟩
abbrev cX8_undo : ByteArray := prog_10_method_49_code
def yX8_undo : MethodName := ⟨RX8, "undo", "()I"⟩
abbrev cX8_arch : ByteArray := prog_10_method_50_code
def yX8_arch : MethodName := ⟨RX8, "arch", "(II)I"⟩
abbrev cX8_portersOf : ByteArray := prog_10_method_51_code
def yX8_portersOf : MethodName := ⟨RX8, "portersOf", "(I)I"⟩
abbrev cX8_boat : ByteArray := prog_10_method_52_code
def yX8_boat : MethodName := ⟨RX8, "boat", "(II)I"⟩
abbrev cX8_may : ByteArray := prog_10_method_53_code
def yX8_may : MethodName := ⟨RX8, "may", "(II)I"⟩
abbrev cX8_layCharters : ByteArray := prog_10_method_54_code
def yX8_layCharters : MethodName := ⟨RX8, "layCharters", "()V"⟩
abbrev cX8_canBe : ByteArray := prog_10_method_55_code
def yX8_canBe : MethodName := ⟨RX8, "canBe", "(II)Z"⟩
abbrev cX8_shift : ByteArray := prog_10_method_56_code
def yX8_shift : MethodName := ⟨RX8, "shift", "(I)V"⟩
abbrev cX8_putsOne : ByteArray := prog_10_method_57_code
def yX8_putsOne : MethodName := ⟨RX8, "putsOne", "(I)Z"⟩
abbrev cX8_mostFrom : ByteArray := prog_10_method_58_code
def yX8_mostFrom : MethodName := ⟨RX8, "mostFrom", "(I)I"⟩
abbrev cX8_noneTaken : ByteArray := prog_10_method_59_code
def yX8_noneTaken : MethodName := ⟨RX8, "noneTaken", "()V"⟩
abbrev cX8_firstOf : ByteArray := prog_10_method_60_code
def yX8_firstOf : MethodName := ⟨RX8, "firstOf", "(II)I"⟩
abbrev cX8_areHours : ByteArray := prog_10_method_61_code
def yX8_areHours : MethodName := ⟨RX8, "areHours", "(II)Z"⟩
abbrev cX8_most : ByteArray := prog_10_method_62_code
def yX8_most : MethodName := ⟨RX8, "most", "(III)I"⟩
abbrev cX8_nextCharters : ByteArray := prog_10_method_63_code
def yX8_nextCharters : MethodName := ⟨RX8, "nextCharters", "()Z"⟩
abbrev cX8_swap : ByteArray := prog_10_method_64_code
def yX8_swap : MethodName := ⟨RX8, "swap", "(II)V"⟩
abbrev cX8_sortCharters : ByteArray := prog_10_method_65_code
def yX8_sortCharters : MethodName := ⟨RX8, "sortCharters", "()V"⟩
abbrev cX8_anew : ByteArray := prog_10_method_66_code
def yX8_anew : MethodName := ⟨RX8, "anew", "(III)I"⟩
abbrev cX8_cut : ByteArray := prog_10_method_67_code
def yX8_cut : MethodName := ⟨RX8, "cut", "(II)I"⟩
abbrev cX8_weightOf : ByteArray := prog_10_method_68_code
def yX8_weightOf : MethodName := ⟨RX8, "weightOf", "(I)I"⟩
abbrev cX8_weighed : ByteArray := prog_10_method_69_code
def yX8_weighed : MethodName := ⟨RX8, "weighed", "(II)I"⟩
abbrev cX8_image : ByteArray := prog_10_method_70_code
def yX8_image : MethodName := ⟨RX8, "image", "(I)I"⟩
abbrev cX8_restore : ByteArray := prog_10_method_71_code
def yX8_restore : MethodName := ⟨RX8, "restore", "(I)I"⟩
abbrev cX8_isOf : ByteArray := prog_10_method_72_code
def yX8_isOf : MethodName := ⟨RX8, "isOf", "(II)Z"⟩
abbrev cX8_kind : ByteArray := prog_10_method_73_code
def yX8_kind : MethodName := ⟨RX8, "kind", "(I)I"⟩
abbrev cX8_as : ByteArray := prog_10_method_74_code
def yX8_as : MethodName := ⟨RX8, "as", "(II)I"⟩
abbrev cX8_began : ByteArray := prog_10_method_75_code
def yX8_began : MethodName := ⟨RX8, "began", "(I)V"⟩
abbrev cX8_plainSize : ByteArray := prog_10_method_76_code
def yX8_plainSize : MethodName := ⟨RX8, "plainSize", "(I)I"⟩
abbrev cX8_cartSize : ByteArray := prog_10_method_77_code
def yX8_cartSize : MethodName := ⟨RX8, "cartSize", "(I)I"⟩
abbrev cX8_markOf : ByteArray := prog_10_method_78_code
def yX8_markOf : MethodName := ⟨RX8, "markOf", "(I)I"⟩
abbrev cX8_sizeOf : ByteArray := prog_10_method_79_code
def yX8_sizeOf : MethodName := ⟨RX8, "sizeOf", "(I)I"⟩
abbrev cX8_ask : ByteArray := prog_10_method_80_code
def yX8_ask : MethodName := ⟨RX8, "ask", "(II)I"⟩
abbrev cX8_trace : ByteArray := prog_10_method_81_code
def yX8_trace : MethodName := ⟨RX8, "trace", "(I)I"⟩
abbrev cX8_count : ByteArray := prog_10_method_82_code
def yX8_count : MethodName := ⟨RX8, "count", "(I)I"⟩
abbrev cX8_status : ByteArray := prog_10_method_83_code
def yX8_status : MethodName := ⟨RX8, "status", "()I"⟩
def RJx145de : String := "java/io/Serializable"
def TJx145de : u_T := fun k => match k with
  | _ => ("", "", "", false)
def tyJx145de : Nat → FieldType := fun k => match k with
  | _ => .int
abbrev wsJx145de0 : List Cond := u_ws RJx145de TJx145de 0
theorem nmJx145de : ∀ a, a < 0 → ∀ b, b < 0 → a ≠ b → (TJx145de a).2.1 ≠ (TJx145de b).2.1 := by decide +kernel
theorem tyJx145de_ok : ∀ k, k < 0 → parseFieldDescriptor (TJx145de k).2.2.1 = some (tyJx145de k) := by decide +kernel
def RJx9f9b0 : String := "java/lang/CharSequence"
def TJx9f9b0 : u_T := fun k => match k with
  | _ => ("", "", "", false)
def tyJx9f9b0 : Nat → FieldType := fun k => match k with
  | _ => .int
abbrev wsJx9f9b00 : List Cond := u_ws RJx9f9b0 TJx9f9b0 0
theorem nmJx9f9b0 : ∀ a, a < 0 → ∀ b, b < 0 → a ≠ b → (TJx9f9b0 a).2.1 ≠ (TJx9f9b0 b).2.1 := by decide +kernel
theorem tyJx9f9b0_ok : ∀ k, k < 0 → parseFieldDescriptor (TJx9f9b0 k).2.2.1 = some (tyJx9f9b0 k) := by decide +kernel
def RJxb160c : String := "java/lang/Comparable"
def TJxb160c : u_T := fun k => match k with
  | _ => ("", "", "", false)
def tyJxb160c : Nat → FieldType := fun k => match k with
  | _ => .int
abbrev wsJxb160c0 : List Cond := u_ws RJxb160c TJxb160c 0
theorem nmJxb160c : ∀ a, a < 0 → ∀ b, b < 0 → a ≠ b → (TJxb160c a).2.1 ≠ (TJxb160c b).2.1 := by decide +kernel
theorem tyJxb160c_ok : ∀ k, k < 0 → parseFieldDescriptor (TJxb160c k).2.2.1 = some (tyJxb160c k) := by decide +kernel
def RJ6 : String := "java/lang/Integer"
def TJ6 : u_T := fun k => match k with
  | _ => ("", "", "", false)
def tyJ6 : Nat → FieldType := fun k => match k with
  | _ => .int
abbrev wsJ60 : List Cond := u_ws RJ6 TJ6 0
theorem nmJ6 : ∀ a, a < 0 → ∀ b, b < 0 → a ≠ b → (TJ6 a).2.1 ≠ (TJ6 b).2.1 := by decide +kernel
theorem tyJ6_ok : ∀ k, k < 0 → parseFieldDescriptor (TJ6 k).2.2.1 = some (tyJ6 k) := by decide +kernel
abbrev cJ6_bitCount_0f7a4 : ByteArray := prog_11_method_49_code
def yJ6_bitCount_0f7a4 : MethodName := ⟨RJ6, "bitCount", "(I)I"⟩
def RJ9 : String := "java/lang/Math"
def TJ9 : u_T := fun k => match k with
  | _ => ("", "", "", false)
def tyJ9 : Nat → FieldType := fun k => match k with
  | _ => .int
abbrev wsJ90 : List Cond := u_ws RJ9 TJ9 0
theorem nmJ9 : ∀ a, a < 0 → ∀ b, b < 0 → a ≠ b → (TJ9 a).2.1 ≠ (TJ9 b).2.1 := by decide +kernel
theorem tyJ9_ok : ∀ k, k < 0 → parseFieldDescriptor (TJ9 k).2.2.1 = some (tyJ9 k) := by decide +kernel
abbrev cJ9_max_7cf53 : ByteArray := prog_12_method_65_code
def yJ9_max_7cf53 : MethodName := ⟨RJ9, "max", "(II)I"⟩
def RJ0 : String := "java/lang/String"
def TJ0 : u_T := fun k => match k with
  | _ => ("", "", "", false)
def tyJ0 : Nat → FieldType := fun k => match k with
  | _ => .int
abbrev wsJ00 : List Cond := u_ws RJ0 TJ0 0
theorem nmJ0 : ∀ a, a < 0 → ∀ b, b < 0 → a ≠ b → (TJ0 a).2.1 ≠ (TJ0 b).2.1 := by decide +kernel
theorem tyJ0_ok : ∀ k, k < 0 → parseFieldDescriptor (TJ0 k).2.2.1 = some (tyJ0 k) := by decide +kernel
abbrev cJ0_length_8abf5 : ByteArray := prog_13_method_54_code
def yJ0_length_8abf5 : MethodName := ⟨RJ0, "length", "()I"⟩
abbrev cJ0_charAt_5068e : ByteArray := prog_13_method_56_code
def yJ0_charAt_5068e : MethodName := ⟨RJ0, "charAt", "(I)C"⟩
abbrev cJ0_coder_7d493 : ByteArray := prog_13_method_152_code
def yJ0_coder_7d493 : MethodName := ⟨RJ0, "coder", "()B"⟩
abbrev cJ0_isLatin1_aae02 : ByteArray := prog_13_method_154_code
def yJ0_isLatin1_aae02 : MethodName := ⟨RJ0, "isLatin1", "()Z"⟩
abbrev cJ0_checkIndex_df160 : ByteArray := prog_13_method_155_code
def yJ0_checkIndex_df160 : MethodName := ⟨RJ0, "checkIndex", "(II)V"⟩
def RJ1 : String := "java/lang/StringLatin1"
def TJ1 : u_T := fun k => match k with
  | _ => ("", "", "", false)
def tyJ1 : Nat → FieldType := fun k => match k with
  | _ => .int
abbrev wsJ10 : List Cond := u_ws RJ1 TJ1 0
theorem nmJ1 : ∀ a, a < 0 → ∀ b, b < 0 → a ≠ b → (TJ1 a).2.1 ≠ (TJ1 b).2.1 := by decide +kernel
theorem tyJ1_ok : ∀ k, k < 0 → parseFieldDescriptor (TJ1 k).2.2.1 = some (tyJ1 k) := by decide +kernel
abbrev cJ1_charAt_3b067 : ByteArray := prog_14_method_2_code
def yJ1_charAt_3b067 : MethodName := ⟨RJ1, "charAt", "([BI)C"⟩
def RJ2 : String := "java/lang/StringUTF16"
def TJ2 : u_T := fun k => match k with
  | _ => ("", "", "", false)
def tyJ2 : Nat → FieldType := fun k => match k with
  | _ => .int
abbrev wsJ20 : List Cond := u_ws RJ2 TJ2 0
theorem nmJ2 : ∀ a, a < 0 → ∀ b, b < 0 → a ≠ b → (TJ2 a).2.1 ≠ (TJ2 b).2.1 := by decide +kernel
theorem tyJ2_ok : ∀ k, k < 0 → parseFieldDescriptor (TJ2 k).2.2.1 = some (tyJ2 k) := by decide +kernel
abbrev cJ2_getChar_3b067 : ByteArray := prog_15_method_5_code
def yJ2_getChar_3b067 : MethodName := ⟨RJ2, "getChar", "([BI)C"⟩
abbrev cJ2_length_9d52b : ByteArray := prog_15_method_6_code
def yJ2_length_9d52b : MethodName := ⟨RJ2, "length", "([B)I"⟩
abbrev cJ2_charAt_3b067 : ByteArray := prog_15_method_83_code
def yJ2_charAt_3b067 : MethodName := ⟨RJ2, "charAt", "([BI)C"⟩
abbrev cJ2_checkIndex_2214a : ByteArray := prog_15_method_91_code
def yJ2_checkIndex_2214a : MethodName := ⟨RJ2, "checkIndex", "(I[B)V"⟩
def RJ10 : String := "java/lang/System"
def TJ10 : u_T := fun k => match k with
  | _ => ("", "", "", false)
def tyJ10 : Nat → FieldType := fun k => match k with
  | _ => .int
abbrev wsJ100 : List Cond := u_ws RJ10 TJ10 0
theorem nmJ10 : ∀ a, a < 0 → ∀ b, b < 0 → a ≠ b → (TJ10 a).2.1 ≠ (TJ10 b).2.1 := by decide +kernel
theorem tyJ10_ok : ∀ k, k < 0 → parseFieldDescriptor (TJ10 k).2.2.1 = some (tyJ10 k) := by decide +kernel
def RJxfd54e : String := "java/lang/constant/Constable"
def TJxfd54e : u_T := fun k => match k with
  | _ => ("", "", "", false)
def tyJxfd54e : Nat → FieldType := fun k => match k with
  | _ => .int
abbrev wsJxfd54e0 : List Cond := u_ws RJxfd54e TJxfd54e 0
theorem nmJxfd54e : ∀ a, a < 0 → ∀ b, b < 0 → a ≠ b → (TJxfd54e a).2.1 ≠ (TJxfd54e b).2.1 := by decide +kernel
theorem tyJxfd54e_ok : ∀ k, k < 0 → parseFieldDescriptor (TJxfd54e k).2.2.1 = some (tyJxfd54e k) := by decide +kernel
def RJx3cf43 : String := "java/lang/constant/ConstantDesc"
def TJx3cf43 : u_T := fun k => match k with
  | _ => ("", "", "", false)
def tyJx3cf43 : Nat → FieldType := fun k => match k with
  | _ => .int
abbrev wsJx3cf430 : List Cond := u_ws RJx3cf43 TJx3cf43 0
theorem nmJx3cf43 : ∀ a, a < 0 → ∀ b, b < 0 → a ≠ b → (TJx3cf43 a).2.1 ≠ (TJx3cf43 b).2.1 := by decide +kernel
theorem tyJx3cf43_ok : ∀ k, k < 0 → parseFieldDescriptor (TJx3cf43 k).2.2.1 = some (tyJx3cf43 k) := by decide +kernel
def RJ7 : String := "java/util/Arrays"
def TJ7 : u_T := fun k => match k with
  | _ => ("", "", "", false)
def tyJ7 : Nat → FieldType := fun k => match k with
  | _ => .int
abbrev wsJ70 : List Cond := u_ws RJ7 TJ7 0
theorem nmJ7 : ∀ a, a < 0 → ∀ b, b < 0 → a ≠ b → (TJ7 a).2.1 ≠ (TJ7 b).2.1 := by decide +kernel
theorem tyJ7_ok : ∀ k, k < 0 → parseFieldDescriptor (TJ7 k).2.2.1 = some (tyJ7 k) := by decide +kernel
abbrev cJ7_fill_53178 : ByteArray := prog_17_method_103_code
def yJ7_fill_53178 : MethodName := ⟨RJ7, "fill", "([II)V"⟩
def RJ3 : String := "jdk/internal/util/Preconditions"
def TJ3 : u_T := fun k => match k with
  | _ => ("", "", "", false)
def tyJ3 : Nat → FieldType := fun k => match k with
  | _ => .int
abbrev wsJ30 : List Cond := u_ws RJ3 TJ3 0
theorem nmJ3 : ∀ a, a < 0 → ∀ b, b < 0 → a ≠ b → (TJ3 a).2.1 ≠ (TJ3 b).2.1 := by decide +kernel
theorem tyJ3_ok : ∀ k, k < 0 → parseFieldDescriptor (TJ3 k).2.2.1 = some (tyJ3 k) := by decide +kernel
abbrev cJ3_checkIndex_8e157 : ByteArray := prog_18_method_11_code
def yJ3_checkIndex_8e157 : MethodName := ⟨RJ3, "checkIndex", "(IILjava/util/function/BiFunction;)I"⟩
def RL : String := "ArchTradesLaw"
abbrev cL_law : ByteArray := code
def yL_law : MethodName := ⟨RL, "law", "([I)Z"⟩
abbrev vwCl : List vw_C := [(RX0, TX0, 6), (RX1, TX1, 2), (RX2, TX2, 15), (RX3, TX3, 11), (RX4, TX4, 2), (RX5, TX5, 3), (RX6, TX6, 5), (RX7, TX7, 11), (RX8, TX8, 34)]
end
section
/-! ===== the words: those of the tables that stay; each by its place ===== -/
def WL : List Cond := lw_tbl.filter goodWord
theorem wlm {w : Cond} (h : w ∈ lw_tbl) (hg : goodWord w = true) : w ∈ WL := List.mem_filter.mpr ⟨h, hg⟩
theorem wl_in {w : Cond} (h : w ∈ WL) : w ∈ lw_tbl := (List.mem_filter.mp h).1
theorem wl_good {w : Cond} (h : w ∈ WL) : (w.onTables && w.keeps) = true ∨ ∃ ty, w = .arrayClass ty := good_of_word (List.mem_filter.mp h).2
theorem in0 {w : Cond} (h : w ∈ k2_sels lw_privs) : w ∈ lw_tbl := List.mem_append_left _ h
theorem inT {w : Cond} (h : w ∈ tables_1) : w ∈ lw_tbl := List.mem_append_right _ h
theorem in1 {w : Cond} (h : w ∈ tables_1_1) : w ∈ lw_tbl := inT (show w ∈ tables_1_1 ++ (tables_1_2 ++ (tables_1_3 ++ (tables_1_4 ++ (tables_1_5 ++ tables_1_6)))) from List.mem_append_left _ h)
theorem in2 {w : Cond} (h : w ∈ tables_1_2) : w ∈ lw_tbl := inT (show w ∈ tables_1_1 ++ (tables_1_2 ++ (tables_1_3 ++ (tables_1_4 ++ (tables_1_5 ++ tables_1_6)))) from List.mem_append_right _ (List.mem_append_left _ h))
theorem in3 {w : Cond} (h : w ∈ tables_1_3) : w ∈ lw_tbl := inT (show w ∈ tables_1_1 ++ (tables_1_2 ++ (tables_1_3 ++ (tables_1_4 ++ (tables_1_5 ++ tables_1_6)))) from List.mem_append_right _ (List.mem_append_right _ (List.mem_append_left _ h)))
theorem in4 {w : Cond} (h : w ∈ tables_1_4) : w ∈ lw_tbl := inT (show w ∈ tables_1_1 ++ (tables_1_2 ++ (tables_1_3 ++ (tables_1_4 ++ (tables_1_5 ++ tables_1_6)))) from List.mem_append_right _ (List.mem_append_right _ (List.mem_append_right _ (List.mem_append_left _ h))))
theorem in5 {w : Cond} (h : w ∈ tables_1_5) : w ∈ lw_tbl := inT (show w ∈ tables_1_1 ++ (tables_1_2 ++ (tables_1_3 ++ (tables_1_4 ++ (tables_1_5 ++ tables_1_6)))) from List.mem_append_right _ (List.mem_append_right _ (List.mem_append_right _ (List.mem_append_right _ (List.mem_append_left _ h)))))
theorem in6 {w : Cond} (h : w ∈ tables_1_6) : w ∈ lw_tbl := inT (show w ∈ tables_1_1 ++ (tables_1_2 ++ (tables_1_3 ++ (tables_1_4 ++ (tables_1_5 ++ tables_1_6)))) from List.mem_append_right _ (List.mem_append_right _ (List.mem_append_right _ (List.mem_append_right _ (List.mem_append_right _ (h))))))
theorem m0 : (Jvm.Cond.initialized "ArchTradesLaw") ∈ WL := wlm (in1 (List.mem_of_getElem? (i := 0) (by decide +kernel))) (by decide +kernel)
theorem m1 : (Jvm.Cond.initialized "ArchTrades") ∈ WL := wlm (in1 (List.mem_of_getElem? (i := 1) (by decide +kernel))) (by decide +kernel)
theorem m2 : (Jvm.Cond.initialized "ArchTrades$Rows") ∈ WL := wlm (in1 (List.mem_of_getElem? (i := 2) (by decide +kernel))) (by decide +kernel)
theorem m3 : (Jvm.Cond.initialized "ArchTrades$Tape") ∈ WL := wlm (in1 (List.mem_of_getElem? (i := 3) (by decide +kernel))) (by decide +kernel)
theorem m4 : (Jvm.Cond.initialized "ArchTrades$Reader") ∈ WL := wlm (in1 (List.mem_of_getElem? (i := 4) (by decide +kernel))) (by decide +kernel)
theorem m5 : (Jvm.Cond.initialized "ArchTrades$Bridge") ∈ WL := wlm (in1 (List.mem_of_getElem? (i := 5) (by decide +kernel))) (by decide +kernel)
theorem m6 : (Jvm.Cond.initialized "ArchTrades$Acts") ∈ WL := wlm (in1 (List.mem_of_getElem? (i := 6) (by decide +kernel))) (by decide +kernel)
theorem m7 : (Jvm.Cond.initialized "ArchTrades$Foretold") ∈ WL := wlm (in1 (List.mem_of_getElem? (i := 7) (by decide +kernel))) (by decide +kernel)
theorem m8 : (Jvm.Cond.initialized "ArchTrades$Asks") ∈ WL := wlm (in1 (List.mem_of_getElem? (i := 8) (by decide +kernel))) (by decide +kernel)
theorem m9 : (Jvm.Cond.initialized "ArchTradesModel") ∈ WL := wlm (in1 (List.mem_of_getElem? (i := 9) (by decide +kernel))) (by decide +kernel)
theorem m10 : (Jvm.Cond.initialized "java/lang/System") ∈ WL := wlm (in1 (List.mem_of_getElem? (i := 10) (by decide +kernel))) (by decide +kernel)
theorem m11 : (Jvm.Cond.initialized "java/util/Arrays") ∈ WL := wlm (in1 (List.mem_of_getElem? (i := 11) (by decide +kernel))) (by decide +kernel)
theorem m12 : (Jvm.Cond.initialized "java/lang/String") ∈ WL := wlm (in1 (List.mem_of_getElem? (i := 12) (by decide +kernel))) (by decide +kernel)
theorem m13 : (Jvm.Cond.initialized "java/lang/StringLatin1") ∈ WL := wlm (in1 (List.mem_of_getElem? (i := 13) (by decide +kernel))) (by decide +kernel)
theorem m14 : (Jvm.Cond.initialized "jdk/internal/util/Preconditions") ∈ WL := wlm (in1 (List.mem_of_getElem? (i := 14) (by decide +kernel))) (by decide +kernel)
theorem m15 : (Jvm.Cond.initialized "java/lang/StringUTF16") ∈ WL := wlm (in1 (List.mem_of_getElem? (i := 15) (by decide +kernel))) (by decide +kernel)
theorem m16 : (Jvm.Cond.initialized "java/lang/Integer") ∈ WL := wlm (in1 (List.mem_of_getElem? (i := 16) (by decide +kernel))) (by decide +kernel)
theorem m17 : (Jvm.Cond.initialized "java/lang/Math") ∈ WL := wlm (in1 (List.mem_of_getElem? (i := 17) (by decide +kernel))) (by decide +kernel)
theorem m18 : (Jvm.Cond.classLink "ArchTradesLaw" (7 : Nat) "ArchTrades") ∈ WL := wlm (in1 (List.mem_of_getElem? (i := 18) (by decide +kernel))) (by decide +kernel)
theorem m19 : (Jvm.Cond.instantiable "ArchTrades" (11 : Nat)) ∈ WL := wlm (in1 (List.mem_of_getElem? (i := 19) (by decide +kernel))) (by decide +kernel)
theorem m20 : (Jvm.Cond.methodLink "ArchTradesLaw" (9 : Nat) ({ cls := "ArchTrades", name := "<init>", desc := "()V" } : Jvm.MethodName)) ∈ WL := wlm (in1 (List.mem_of_getElem? (i := 20) (by decide +kernel))) (by decide +kernel)
theorem m21 : (Jvm.Cond.instanceMethod ({ cls := "ArchTrades", name := "<init>", desc := "()V" } : Jvm.MethodName)) ∈ WL := wlm (in1 (List.mem_of_getElem? (i := 21) (by decide +kernel))) (by decide +kernel)
theorem m22 : (Jvm.Cond.code ({ cls := "ArchTrades", name := "<init>", desc := "()V" } : Jvm.MethodName) prog_1_method_1_code (1 : Nat) (Option.none : Option Jvm.ClassFile.FieldType)) ∈ WL := wlm (in1 (List.mem_of_getElem? (i := 22) (by decide +kernel))) (by decide +kernel)
theorem m23 : (Jvm.Cond.methodLink "ArchTrades" (1 : Nat) ({ cls := "java/lang/Object", name := "<init>", desc := "()V" } : Jvm.MethodName)) ∈ WL := wlm (in1 (List.mem_of_getElem? (i := 23) (by decide +kernel))) (by decide +kernel)
theorem m24 : (Jvm.Cond.instanceMethod ({ cls := "java/lang/Object", name := "<init>", desc := "()V" } : Jvm.MethodName)) ∈ WL := wlm (in1 (List.mem_of_getElem? (i := 24) (by decide +kernel))) (by decide +kernel)
theorem m25 : (Jvm.Cond.code ({ cls := "java/lang/Object", name := "<init>", desc := "()V" } : Jvm.MethodName) object_method_1_code (1 : Nat) (Option.none : Option Jvm.ClassFile.FieldType)) ∈ WL := wlm (in1 (List.mem_of_getElem? (i := 25) (by decide +kernel))) (by decide +kernel)
theorem m26 : (Jvm.Cond.classLink "ArchTrades" (7 : Nat) "ArchTrades$Rows") ∈ WL := wlm (in1 (List.mem_of_getElem? (i := 26) (by decide +kernel))) (by decide +kernel)
theorem m27 : (Jvm.Cond.instantiable "ArchTrades$Rows" (3 : Nat)) ∈ WL := wlm (in1 (List.mem_of_getElem? (i := 27) (by decide +kernel))) (by decide +kernel)
theorem m29 : (Jvm.Cond.instanceMethod ({ cls := "ArchTrades$Rows", name := "<init>", desc := "()V" } : Jvm.MethodName)) ∈ WL := wlm (in1 (List.mem_of_getElem? (i := 29) (by decide +kernel))) (by decide +kernel)
theorem m30 : (Jvm.Cond.code ({ cls := "ArchTrades$Rows", name := "<init>", desc := "()V" } : Jvm.MethodName) prog_7_method_1_code (1 : Nat) (Option.none : Option Jvm.ClassFile.FieldType)) ∈ WL := wlm (in1 (List.mem_of_getElem? (i := 30) (by decide +kernel))) (by decide +kernel)
theorem m31 : (Jvm.Cond.methodLink "ArchTrades$Rows" (1 : Nat) ({ cls := "java/lang/Object", name := "<init>", desc := "()V" } : Jvm.MethodName)) ∈ WL := wlm (in1 (List.mem_of_getElem? (i := 31) (by decide +kernel))) (by decide +kernel)
theorem m32 : (Jvm.Cond.fieldLink "ArchTrades$Rows" (9 : Nat) "ArchTrades$Rows" "lanes" "[I") ∈ WL := wlm (in1 (List.mem_of_getElem? (i := 32) (by decide +kernel))) (by decide +kernel)
theorem m33 : (Jvm.Cond.fieldLink "ArchTrades$Rows" (13 : Nat) "ArchTrades$Rows" "sizes" "[I") ∈ WL := wlm (in1 (List.mem_of_getElem? (i := 33) (by decide +kernel))) (by decide +kernel)
theorem m34 : (Jvm.Cond.fieldLink "ArchTrades$Rows" (16 : Nat) "ArchTrades$Rows" "items" "[I") ∈ WL := wlm (in1 (List.mem_of_getElem? (i := 34) (by decide +kernel))) (by decide +kernel)
theorem m35 : (Jvm.Cond.laysFinal "ArchTrades$Rows" "ArchTrades$Rows" "lanes" "[I") ∈ WL := wlm (in1 (List.mem_of_getElem? (i := 35) (by decide +kernel))) (by decide +kernel)
theorem m37 : (Jvm.Cond.laysFinal "ArchTrades$Rows" "ArchTrades$Rows" "sizes" "[I") ∈ WL := wlm (in1 (List.mem_of_getElem? (i := 37) (by decide +kernel))) (by decide +kernel)
theorem m39 : (Jvm.Cond.laysFinal "ArchTrades$Rows" "ArchTrades$Rows" "items" "[I") ∈ WL := wlm (in1 (List.mem_of_getElem? (i := 39) (by decide +kernel))) (by decide +kernel)
theorem m42 : (Jvm.Cond.arrayClass Jvm.ClassFile.FieldType.int) ∈ WL := wlm (in1 (List.mem_of_getElem? (i := 42) (by decide +kernel))) (by decide +kernel)
theorem m43 : (Jvm.Cond.classLink "ArchTrades" (16 : Nat) "ArchTrades$Tape") ∈ WL := wlm (in1 (List.mem_of_getElem? (i := 43) (by decide +kernel))) (by decide +kernel)
theorem m44 : (Jvm.Cond.instantiable "ArchTrades$Tape" (5 : Nat)) ∈ WL := wlm (in1 (List.mem_of_getElem? (i := 44) (by decide +kernel))) (by decide +kernel)
theorem m46 : (Jvm.Cond.instanceMethod ({ cls := "ArchTrades$Tape", name := "<init>", desc := "()V" } : Jvm.MethodName)) ∈ WL := wlm (in1 (List.mem_of_getElem? (i := 46) (by decide +kernel))) (by decide +kernel)
theorem m47 : (Jvm.Cond.code ({ cls := "ArchTrades$Tape", name := "<init>", desc := "()V" } : Jvm.MethodName) prog_8_method_1_code (1 : Nat) (Option.none : Option Jvm.ClassFile.FieldType)) ∈ WL := wlm (in1 (List.mem_of_getElem? (i := 47) (by decide +kernel))) (by decide +kernel)
theorem m48 : (Jvm.Cond.methodLink "ArchTrades$Tape" (1 : Nat) ({ cls := "java/lang/Object", name := "<init>", desc := "()V" } : Jvm.MethodName)) ∈ WL := wlm (in1 (List.mem_of_getElem? (i := 48) (by decide +kernel))) (by decide +kernel)
theorem m49 : (Jvm.Cond.fieldLink "ArchTrades$Tape" (9 : Nat) "ArchTrades$Tape" "bytes" "[B") ∈ WL := wlm (in1 (List.mem_of_getElem? (i := 49) (by decide +kernel))) (by decide +kernel)
theorem m50 : (Jvm.Cond.fieldLink "ArchTrades$Tape" (13 : Nat) "ArchTrades$Tape" "length" "I") ∈ WL := wlm (in1 (List.mem_of_getElem? (i := 50) (by decide +kernel))) (by decide +kernel)
theorem m51 : (Jvm.Cond.fieldLink "ArchTrades$Tape" (34 : Nat) "ArchTrades$Tape" "sort" "I") ∈ WL := wlm (in1 (List.mem_of_getElem? (i := 51) (by decide +kernel))) (by decide +kernel)
theorem m52 : (Jvm.Cond.fieldLink "ArchTrades$Tape" (17 : Nat) "ArchTrades$Tape" "start" "I") ∈ WL := wlm (in1 (List.mem_of_getElem? (i := 52) (by decide +kernel))) (by decide +kernel)
theorem m53 : (Jvm.Cond.fieldLink "ArchTrades$Tape" (20 : Nat) "ArchTrades$Tape" "end" "I") ∈ WL := wlm (in1 (List.mem_of_getElem? (i := 53) (by decide +kernel))) (by decide +kernel)
theorem m54 : (Jvm.Cond.laysFinal "ArchTrades$Tape" "ArchTrades$Tape" "bytes" "[B") ∈ WL := wlm (in1 (List.mem_of_getElem? (i := 54) (by decide +kernel))) (by decide +kernel)
theorem m56 : (Jvm.Cond.lays "ArchTrades$Tape" "ArchTrades$Tape" "length" "I") ∈ WL := wlm (in1 (List.mem_of_getElem? (i := 56) (by decide +kernel))) (by decide +kernel)
theorem m58 : (Jvm.Cond.lays "ArchTrades$Tape" "ArchTrades$Tape" "sort" "I") ∈ WL := wlm (in1 (List.mem_of_getElem? (i := 58) (by decide +kernel))) (by decide +kernel)
theorem m60 : (Jvm.Cond.lays "ArchTrades$Tape" "ArchTrades$Tape" "start" "I") ∈ WL := wlm (in1 (List.mem_of_getElem? (i := 60) (by decide +kernel))) (by decide +kernel)
theorem m62 : (Jvm.Cond.lays "ArchTrades$Tape" "ArchTrades$Tape" "end" "I") ∈ WL := wlm (in1 (List.mem_of_getElem? (i := 62) (by decide +kernel))) (by decide +kernel)
theorem m65 : (Jvm.Cond.arrayClass Jvm.ClassFile.FieldType.byte) ∈ WL := wlm (in1 (List.mem_of_getElem? (i := 65) (by decide +kernel))) (by decide +kernel)
theorem m66 : (Jvm.Cond.classLink "ArchTrades" (23 : Nat) "ArchTrades$Reader") ∈ WL := wlm (in1 (List.mem_of_getElem? (i := 66) (by decide +kernel))) (by decide +kernel)
theorem m67 : (Jvm.Cond.instantiable "ArchTrades$Reader" (2 : Nat)) ∈ WL := wlm (in1 (List.mem_of_getElem? (i := 67) (by decide +kernel))) (by decide +kernel)
theorem m69 : (Jvm.Cond.instanceMethod ({ cls := "ArchTrades$Reader", name := "<init>", desc := "()V" } : Jvm.MethodName)) ∈ WL := wlm (in1 (List.mem_of_getElem? (i := 69) (by decide +kernel))) (by decide +kernel)
theorem m70 : (Jvm.Cond.code ({ cls := "ArchTrades$Reader", name := "<init>", desc := "()V" } : Jvm.MethodName) prog_6_method_1_code (1 : Nat) (Option.none : Option Jvm.ClassFile.FieldType)) ∈ WL := wlm (in1 (List.mem_of_getElem? (i := 70) (by decide +kernel))) (by decide +kernel)
theorem m71 : (Jvm.Cond.methodLink "ArchTrades$Reader" (3 : Nat) ({ cls := "java/lang/Object", name := "<init>", desc := "()V" } : Jvm.MethodName)) ∈ WL := wlm (in1 (List.mem_of_getElem? (i := 71) (by decide +kernel))) (by decide +kernel)
theorem m72 : (Jvm.Cond.classLink "ArchTrades$Reader" (9 : Nat) "ArchTrades$Bridge") ∈ WL := wlm (in1 (List.mem_of_getElem? (i := 72) (by decide +kernel))) (by decide +kernel)
theorem m73 : (Jvm.Cond.instantiable "ArchTrades$Bridge" (15 : Nat)) ∈ WL := wlm (in1 (List.mem_of_getElem? (i := 73) (by decide +kernel))) (by decide +kernel)
theorem m75 : (Jvm.Cond.instanceMethod ({ cls := "ArchTrades$Bridge", name := "<init>", desc := "()V" } : Jvm.MethodName)) ∈ WL := wlm (in1 (List.mem_of_getElem? (i := 75) (by decide +kernel))) (by decide +kernel)
theorem m76 : (Jvm.Cond.code ({ cls := "ArchTrades$Bridge", name := "<init>", desc := "()V" } : Jvm.MethodName) prog_4_method_1_code (1 : Nat) (Option.none : Option Jvm.ClassFile.FieldType)) ∈ WL := wlm (in1 (List.mem_of_getElem? (i := 76) (by decide +kernel))) (by decide +kernel)
theorem m77 : (Jvm.Cond.methodLink "ArchTrades$Bridge" (3 : Nat) ({ cls := "java/lang/Object", name := "<init>", desc := "()V" } : Jvm.MethodName)) ∈ WL := wlm (in1 (List.mem_of_getElem? (i := 77) (by decide +kernel))) (by decide +kernel)
theorem m78 : (Jvm.Cond.fieldLink "ArchTrades$Bridge" (36 : Nat) "ArchTrades$Bridge" "stands" "Z") ∈ WL := wlm (in1 (List.mem_of_getElem? (i := 78) (by decide +kernel))) (by decide +kernel)
theorem m81 : (Jvm.Cond.fieldLink "ArchTrades$Bridge" (40 : Nat) "ArchTrades$Bridge" "arches" "I") ∈ WL := wlm (in1 (List.mem_of_getElem? (i := 81) (by decide +kernel))) (by decide +kernel)
theorem m85 : (Jvm.Cond.fieldLink "ArchTrades$Bridge" (44 : Nat) "ArchTrades$Bridge" "boats" "I") ∈ WL := wlm (in1 (List.mem_of_getElem? (i := 85) (by decide +kernel))) (by decide +kernel)
theorem m89 : (Jvm.Cond.fieldLink "ArchTrades$Bridge" (47 : Nat) "ArchTrades$Bridge" "hourNow" "I") ∈ WL := wlm (in1 (List.mem_of_getElem? (i := 89) (by decide +kernel))) (by decide +kernel)
theorem m92 : (Jvm.Cond.fieldLink "ArchTrades$Bridge" (50 : Nat) "ArchTrades$Bridge" "tollHad" "I") ∈ WL := wlm (in1 (List.mem_of_getElem? (i := 92) (by decide +kernel))) (by decide +kernel)
theorem m94 : (Jvm.Cond.fieldLink "ArchTrades$Bridge" (53 : Nat) "ArchTrades$Bridge" "shutArches" "I") ∈ WL := wlm (in1 (List.mem_of_getElem? (i := 94) (by decide +kernel))) (by decide +kernel)
theorem m97 : (Jvm.Cond.fieldLink "ArchTrades$Bridge" (56 : Nat) "ArchTrades$Bridge" "goneBoats" "I") ∈ WL := wlm (in1 (List.mem_of_getElem? (i := 97) (by decide +kernel))) (by decide +kernel)
theorem m99 : (Jvm.Cond.fieldLink "ArchTrades$Bridge" (9 : Nat) "ArchTrades$Bridge" "tides" "[I") ∈ WL := wlm (in1 (List.mem_of_getElem? (i := 99) (by decide +kernel))) (by decide +kernel)
theorem m102 : (Jvm.Cond.fieldLink "ArchTrades$Bridge" (15 : Nat) "ArchTrades$Bridge" "charters" "[I") ∈ WL := wlm (in1 (List.mem_of_getElem? (i := 102) (by decide +kernel))) (by decide +kernel)
theorem m104 : (Jvm.Cond.fieldLink "ArchTrades$Bridge" (18 : Nat) "ArchTrades$Bridge" "heights" "[I") ∈ WL := wlm (in1 (List.mem_of_getElem? (i := 104) (by decide +kernel))) (by decide +kernel)
theorem m107 : (Jvm.Cond.fieldLink "ArchTrades$Bridge" (21 : Nat) "ArchTrades$Bridge" "tolls" "[I") ∈ WL := wlm (in1 (List.mem_of_getElem? (i := 107) (by decide +kernel))) (by decide +kernel)
theorem m110 : (Jvm.Cond.fieldLink "ArchTrades$Bridge" (24 : Nat) "ArchTrades$Bridge" "sorts" "[I") ∈ WL := wlm (in1 (List.mem_of_getElem? (i := 110) (by decide +kernel))) (by decide +kernel)
theorem m114 : (Jvm.Cond.fieldLink "ArchTrades$Bridge" (27 : Nat) "ArchTrades$Bridge" "masts" "[I") ∈ WL := wlm (in1 (List.mem_of_getElem? (i := 114) (by decide +kernel))) (by decide +kernel)
theorem m118 : (Jvm.Cond.fieldLink "ArchTrades$Bridge" (30 : Nat) "ArchTrades$Bridge" "loads" "[I") ∈ WL := wlm (in1 (List.mem_of_getElem? (i := 118) (by decide +kernel))) (by decide +kernel)
theorem m120 : (Jvm.Cond.fieldLink "ArchTrades$Bridge" (33 : Nat) "ArchTrades$Bridge" "wentBy" "[I") ∈ WL := wlm (in1 (List.mem_of_getElem? (i := 120) (by decide +kernel))) (by decide +kernel)
theorem m121 : (Jvm.Cond.lays "ArchTrades$Bridge" "ArchTrades$Bridge" "stands" "Z") ∈ WL := wlm (in1 (List.mem_of_getElem? (i := 121) (by decide +kernel))) (by decide +kernel)
theorem m123 : (Jvm.Cond.lays "ArchTrades$Bridge" "ArchTrades$Bridge" "arches" "I") ∈ WL := wlm (in1 (List.mem_of_getElem? (i := 123) (by decide +kernel))) (by decide +kernel)
theorem m125 : (Jvm.Cond.lays "ArchTrades$Bridge" "ArchTrades$Bridge" "boats" "I") ∈ WL := wlm (in1 (List.mem_of_getElem? (i := 125) (by decide +kernel))) (by decide +kernel)
theorem m127 : (Jvm.Cond.lays "ArchTrades$Bridge" "ArchTrades$Bridge" "hourNow" "I") ∈ WL := wlm (in1 (List.mem_of_getElem? (i := 127) (by decide +kernel))) (by decide +kernel)
theorem m129 : (Jvm.Cond.lays "ArchTrades$Bridge" "ArchTrades$Bridge" "tollHad" "I") ∈ WL := wlm (in1 (List.mem_of_getElem? (i := 129) (by decide +kernel))) (by decide +kernel)
theorem m131 : (Jvm.Cond.lays "ArchTrades$Bridge" "ArchTrades$Bridge" "shutArches" "I") ∈ WL := wlm (in1 (List.mem_of_getElem? (i := 131) (by decide +kernel))) (by decide +kernel)
theorem m133 : (Jvm.Cond.lays "ArchTrades$Bridge" "ArchTrades$Bridge" "goneBoats" "I") ∈ WL := wlm (in1 (List.mem_of_getElem? (i := 133) (by decide +kernel))) (by decide +kernel)
theorem m135 : (Jvm.Cond.laysFinal "ArchTrades$Bridge" "ArchTrades$Bridge" "tides" "[I") ∈ WL := wlm (in1 (List.mem_of_getElem? (i := 135) (by decide +kernel))) (by decide +kernel)
theorem m137 : (Jvm.Cond.laysFinal "ArchTrades$Bridge" "ArchTrades$Bridge" "charters" "[I") ∈ WL := wlm (in1 (List.mem_of_getElem? (i := 137) (by decide +kernel))) (by decide +kernel)
theorem m139 : (Jvm.Cond.laysFinal "ArchTrades$Bridge" "ArchTrades$Bridge" "heights" "[I") ∈ WL := wlm (in1 (List.mem_of_getElem? (i := 139) (by decide +kernel))) (by decide +kernel)
theorem m141 : (Jvm.Cond.laysFinal "ArchTrades$Bridge" "ArchTrades$Bridge" "tolls" "[I") ∈ WL := wlm (in1 (List.mem_of_getElem? (i := 141) (by decide +kernel))) (by decide +kernel)
theorem m143 : (Jvm.Cond.laysFinal "ArchTrades$Bridge" "ArchTrades$Bridge" "sorts" "[I") ∈ WL := wlm (in1 (List.mem_of_getElem? (i := 143) (by decide +kernel))) (by decide +kernel)
theorem m145 : (Jvm.Cond.laysFinal "ArchTrades$Bridge" "ArchTrades$Bridge" "masts" "[I") ∈ WL := wlm (in1 (List.mem_of_getElem? (i := 145) (by decide +kernel))) (by decide +kernel)
theorem m147 : (Jvm.Cond.laysFinal "ArchTrades$Bridge" "ArchTrades$Bridge" "loads" "[I") ∈ WL := wlm (in1 (List.mem_of_getElem? (i := 147) (by decide +kernel))) (by decide +kernel)
theorem m149 : (Jvm.Cond.laysFinal "ArchTrades$Bridge" "ArchTrades$Bridge" "wentBy" "[I") ∈ WL := wlm (in1 (List.mem_of_getElem? (i := 149) (by decide +kernel))) (by decide +kernel)
theorem m152 : (Jvm.Cond.fieldLink "ArchTrades$Reader" (12 : Nat) "ArchTrades$Reader" "told" "LArchTrades$Bridge;") ∈ WL := wlm (in1 (List.mem_of_getElem? (i := 152) (by decide +kernel))) (by decide +kernel)
theorem m153 : (Jvm.Cond.fieldLink "ArchTrades$Reader" (18 : Nat) "ArchTrades$Reader" "faultNumber" "I") ∈ WL := wlm (in1 (List.mem_of_getElem? (i := 153) (by decide +kernel))) (by decide +kernel)
theorem m154 : (Jvm.Cond.laysFinal "ArchTrades$Reader" "ArchTrades$Reader" "told" "LArchTrades$Bridge;") ∈ WL := wlm (in1 (List.mem_of_getElem? (i := 154) (by decide +kernel))) (by decide +kernel)
theorem m156 : (Jvm.Cond.lays "ArchTrades$Reader" "ArchTrades$Reader" "faultNumber" "I") ∈ WL := wlm (in1 (List.mem_of_getElem? (i := 156) (by decide +kernel))) (by decide +kernel)
theorem m159 : (Jvm.Cond.classLink "ArchTrades" (30 : Nat) "ArchTrades$Bridge") ∈ WL := wlm (in1 (List.mem_of_getElem? (i := 159) (by decide +kernel))) (by decide +kernel)
theorem m161 : (Jvm.Cond.classLink "ArchTrades" (43 : Nat) "ArchTrades$Acts") ∈ WL := wlm (in1 (List.mem_of_getElem? (i := 161) (by decide +kernel))) (by decide +kernel)
theorem m162 : (Jvm.Cond.instantiable "ArchTrades$Acts" (6 : Nat)) ∈ WL := wlm (in1 (List.mem_of_getElem? (i := 162) (by decide +kernel))) (by decide +kernel)
theorem m164 : (Jvm.Cond.instanceMethod ({ cls := "ArchTrades$Acts", name := "<init>", desc := "()V" } : Jvm.MethodName)) ∈ WL := wlm (in1 (List.mem_of_getElem? (i := 164) (by decide +kernel))) (by decide +kernel)
theorem m165 : (Jvm.Cond.code ({ cls := "ArchTrades$Acts", name := "<init>", desc := "()V" } : Jvm.MethodName) prog_2_method_1_code (1 : Nat) (Option.none : Option Jvm.ClassFile.FieldType)) ∈ WL := wlm (in1 (List.mem_of_getElem? (i := 165) (by decide +kernel))) (by decide +kernel)
theorem m166 : (Jvm.Cond.methodLink "ArchTrades$Acts" (1 : Nat) ({ cls := "java/lang/Object", name := "<init>", desc := "()V" } : Jvm.MethodName)) ∈ WL := wlm (in1 (List.mem_of_getElem? (i := 166) (by decide +kernel))) (by decide +kernel)
theorem m167 : (Jvm.Cond.fieldLink "ArchTrades$Acts" (9 : Nat) "ArchTrades$Acts" "whats" "[I") ∈ WL := wlm (in1 (List.mem_of_getElem? (i := 167) (by decide +kernel))) (by decide +kernel)
theorem m168 : (Jvm.Cond.fieldLink "ArchTrades$Acts" (13 : Nat) "ArchTrades$Acts" "firsts" "[I") ∈ WL := wlm (in1 (List.mem_of_getElem? (i := 168) (by decide +kernel))) (by decide +kernel)
theorem m169 : (Jvm.Cond.fieldLink "ArchTrades$Acts" (16 : Nat) "ArchTrades$Acts" "seconds" "[I") ∈ WL := wlm (in1 (List.mem_of_getElem? (i := 169) (by decide +kernel))) (by decide +kernel)
theorem m170 : (Jvm.Cond.fieldLink "ArchTrades$Acts" (19 : Nat) "ArchTrades$Acts" "thirds" "[I") ∈ WL := wlm (in1 (List.mem_of_getElem? (i := 170) (by decide +kernel))) (by decide +kernel)
theorem m171 : (Jvm.Cond.fieldLink "ArchTrades$Acts" (26 : Nat) "ArchTrades$Acts" "oldest" "I") ∈ WL := wlm (in1 (List.mem_of_getElem? (i := 171) (by decide +kernel))) (by decide +kernel)
theorem m172 : (Jvm.Cond.fieldLink "ArchTrades$Acts" (22 : Nat) "ArchTrades$Acts" "kept" "I") ∈ WL := wlm (in1 (List.mem_of_getElem? (i := 172) (by decide +kernel))) (by decide +kernel)
theorem m173 : (Jvm.Cond.laysFinal "ArchTrades$Acts" "ArchTrades$Acts" "whats" "[I") ∈ WL := wlm (in1 (List.mem_of_getElem? (i := 173) (by decide +kernel))) (by decide +kernel)
theorem m175 : (Jvm.Cond.laysFinal "ArchTrades$Acts" "ArchTrades$Acts" "firsts" "[I") ∈ WL := wlm (in1 (List.mem_of_getElem? (i := 175) (by decide +kernel))) (by decide +kernel)
theorem m177 : (Jvm.Cond.laysFinal "ArchTrades$Acts" "ArchTrades$Acts" "seconds" "[I") ∈ WL := wlm (in1 (List.mem_of_getElem? (i := 177) (by decide +kernel))) (by decide +kernel)
theorem m179 : (Jvm.Cond.laysFinal "ArchTrades$Acts" "ArchTrades$Acts" "thirds" "[I") ∈ WL := wlm (in1 (List.mem_of_getElem? (i := 179) (by decide +kernel))) (by decide +kernel)
theorem m181 : (Jvm.Cond.lays "ArchTrades$Acts" "ArchTrades$Acts" "oldest" "I") ∈ WL := wlm (in1 (List.mem_of_getElem? (i := 181) (by decide +kernel))) (by decide +kernel)
theorem m183 : (Jvm.Cond.lays "ArchTrades$Acts" "ArchTrades$Acts" "kept" "I") ∈ WL := wlm (in1 (List.mem_of_getElem? (i := 183) (by decide +kernel))) (by decide +kernel)
theorem m186 : (Jvm.Cond.classLink "ArchTrades" (50 : Nat) "ArchTrades$Foretold") ∈ WL := wlm (in1 (List.mem_of_getElem? (i := 186) (by decide +kernel))) (by decide +kernel)
theorem m187 : (Jvm.Cond.instantiable "ArchTrades$Foretold" (11 : Nat)) ∈ WL := wlm (in1 (List.mem_of_getElem? (i := 187) (by decide +kernel))) (by decide +kernel)
theorem m189 : (Jvm.Cond.instanceMethod ({ cls := "ArchTrades$Foretold", name := "<init>", desc := "()V" } : Jvm.MethodName)) ∈ WL := wlm (in1 (List.mem_of_getElem? (i := 189) (by decide +kernel))) (by decide +kernel)
theorem m190 : (Jvm.Cond.code ({ cls := "ArchTrades$Foretold", name := "<init>", desc := "()V" } : Jvm.MethodName) prog_5_method_1_code (1 : Nat) (Option.none : Option Jvm.ClassFile.FieldType)) ∈ WL := wlm (in1 (List.mem_of_getElem? (i := 190) (by decide +kernel))) (by decide +kernel)
theorem m191 : (Jvm.Cond.methodLink "ArchTrades$Foretold" (3 : Nat) ({ cls := "java/lang/Object", name := "<init>", desc := "()V" } : Jvm.MethodName)) ∈ WL := wlm (in1 (List.mem_of_getElem? (i := 191) (by decide +kernel))) (by decide +kernel)
theorem m192 : (Jvm.Cond.fieldLink "ArchTrades$Foretold" (9 : Nat) "ArchTrades$Foretold" "roomy" "[I") ∈ WL := wlm (in1 (List.mem_of_getElem? (i := 192) (by decide +kernel))) (by decide +kernel)
theorem m193 : (Jvm.Cond.fieldLink "ArchTrades$Foretold" (15 : Nat) "ArchTrades$Foretold" "chartersFor" "[I") ∈ WL := wlm (in1 (List.mem_of_getElem? (i := 193) (by decide +kernel))) (by decide +kernel)
theorem m194 : (Jvm.Cond.fieldLink "ArchTrades$Foretold" (18 : Nat) "ArchTrades$Foretold" "charters" "[I") ∈ WL := wlm (in1 (List.mem_of_getElem? (i := 194) (by decide +kernel))) (by decide +kernel)
theorem m195 : (Jvm.Cond.fieldLink "ArchTrades$Foretold" (21 : Nat) "ArchTrades$Foretold" "firstRow" "[I") ∈ WL := wlm (in1 (List.mem_of_getElem? (i := 195) (by decide +kernel))) (by decide +kernel)
theorem m196 : (Jvm.Cond.fieldLink "ArchTrades$Foretold" (24 : Nat) "ArchTrades$Foretold" "settled" "[I") ∈ WL := wlm (in1 (List.mem_of_getElem? (i := 196) (by decide +kernel))) (by decide +kernel)
theorem m197 : (Jvm.Cond.fieldLink "ArchTrades$Foretold" (27 : Nat) "ArchTrades$Foretold" "taken" "[I") ∈ WL := wlm (in1 (List.mem_of_getElem? (i := 197) (by decide +kernel))) (by decide +kernel)
theorem m198 : (Jvm.Cond.fieldLink "ArchTrades$Foretold" (30 : Nat) "ArchTrades$Foretold" "archOf" "[I") ∈ WL := wlm (in1 (List.mem_of_getElem? (i := 198) (by decide +kernel))) (by decide +kernel)
theorem m199 : (Jvm.Cond.fieldLink "ArchTrades$Foretold" (33 : Nat) "ArchTrades$Foretold" "hourBitOf" "[I") ∈ WL := wlm (in1 (List.mem_of_getElem? (i := 199) (by decide +kernel))) (by decide +kernel)
theorem m200 : (Jvm.Cond.fieldLink "ArchTrades$Foretold" (79 : Nat) "ArchTrades$Foretold" "arches" "I") ∈ WL := wlm (in1 (List.mem_of_getElem? (i := 200) (by decide +kernel))) (by decide +kernel)
theorem m201 : (Jvm.Cond.fieldLink "ArchTrades$Foretold" (83 : Nat) "ArchTrades$Foretold" "boats" "I") ∈ WL := wlm (in1 (List.mem_of_getElem? (i := 201) (by decide +kernel))) (by decide +kernel)
theorem m202 : (Jvm.Cond.fieldLink "ArchTrades$Foretold" (121 : Nat) "ArchTrades$Foretold" "asked" "I") ∈ WL := wlm (in1 (List.mem_of_getElem? (i := 202) (by decide +kernel))) (by decide +kernel)
theorem m203 : (Jvm.Cond.laysFinal "ArchTrades$Foretold" "ArchTrades$Foretold" "roomy" "[I") ∈ WL := wlm (in1 (List.mem_of_getElem? (i := 203) (by decide +kernel))) (by decide +kernel)
theorem m205 : (Jvm.Cond.laysFinal "ArchTrades$Foretold" "ArchTrades$Foretold" "chartersFor" "[I") ∈ WL := wlm (in1 (List.mem_of_getElem? (i := 205) (by decide +kernel))) (by decide +kernel)
theorem m207 : (Jvm.Cond.laysFinal "ArchTrades$Foretold" "ArchTrades$Foretold" "charters" "[I") ∈ WL := wlm (in1 (List.mem_of_getElem? (i := 207) (by decide +kernel))) (by decide +kernel)
theorem m209 : (Jvm.Cond.laysFinal "ArchTrades$Foretold" "ArchTrades$Foretold" "firstRow" "[I") ∈ WL := wlm (in1 (List.mem_of_getElem? (i := 209) (by decide +kernel))) (by decide +kernel)
theorem m211 : (Jvm.Cond.laysFinal "ArchTrades$Foretold" "ArchTrades$Foretold" "settled" "[I") ∈ WL := wlm (in1 (List.mem_of_getElem? (i := 211) (by decide +kernel))) (by decide +kernel)
theorem m213 : (Jvm.Cond.laysFinal "ArchTrades$Foretold" "ArchTrades$Foretold" "taken" "[I") ∈ WL := wlm (in1 (List.mem_of_getElem? (i := 213) (by decide +kernel))) (by decide +kernel)
theorem m215 : (Jvm.Cond.laysFinal "ArchTrades$Foretold" "ArchTrades$Foretold" "archOf" "[I") ∈ WL := wlm (in1 (List.mem_of_getElem? (i := 215) (by decide +kernel))) (by decide +kernel)
theorem m217 : (Jvm.Cond.laysFinal "ArchTrades$Foretold" "ArchTrades$Foretold" "hourBitOf" "[I") ∈ WL := wlm (in1 (List.mem_of_getElem? (i := 217) (by decide +kernel))) (by decide +kernel)
theorem m219 : (Jvm.Cond.lays "ArchTrades$Foretold" "ArchTrades$Foretold" "arches" "I") ∈ WL := wlm (in1 (List.mem_of_getElem? (i := 219) (by decide +kernel))) (by decide +kernel)
theorem m221 : (Jvm.Cond.lays "ArchTrades$Foretold" "ArchTrades$Foretold" "boats" "I") ∈ WL := wlm (in1 (List.mem_of_getElem? (i := 221) (by decide +kernel))) (by decide +kernel)
theorem m223 : (Jvm.Cond.lays "ArchTrades$Foretold" "ArchTrades$Foretold" "asked" "I") ∈ WL := wlm (in1 (List.mem_of_getElem? (i := 223) (by decide +kernel))) (by decide +kernel)
theorem m226 : (Jvm.Cond.classLink "ArchTrades" (57 : Nat) "ArchTrades$Asks") ∈ WL := wlm (in1 (List.mem_of_getElem? (i := 226) (by decide +kernel))) (by decide +kernel)
theorem m227 : (Jvm.Cond.instantiable "ArchTrades$Asks" (2 : Nat)) ∈ WL := wlm (in1 (List.mem_of_getElem? (i := 227) (by decide +kernel))) (by decide +kernel)
theorem m229 : (Jvm.Cond.instanceMethod ({ cls := "ArchTrades$Asks", name := "<init>", desc := "()V" } : Jvm.MethodName)) ∈ WL := wlm (in1 (List.mem_of_getElem? (i := 229) (by decide +kernel))) (by decide +kernel)
theorem m230 : (Jvm.Cond.code ({ cls := "ArchTrades$Asks", name := "<init>", desc := "()V" } : Jvm.MethodName) prog_3_method_1_code (1 : Nat) (Option.none : Option Jvm.ClassFile.FieldType)) ∈ WL := wlm (in1 (List.mem_of_getElem? (i := 230) (by decide +kernel))) (by decide +kernel)
theorem m231 : (Jvm.Cond.methodLink "ArchTrades$Asks" (3 : Nat) ({ cls := "java/lang/Object", name := "<init>", desc := "()V" } : Jvm.MethodName)) ∈ WL := wlm (in1 (List.mem_of_getElem? (i := 231) (by decide +kernel))) (by decide +kernel)
theorem m232 : (Jvm.Cond.fieldLink "ArchTrades$Asks" (11 : Nat) "ArchTrades$Asks" "begun" "[I") ∈ WL := wlm (in1 (List.mem_of_getElem? (i := 232) (by decide +kernel))) (by decide +kernel)
theorem m233 : (Jvm.Cond.fieldLink "ArchTrades$Asks" (15 : Nat) "ArchTrades$Asks" "traced" "I") ∈ WL := wlm (in1 (List.mem_of_getElem? (i := 233) (by decide +kernel))) (by decide +kernel)
theorem m234 : (Jvm.Cond.laysFinal "ArchTrades$Asks" "ArchTrades$Asks" "begun" "[I") ∈ WL := wlm (in1 (List.mem_of_getElem? (i := 234) (by decide +kernel))) (by decide +kernel)
theorem m236 : (Jvm.Cond.lays "ArchTrades$Asks" "ArchTrades$Asks" "traced" "I") ∈ WL := wlm (in1 (List.mem_of_getElem? (i := 236) (by decide +kernel))) (by decide +kernel)
theorem m239 : (Jvm.Cond.fieldLink "ArchTrades" (10 : Nat) "ArchTrades" "rows" "LArchTrades$Rows;") ∈ WL := wlm (in1 (List.mem_of_getElem? (i := 239) (by decide +kernel))) (by decide +kernel)
theorem m240 : (Jvm.Cond.fieldLink "ArchTrades" (19 : Nat) "ArchTrades" "tape" "LArchTrades$Tape;") ∈ WL := wlm (in2 (List.mem_of_getElem? (i := 0) (by decide +kernel))) (by decide +kernel)
theorem m241 : (Jvm.Cond.fieldLink "ArchTrades" (26 : Nat) "ArchTrades" "reader" "LArchTrades$Reader;") ∈ WL := wlm (in2 (List.mem_of_getElem? (i := 1) (by decide +kernel))) (by decide +kernel)
theorem m242 : (Jvm.Cond.fieldLink "ArchTrades" (33 : Nat) "ArchTrades" "now" "LArchTrades$Bridge;") ∈ WL := wlm (in2 (List.mem_of_getElem? (i := 2) (by decide +kernel))) (by decide +kernel)
theorem m243 : (Jvm.Cond.fieldLink "ArchTrades" (37 : Nat) "ArchTrades" "firstImage" "LArchTrades$Bridge;") ∈ WL := wlm (in2 (List.mem_of_getElem? (i := 3) (by decide +kernel))) (by decide +kernel)
theorem m244 : (Jvm.Cond.fieldLink "ArchTrades" (40 : Nat) "ArchTrades" "secondImage" "LArchTrades$Bridge;") ∈ WL := wlm (in2 (List.mem_of_getElem? (i := 4) (by decide +kernel))) (by decide +kernel)
theorem m245 : (Jvm.Cond.fieldLink "ArchTrades" (46 : Nat) "ArchTrades" "acts" "LArchTrades$Acts;") ∈ WL := wlm (in2 (List.mem_of_getElem? (i := 5) (by decide +kernel))) (by decide +kernel)
theorem m246 : (Jvm.Cond.fieldLink "ArchTrades" (53 : Nat) "ArchTrades" "foretold" "LArchTrades$Foretold;") ∈ WL := wlm (in2 (List.mem_of_getElem? (i := 6) (by decide +kernel))) (by decide +kernel)
theorem m247 : (Jvm.Cond.fieldLink "ArchTrades" (60 : Nat) "ArchTrades" "asks" "LArchTrades$Asks;") ∈ WL := wlm (in2 (List.mem_of_getElem? (i := 7) (by decide +kernel))) (by decide +kernel)
theorem m248 : (Jvm.Cond.fieldLink "ArchTrades" (123 : Nat) "ArchTrades" "latestFault" "I") ∈ WL := wlm (in2 (List.mem_of_getElem? (i := 8) (by decide +kernel))) (by decide +kernel)
theorem m249 : (Jvm.Cond.fieldLink "ArchTrades" (294 : Nat) "ArchTrades" "latestFinding" "I") ∈ WL := wlm (in2 (List.mem_of_getElem? (i := 9) (by decide +kernel))) (by decide +kernel)
theorem m250 : (Jvm.Cond.laysFinal "ArchTrades" "ArchTrades" "rows" "LArchTrades$Rows;") ∈ WL := wlm (in2 (List.mem_of_getElem? (i := 10) (by decide +kernel))) (by decide +kernel)
theorem m252 : (Jvm.Cond.laysFinal "ArchTrades" "ArchTrades" "tape" "LArchTrades$Tape;") ∈ WL := wlm (in2 (List.mem_of_getElem? (i := 12) (by decide +kernel))) (by decide +kernel)
theorem m254 : (Jvm.Cond.laysFinal "ArchTrades" "ArchTrades" "reader" "LArchTrades$Reader;") ∈ WL := wlm (in2 (List.mem_of_getElem? (i := 14) (by decide +kernel))) (by decide +kernel)
theorem m256 : (Jvm.Cond.laysFinal "ArchTrades" "ArchTrades" "now" "LArchTrades$Bridge;") ∈ WL := wlm (in2 (List.mem_of_getElem? (i := 16) (by decide +kernel))) (by decide +kernel)
theorem m258 : (Jvm.Cond.laysFinal "ArchTrades" "ArchTrades" "firstImage" "LArchTrades$Bridge;") ∈ WL := wlm (in2 (List.mem_of_getElem? (i := 18) (by decide +kernel))) (by decide +kernel)
theorem m260 : (Jvm.Cond.laysFinal "ArchTrades" "ArchTrades" "secondImage" "LArchTrades$Bridge;") ∈ WL := wlm (in2 (List.mem_of_getElem? (i := 20) (by decide +kernel))) (by decide +kernel)
theorem m262 : (Jvm.Cond.laysFinal "ArchTrades" "ArchTrades" "acts" "LArchTrades$Acts;") ∈ WL := wlm (in2 (List.mem_of_getElem? (i := 22) (by decide +kernel))) (by decide +kernel)
theorem m264 : (Jvm.Cond.laysFinal "ArchTrades" "ArchTrades" "foretold" "LArchTrades$Foretold;") ∈ WL := wlm (in2 (List.mem_of_getElem? (i := 24) (by decide +kernel))) (by decide +kernel)
theorem m266 : (Jvm.Cond.laysFinal "ArchTrades" "ArchTrades" "asks" "LArchTrades$Asks;") ∈ WL := wlm (in2 (List.mem_of_getElem? (i := 26) (by decide +kernel))) (by decide +kernel)
theorem m268 : (Jvm.Cond.lays "ArchTrades" "ArchTrades" "latestFault" "I") ∈ WL := wlm (in2 (List.mem_of_getElem? (i := 28) (by decide +kernel))) (by decide +kernel)
theorem m270 : (Jvm.Cond.lays "ArchTrades" "ArchTrades" "latestFinding" "I") ∈ WL := wlm (in2 (List.mem_of_getElem? (i := 30) (by decide +kernel))) (by decide +kernel)
theorem m273 : (Jvm.Cond.methodLink "ArchTradesLaw" (13 : Nat) ({ cls := "ArchTrades", name := "row", desc := "(III)I" } : Jvm.MethodName)) ∈ WL := wlm (in2 (List.mem_of_getElem? (i := 33) (by decide +kernel))) (by decide +kernel)
theorem m274 : (Jvm.Cond.instanceMethod ({ cls := "ArchTrades", name := "row", desc := "(III)I" } : Jvm.MethodName)) ∈ WL := wlm (in2 (List.mem_of_getElem? (i := 34) (by decide +kernel))) (by decide +kernel)
theorem m275 : (Jvm.Cond.selects "ArchTrades" ({ cls := "ArchTrades", name := "row", desc := "(III)I" } : Jvm.MethodName) ({ cls := "ArchTrades", name := "row", desc := "(III)I" } : Jvm.MethodName)) ∈ WL := wlm (in2 (List.mem_of_getElem? (i := 35) (by decide +kernel))) (by decide +kernel)
theorem m276 : (Jvm.Cond.code ({ cls := "ArchTrades", name := "row", desc := "(III)I" } : Jvm.MethodName) prog_1_method_2_code (4 : Nat) (Option.some Jvm.ClassFile.FieldType.int)) ∈ WL := wlm (in2 (List.mem_of_getElem? (i := 36) (by decide +kernel))) (by decide +kernel)
theorem m277 : (Jvm.Cond.methodLink "ArchTrades" (64 : Nat) ({ cls := "ArchTrades$Rows", name := "isRow", desc := "(I)Z" } : Jvm.MethodName)) ∈ WL := wlm (in2 (List.mem_of_getElem? (i := 37) (by decide +kernel))) (by decide +kernel)
theorem m278 : (Jvm.Cond.static ({ cls := "ArchTrades$Rows", name := "isRow", desc := "(I)Z" } : Jvm.MethodName)) ∈ WL := wlm (in2 (List.mem_of_getElem? (i := 38) (by decide +kernel))) (by decide +kernel)
theorem m279 : (Jvm.Cond.code ({ cls := "ArchTrades$Rows", name := "isRow", desc := "(I)Z" } : Jvm.MethodName) prog_7_method_2_code (1 : Nat) (Option.some Jvm.ClassFile.FieldType.boolean)) ∈ WL := wlm (in2 (List.mem_of_getElem? (i := 39) (by decide +kernel))) (by decide +kernel)
theorem m280 : (Jvm.Cond.constant "ArchTrades" (68 : Nat) (-1000001 : Int32)) ∈ WL := wlm (in2 (List.mem_of_getElem? (i := 40) (by decide +kernel))) (by decide +kernel)
theorem m281 : (Jvm.Cond.methodLink "ArchTrades" (69 : Nat) ({ cls := "ArchTrades", name := "found", desc := "(I)I" } : Jvm.MethodName)) ∈ WL := wlm (in2 (List.mem_of_getElem? (i := 41) (by decide +kernel))) (by decide +kernel)
theorem m283 : (Jvm.Cond.instanceMethod ({ cls := "ArchTrades", name := "found", desc := "(I)I" } : Jvm.MethodName)) ∈ WL := wlm (in2 (List.mem_of_getElem? (i := 43) (by decide +kernel))) (by decide +kernel)
theorem m284 : (Jvm.Cond.code ({ cls := "ArchTrades", name := "found", desc := "(I)I" } : Jvm.MethodName) prog_1_method_30_code (2 : Nat) (Option.some Jvm.ClassFile.FieldType.int)) ∈ WL := wlm (in2 (List.mem_of_getElem? (i := 44) (by decide +kernel))) (by decide +kernel)
theorem m285 : (Jvm.Cond.constant "ArchTrades" (297 : Nat) (-1000010 : Int32)) ∈ WL := wlm (in2 (List.mem_of_getElem? (i := 45) (by decide +kernel))) (by decide +kernel)
theorem m286 : (Jvm.Cond.methodLink "ArchTrades" (73 : Nat) ({ cls := "ArchTrades$Rows", name := "begin", desc := "(III)V" } : Jvm.MethodName)) ∈ WL := wlm (in2 (List.mem_of_getElem? (i := 46) (by decide +kernel))) (by decide +kernel)
theorem m287 : (Jvm.Cond.instanceMethod ({ cls := "ArchTrades$Rows", name := "begin", desc := "(III)V" } : Jvm.MethodName)) ∈ WL := wlm (in2 (List.mem_of_getElem? (i := 47) (by decide +kernel))) (by decide +kernel)
theorem m288 : (Jvm.Cond.selects "ArchTrades$Rows" ({ cls := "ArchTrades$Rows", name := "begin", desc := "(III)V" } : Jvm.MethodName) ({ cls := "ArchTrades$Rows", name := "begin", desc := "(III)V" } : Jvm.MethodName)) ∈ WL := wlm (in2 (List.mem_of_getElem? (i := 48) (by decide +kernel))) (by decide +kernel)
theorem m289 : (Jvm.Cond.code ({ cls := "ArchTrades$Rows", name := "begin", desc := "(III)V" } : Jvm.MethodName) prog_7_method_6_code (5 : Nat) (Option.none : Option Jvm.ClassFile.FieldType)) ∈ WL := wlm (in2 (List.mem_of_getElem? (i := 49) (by decide +kernel))) (by decide +kernel)
theorem m290 : (Jvm.Cond.methodLink "ArchTrades" (77 : Nat) ({ cls := "ArchTrades", name := "unfound", desc := "(I)I" } : Jvm.MethodName)) ∈ WL := wlm (in2 (List.mem_of_getElem? (i := 50) (by decide +kernel))) (by decide +kernel)
theorem m292 : (Jvm.Cond.instanceMethod ({ cls := "ArchTrades", name := "unfound", desc := "(I)I" } : Jvm.MethodName)) ∈ WL := wlm (in2 (List.mem_of_getElem? (i := 52) (by decide +kernel))) (by decide +kernel)
theorem m293 : (Jvm.Cond.code ({ cls := "ArchTrades", name := "unfound", desc := "(I)I" } : Jvm.MethodName) prog_1_method_31_code (2 : Nat) (Option.some Jvm.ClassFile.FieldType.int)) ∈ WL := wlm (in2 (List.mem_of_getElem? (i := 53) (by decide +kernel))) (by decide +kernel)
theorem m294 : (Jvm.Cond.methodLink "ArchTradesLaw" (18 : Nat) ({ cls := "ArchTrades", name := "set", desc := "(III)I" } : Jvm.MethodName)) ∈ WL := wlm (in2 (List.mem_of_getElem? (i := 54) (by decide +kernel))) (by decide +kernel)
theorem m295 : (Jvm.Cond.instanceMethod ({ cls := "ArchTrades", name := "set", desc := "(III)I" } : Jvm.MethodName)) ∈ WL := wlm (in2 (List.mem_of_getElem? (i := 55) (by decide +kernel))) (by decide +kernel)
theorem m296 : (Jvm.Cond.selects "ArchTrades" ({ cls := "ArchTrades", name := "set", desc := "(III)I" } : Jvm.MethodName) ({ cls := "ArchTrades", name := "set", desc := "(III)I" } : Jvm.MethodName)) ∈ WL := wlm (in2 (List.mem_of_getElem? (i := 56) (by decide +kernel))) (by decide +kernel)
theorem m297 : (Jvm.Cond.code ({ cls := "ArchTrades", name := "set", desc := "(III)I" } : Jvm.MethodName) prog_1_method_3_code (4 : Nat) (Option.some Jvm.ClassFile.FieldType.int)) ∈ WL := wlm (in2 (List.mem_of_getElem? (i := 57) (by decide +kernel))) (by decide +kernel)
theorem m298 : (Jvm.Cond.methodLink "ArchTrades" (80 : Nat) ({ cls := "ArchTrades$Rows", name := "isMissing", desc := "(I)Z" } : Jvm.MethodName)) ∈ WL := wlm (in2 (List.mem_of_getElem? (i := 58) (by decide +kernel))) (by decide +kernel)
theorem m299 : (Jvm.Cond.instanceMethod ({ cls := "ArchTrades$Rows", name := "isMissing", desc := "(I)Z" } : Jvm.MethodName)) ∈ WL := wlm (in2 (List.mem_of_getElem? (i := 59) (by decide +kernel))) (by decide +kernel)
theorem m300 : (Jvm.Cond.selects "ArchTrades$Rows" ({ cls := "ArchTrades$Rows", name := "isMissing", desc := "(I)Z" } : Jvm.MethodName) ({ cls := "ArchTrades$Rows", name := "isMissing", desc := "(I)Z" } : Jvm.MethodName)) ∈ WL := wlm (in2 (List.mem_of_getElem? (i := 60) (by decide +kernel))) (by decide +kernel)
theorem m301 : (Jvm.Cond.code ({ cls := "ArchTrades$Rows", name := "isMissing", desc := "(I)Z" } : Jvm.MethodName) prog_7_method_3_code (2 : Nat) (Option.some Jvm.ClassFile.FieldType.boolean)) ∈ WL := wlm (in2 (List.mem_of_getElem? (i := 61) (by decide +kernel))) (by decide +kernel)
theorem m302 : (Jvm.Cond.methodLink "ArchTrades" (83 : Nat) ({ cls := "ArchTrades$Rows", name := "hasPlaces", desc := "(III)Z" } : Jvm.MethodName)) ∈ WL := wlm (in2 (List.mem_of_getElem? (i := 62) (by decide +kernel))) (by decide +kernel)
theorem m303 : (Jvm.Cond.instanceMethod ({ cls := "ArchTrades$Rows", name := "hasPlaces", desc := "(III)Z" } : Jvm.MethodName)) ∈ WL := wlm (in2 (List.mem_of_getElem? (i := 63) (by decide +kernel))) (by decide +kernel)
theorem m304 : (Jvm.Cond.selects "ArchTrades$Rows" ({ cls := "ArchTrades$Rows", name := "hasPlaces", desc := "(III)Z" } : Jvm.MethodName) ({ cls := "ArchTrades$Rows", name := "hasPlaces", desc := "(III)Z" } : Jvm.MethodName)) ∈ WL := wlm (in2 (List.mem_of_getElem? (i := 64) (by decide +kernel))) (by decide +kernel)
theorem m305 : (Jvm.Cond.code ({ cls := "ArchTrades$Rows", name := "hasPlaces", desc := "(III)Z" } : Jvm.MethodName) prog_7_method_5_code (4 : Nat) (Option.some Jvm.ClassFile.FieldType.boolean)) ∈ WL := wlm (in2 (List.mem_of_getElem? (i := 65) (by decide +kernel))) (by decide +kernel)
theorem m306 : (Jvm.Cond.methodLink "ArchTrades" (87 : Nat) ({ cls := "ArchTrades$Rows", name := "put", desc := "(III)I" } : Jvm.MethodName)) ∈ WL := wlm (in2 (List.mem_of_getElem? (i := 66) (by decide +kernel))) (by decide +kernel)
theorem m307 : (Jvm.Cond.instanceMethod ({ cls := "ArchTrades$Rows", name := "put", desc := "(III)I" } : Jvm.MethodName)) ∈ WL := wlm (in2 (List.mem_of_getElem? (i := 67) (by decide +kernel))) (by decide +kernel)
theorem m308 : (Jvm.Cond.selects "ArchTrades$Rows" ({ cls := "ArchTrades$Rows", name := "put", desc := "(III)I" } : Jvm.MethodName) ({ cls := "ArchTrades$Rows", name := "put", desc := "(III)I" } : Jvm.MethodName)) ∈ WL := wlm (in2 (List.mem_of_getElem? (i := 68) (by decide +kernel))) (by decide +kernel)
theorem m309 : (Jvm.Cond.code ({ cls := "ArchTrades$Rows", name := "put", desc := "(III)I" } : Jvm.MethodName) prog_7_method_7_code (4 : Nat) (Option.some Jvm.ClassFile.FieldType.int)) ∈ WL := wlm (in2 (List.mem_of_getElem? (i := 69) (by decide +kernel))) (by decide +kernel)
theorem m310 : (Jvm.Cond.methodLink "ArchTrades$Rows" (19 : Nat) ({ cls := "ArchTrades$Rows", name := "narrowed", desc := "(II)I" } : Jvm.MethodName)) ∈ WL := wlm (in2 (List.mem_of_getElem? (i := 70) (by decide +kernel))) (by decide +kernel)
theorem m311 : (Jvm.Cond.static ({ cls := "ArchTrades$Rows", name := "narrowed", desc := "(II)I" } : Jvm.MethodName)) ∈ WL := wlm (in2 (List.mem_of_getElem? (i := 71) (by decide +kernel))) (by decide +kernel)
theorem m312 : (Jvm.Cond.code ({ cls := "ArchTrades$Rows", name := "narrowed", desc := "(II)I" } : Jvm.MethodName) prog_7_method_12_code (2 : Nat) (Option.some Jvm.ClassFile.FieldType.int)) ∈ WL := wlm (in2 (List.mem_of_getElem? (i := 72) (by decide +kernel))) (by decide +kernel)
theorem m313 : (Jvm.Cond.methodLink "ArchTradesLaw" (22 : Nat) ({ cls := "ArchTrades", name := "copy", desc := "(IIIII)I" } : Jvm.MethodName)) ∈ WL := wlm (in2 (List.mem_of_getElem? (i := 73) (by decide +kernel))) (by decide +kernel)
theorem m314 : (Jvm.Cond.instanceMethod ({ cls := "ArchTrades", name := "copy", desc := "(IIIII)I" } : Jvm.MethodName)) ∈ WL := wlm (in2 (List.mem_of_getElem? (i := 74) (by decide +kernel))) (by decide +kernel)
theorem m315 : (Jvm.Cond.selects "ArchTrades" ({ cls := "ArchTrades", name := "copy", desc := "(IIIII)I" } : Jvm.MethodName) ({ cls := "ArchTrades", name := "copy", desc := "(IIIII)I" } : Jvm.MethodName)) ∈ WL := wlm (in2 (List.mem_of_getElem? (i := 75) (by decide +kernel))) (by decide +kernel)
theorem m316 : (Jvm.Cond.code ({ cls := "ArchTrades", name := "copy", desc := "(IIIII)I" } : Jvm.MethodName) prog_1_method_4_code (6 : Nat) (Option.some Jvm.ClassFile.FieldType.int)) ∈ WL := wlm (in2 (List.mem_of_getElem? (i := 76) (by decide +kernel))) (by decide +kernel)
theorem m317 : (Jvm.Cond.methodLink "ArchTrades" (91 : Nat) ({ cls := "ArchTrades$Rows", name := "laneOf", desc := "(I)I" } : Jvm.MethodName)) ∈ WL := wlm (in2 (List.mem_of_getElem? (i := 77) (by decide +kernel))) (by decide +kernel)
theorem m318 : (Jvm.Cond.instanceMethod ({ cls := "ArchTrades$Rows", name := "laneOf", desc := "(I)I" } : Jvm.MethodName)) ∈ WL := wlm (in2 (List.mem_of_getElem? (i := 78) (by decide +kernel))) (by decide +kernel)
theorem m319 : (Jvm.Cond.selects "ArchTrades$Rows" ({ cls := "ArchTrades$Rows", name := "laneOf", desc := "(I)I" } : Jvm.MethodName) ({ cls := "ArchTrades$Rows", name := "laneOf", desc := "(I)I" } : Jvm.MethodName)) ∈ WL := wlm (in2 (List.mem_of_getElem? (i := 79) (by decide +kernel))) (by decide +kernel)
theorem m320 : (Jvm.Cond.code ({ cls := "ArchTrades$Rows", name := "laneOf", desc := "(I)I" } : Jvm.MethodName) prog_7_method_4_code (2 : Nat) (Option.some Jvm.ClassFile.FieldType.int)) ∈ WL := wlm (in2 (List.mem_of_getElem? (i := 80) (by decide +kernel))) (by decide +kernel)
theorem m321 : (Jvm.Cond.methodLink "ArchTrades" (94 : Nat) ({ cls := "ArchTrades$Rows", name := "move", desc := "(IIIII)V" } : Jvm.MethodName)) ∈ WL := wlm (in2 (List.mem_of_getElem? (i := 81) (by decide +kernel))) (by decide +kernel)
theorem m322 : (Jvm.Cond.instanceMethod ({ cls := "ArchTrades$Rows", name := "move", desc := "(IIIII)V" } : Jvm.MethodName)) ∈ WL := wlm (in2 (List.mem_of_getElem? (i := 82) (by decide +kernel))) (by decide +kernel)
theorem m323 : (Jvm.Cond.selects "ArchTrades$Rows" ({ cls := "ArchTrades$Rows", name := "move", desc := "(IIIII)V" } : Jvm.MethodName) ({ cls := "ArchTrades$Rows", name := "move", desc := "(IIIII)V" } : Jvm.MethodName)) ∈ WL := wlm (in2 (List.mem_of_getElem? (i := 83) (by decide +kernel))) (by decide +kernel)
theorem m324 : (Jvm.Cond.code ({ cls := "ArchTrades$Rows", name := "move", desc := "(IIIII)V" } : Jvm.MethodName) prog_7_method_9_code (6 : Nat) (Option.none : Option Jvm.ClassFile.FieldType)) ∈ WL := wlm (in2 (List.mem_of_getElem? (i := 84) (by decide +kernel))) (by decide +kernel)
theorem m325 : (Jvm.Cond.methodLink "ArchTrades$Rows" (23 : Nat) ({ cls := "java/lang/System", name := "arraycopy", desc := "(Ljava/lang/Object;ILjava/lang/Object;II)V" } : Jvm.MethodName)) ∈ WL := wlm (in2 (List.mem_of_getElem? (i := 85) (by decide +kernel))) (by decide +kernel)
theorem m326 : (Jvm.Cond.static ({ cls := "java/lang/System", name := "arraycopy", desc := "(Ljava/lang/Object;ILjava/lang/Object;II)V" } : Jvm.MethodName)) ∈ WL := wlm (in2 (List.mem_of_getElem? (i := 86) (by decide +kernel))) (by decide +kernel)
theorem m327 : (Jvm.Cond.native ({ cls := "java/lang/System", name := "arraycopy", desc := "(Ljava/lang/Object;ILjava/lang/Object;II)V" } : Jvm.MethodName)) ∈ WL := wlm (in2 (List.mem_of_getElem? (i := 87) (by decide +kernel))) (by decide +kernel)
theorem m328 : (Jvm.Cond.methodLink "ArchTradesLaw" (27 : Nat) ({ cls := "ArchTrades", name := "drop", desc := "(I)I" } : Jvm.MethodName)) ∈ WL := wlm (in2 (List.mem_of_getElem? (i := 88) (by decide +kernel))) (by decide +kernel)
theorem m329 : (Jvm.Cond.instanceMethod ({ cls := "ArchTrades", name := "drop", desc := "(I)I" } : Jvm.MethodName)) ∈ WL := wlm (in2 (List.mem_of_getElem? (i := 89) (by decide +kernel))) (by decide +kernel)
theorem m330 : (Jvm.Cond.selects "ArchTrades" ({ cls := "ArchTrades", name := "drop", desc := "(I)I" } : Jvm.MethodName) ({ cls := "ArchTrades", name := "drop", desc := "(I)I" } : Jvm.MethodName)) ∈ WL := wlm (in2 (List.mem_of_getElem? (i := 90) (by decide +kernel))) (by decide +kernel)
theorem m331 : (Jvm.Cond.code ({ cls := "ArchTrades", name := "drop", desc := "(I)I" } : Jvm.MethodName) prog_1_method_5_code (2 : Nat) (Option.some Jvm.ClassFile.FieldType.int)) ∈ WL := wlm (in2 (List.mem_of_getElem? (i := 91) (by decide +kernel))) (by decide +kernel)
theorem m332 : (Jvm.Cond.methodLink "ArchTrades" (98 : Nat) ({ cls := "ArchTrades$Rows", name := "remove", desc := "(I)I" } : Jvm.MethodName)) ∈ WL := wlm (in2 (List.mem_of_getElem? (i := 92) (by decide +kernel))) (by decide +kernel)
theorem m333 : (Jvm.Cond.instanceMethod ({ cls := "ArchTrades$Rows", name := "remove", desc := "(I)I" } : Jvm.MethodName)) ∈ WL := wlm (in2 (List.mem_of_getElem? (i := 93) (by decide +kernel))) (by decide +kernel)
theorem m334 : (Jvm.Cond.selects "ArchTrades$Rows" ({ cls := "ArchTrades$Rows", name := "remove", desc := "(I)I" } : Jvm.MethodName) ({ cls := "ArchTrades$Rows", name := "remove", desc := "(I)I" } : Jvm.MethodName)) ∈ WL := wlm (in2 (List.mem_of_getElem? (i := 94) (by decide +kernel))) (by decide +kernel)
theorem m335 : (Jvm.Cond.code ({ cls := "ArchTrades$Rows", name := "remove", desc := "(I)I" } : Jvm.MethodName) prog_7_method_10_code (3 : Nat) (Option.some Jvm.ClassFile.FieldType.int)) ∈ WL := wlm (in2 (List.mem_of_getElem? (i := 95) (by decide +kernel))) (by decide +kernel)
theorem m336 : (Jvm.Cond.methodLink "ArchTradesLaw" (34 : Nat) ({ cls := "ArchTrades", name := "feed", desc := "(JI)I" } : Jvm.MethodName)) ∈ WL := wlm (in2 (List.mem_of_getElem? (i := 96) (by decide +kernel))) (by decide +kernel)
theorem m337 : (Jvm.Cond.instanceMethod ({ cls := "ArchTrades", name := "feed", desc := "(JI)I" } : Jvm.MethodName)) ∈ WL := wlm (in2 (List.mem_of_getElem? (i := 97) (by decide +kernel))) (by decide +kernel)
theorem m338 : (Jvm.Cond.selects "ArchTrades" ({ cls := "ArchTrades", name := "feed", desc := "(JI)I" } : Jvm.MethodName) ({ cls := "ArchTrades", name := "feed", desc := "(JI)I" } : Jvm.MethodName)) ∈ WL := wlm (in2 (List.mem_of_getElem? (i := 98) (by decide +kernel))) (by decide +kernel)
theorem m339 : (Jvm.Cond.code ({ cls := "ArchTrades", name := "feed", desc := "(JI)I" } : Jvm.MethodName) prog_1_method_6_code (4 : Nat) (Option.some Jvm.ClassFile.FieldType.int)) ∈ WL := wlm (in2 (List.mem_of_getElem? (i := 99) (by decide +kernel))) (by decide +kernel)
theorem m340 : (Jvm.Cond.methodLink "ArchTrades" (101 : Nat) ({ cls := "ArchTrades$Tape", name := "append", desc := "(JI)Z" } : Jvm.MethodName)) ∈ WL := wlm (in2 (List.mem_of_getElem? (i := 100) (by decide +kernel))) (by decide +kernel)
theorem m341 : (Jvm.Cond.instanceMethod ({ cls := "ArchTrades$Tape", name := "append", desc := "(JI)Z" } : Jvm.MethodName)) ∈ WL := wlm (in2 (List.mem_of_getElem? (i := 101) (by decide +kernel))) (by decide +kernel)
theorem m342 : (Jvm.Cond.selects "ArchTrades$Tape" ({ cls := "ArchTrades$Tape", name := "append", desc := "(JI)Z" } : Jvm.MethodName) ({ cls := "ArchTrades$Tape", name := "append", desc := "(JI)Z" } : Jvm.MethodName)) ∈ WL := wlm (in2 (List.mem_of_getElem? (i := 102) (by decide +kernel))) (by decide +kernel)
theorem m343 : (Jvm.Cond.code ({ cls := "ArchTrades$Tape", name := "append", desc := "(JI)Z" } : Jvm.MethodName) prog_8_method_4_code (5 : Nat) (Option.some Jvm.ClassFile.FieldType.boolean)) ∈ WL := wlm (in2 (List.mem_of_getElem? (i := 103) (by decide +kernel))) (by decide +kernel)
theorem m344 : (Jvm.Cond.methodLink "ArchTrades" (105 : Nat) ({ cls := "ArchTrades$Tape", name := "size", desc := "()I" } : Jvm.MethodName)) ∈ WL := wlm (in2 (List.mem_of_getElem? (i := 104) (by decide +kernel))) (by decide +kernel)
theorem m345 : (Jvm.Cond.instanceMethod ({ cls := "ArchTrades$Tape", name := "size", desc := "()I" } : Jvm.MethodName)) ∈ WL := wlm (in2 (List.mem_of_getElem? (i := 105) (by decide +kernel))) (by decide +kernel)
theorem m346 : (Jvm.Cond.selects "ArchTrades$Tape" ({ cls := "ArchTrades$Tape", name := "size", desc := "()I" } : Jvm.MethodName) ({ cls := "ArchTrades$Tape", name := "size", desc := "()I" } : Jvm.MethodName)) ∈ WL := wlm (in2 (List.mem_of_getElem? (i := 106) (by decide +kernel))) (by decide +kernel)
theorem m347 : (Jvm.Cond.code ({ cls := "ArchTrades$Tape", name := "size", desc := "()I" } : Jvm.MethodName) prog_8_method_2_code (1 : Nat) (Option.some Jvm.ClassFile.FieldType.int)) ∈ WL := wlm (in2 (List.mem_of_getElem? (i := 107) (by decide +kernel))) (by decide +kernel)
theorem m348 : (Jvm.Cond.constant "ArchTrades" (109 : Nat) (-1000003 : Int32)) ∈ WL := wlm (in2 (List.mem_of_getElem? (i := 108) (by decide +kernel))) (by decide +kernel)
theorem m349 : (Jvm.Cond.methodLink "ArchTradesLaw" (39 : Nat) ({ cls := "ArchTrades", name := "bridge", desc := "()I" } : Jvm.MethodName)) ∈ WL := wlm (in2 (List.mem_of_getElem? (i := 109) (by decide +kernel))) (by decide +kernel)
theorem m350 : (Jvm.Cond.instanceMethod ({ cls := "ArchTrades", name := "bridge", desc := "()I" } : Jvm.MethodName)) ∈ WL := wlm (in2 (List.mem_of_getElem? (i := 110) (by decide +kernel))) (by decide +kernel)
theorem m351 : (Jvm.Cond.selects "ArchTrades" ({ cls := "ArchTrades", name := "bridge", desc := "()I" } : Jvm.MethodName) ({ cls := "ArchTrades", name := "bridge", desc := "()I" } : Jvm.MethodName)) ∈ WL := wlm (in2 (List.mem_of_getElem? (i := 111) (by decide +kernel))) (by decide +kernel)
theorem m352 : (Jvm.Cond.code ({ cls := "ArchTrades", name := "bridge", desc := "()I" } : Jvm.MethodName) prog_1_method_7_code (3 : Nat) (Option.some Jvm.ClassFile.FieldType.int)) ∈ WL := wlm (in2 (List.mem_of_getElem? (i := 112) (by decide +kernel))) (by decide +kernel)
theorem m353 : (Jvm.Cond.methodLink "ArchTrades" (110 : Nat) ({ cls := "ArchTrades$Reader", name := "read", desc := "(LArchTrades$Tape;)Z" } : Jvm.MethodName)) ∈ WL := wlm (in2 (List.mem_of_getElem? (i := 113) (by decide +kernel))) (by decide +kernel)
theorem m354 : (Jvm.Cond.instanceMethod ({ cls := "ArchTrades$Reader", name := "read", desc := "(LArchTrades$Tape;)Z" } : Jvm.MethodName)) ∈ WL := wlm (in2 (List.mem_of_getElem? (i := 114) (by decide +kernel))) (by decide +kernel)
theorem m355 : (Jvm.Cond.selects "ArchTrades$Reader" ({ cls := "ArchTrades$Reader", name := "read", desc := "(LArchTrades$Tape;)Z" } : Jvm.MethodName) ({ cls := "ArchTrades$Reader", name := "read", desc := "(LArchTrades$Tape;)Z" } : Jvm.MethodName)) ∈ WL := wlm (in2 (List.mem_of_getElem? (i := 115) (by decide +kernel))) (by decide +kernel)
theorem m356 : (Jvm.Cond.code ({ cls := "ArchTrades$Reader", name := "read", desc := "(LArchTrades$Tape;)Z" } : Jvm.MethodName) prog_6_method_4_code (2 : Nat) (Option.some Jvm.ClassFile.FieldType.boolean)) ∈ WL := wlm (in2 (List.mem_of_getElem? (i := 116) (by decide +kernel))) (by decide +kernel)
theorem m357 : (Jvm.Cond.methodLink "ArchTrades$Reader" (22 : Nat) ({ cls := "ArchTrades$Bridge", name := "clear", desc := "()V" } : Jvm.MethodName)) ∈ WL := wlm (in2 (List.mem_of_getElem? (i := 117) (by decide +kernel))) (by decide +kernel)
theorem m358 : (Jvm.Cond.instanceMethod ({ cls := "ArchTrades$Bridge", name := "clear", desc := "()V" } : Jvm.MethodName)) ∈ WL := wlm (in2 (List.mem_of_getElem? (i := 118) (by decide +kernel))) (by decide +kernel)
theorem m359 : (Jvm.Cond.selects "ArchTrades$Bridge" ({ cls := "ArchTrades$Bridge", name := "clear", desc := "()V" } : Jvm.MethodName) ({ cls := "ArchTrades$Bridge", name := "clear", desc := "()V" } : Jvm.MethodName)) ∈ WL := wlm (in2 (List.mem_of_getElem? (i := 119) (by decide +kernel))) (by decide +kernel)
theorem m360 : (Jvm.Cond.code ({ cls := "ArchTrades$Bridge", name := "clear", desc := "()V" } : Jvm.MethodName) prog_4_method_4_code (1 : Nat) (Option.none : Option Jvm.ClassFile.FieldType)) ∈ WL := wlm (in2 (List.mem_of_getElem? (i := 120) (by decide +kernel))) (by decide +kernel)
theorem m361 : (Jvm.Cond.methodLink "ArchTrades$Bridge" (59 : Nat) ({ cls := "java/util/Arrays", name := "fill", desc := "([II)V" } : Jvm.MethodName)) ∈ WL := wlm (in2 (List.mem_of_getElem? (i := 121) (by decide +kernel))) (by decide +kernel)
theorem m362 : (Jvm.Cond.static ({ cls := "java/util/Arrays", name := "fill", desc := "([II)V" } : Jvm.MethodName)) ∈ WL := wlm (in2 (List.mem_of_getElem? (i := 122) (by decide +kernel))) (by decide +kernel)
theorem m363 : (Jvm.Cond.code ({ cls := "java/util/Arrays", name := "fill", desc := "([II)V" } : Jvm.MethodName) prog_17_method_103_code (4 : Nat) (Option.none : Option Jvm.ClassFile.FieldType)) ∈ WL := wlm (in2 (List.mem_of_getElem? (i := 123) (by decide +kernel))) (by decide +kernel)
theorem m364 : (Jvm.Cond.methodLink "ArchTrades$Reader" (25 : Nat) ({ cls := "ArchTrades$Tape", name := "rewind", desc := "()V" } : Jvm.MethodName)) ∈ WL := wlm (in2 (List.mem_of_getElem? (i := 124) (by decide +kernel))) (by decide +kernel)
theorem m365 : (Jvm.Cond.instanceMethod ({ cls := "ArchTrades$Tape", name := "rewind", desc := "()V" } : Jvm.MethodName)) ∈ WL := wlm (in2 (List.mem_of_getElem? (i := 125) (by decide +kernel))) (by decide +kernel)
theorem m366 : (Jvm.Cond.selects "ArchTrades$Tape" ({ cls := "ArchTrades$Tape", name := "rewind", desc := "()V" } : Jvm.MethodName) ({ cls := "ArchTrades$Tape", name := "rewind", desc := "()V" } : Jvm.MethodName)) ∈ WL := wlm (in2 (List.mem_of_getElem? (i := 126) (by decide +kernel))) (by decide +kernel)
theorem m367 : (Jvm.Cond.code ({ cls := "ArchTrades$Tape", name := "rewind", desc := "()V" } : Jvm.MethodName) prog_8_method_7_code (1 : Nat) (Option.none : Option Jvm.ClassFile.FieldType)) ∈ WL := wlm (in2 (List.mem_of_getElem? (i := 127) (by decide +kernel))) (by decide +kernel)
theorem m368 : (Jvm.Cond.methodLink "ArchTrades$Tape" (23 : Nat) ({ cls := "ArchTrades$Tape", name := "step", desc := "()V" } : Jvm.MethodName)) ∈ WL := wlm (in2 (List.mem_of_getElem? (i := 128) (by decide +kernel))) (by decide +kernel)
theorem m369 : (Jvm.Cond.instanceMethod ({ cls := "ArchTrades$Tape", name := "step", desc := "()V" } : Jvm.MethodName)) ∈ WL := wlm (in2 (List.mem_of_getElem? (i := 129) (by decide +kernel))) (by decide +kernel)
theorem m370 : (Jvm.Cond.selects "ArchTrades$Tape" ({ cls := "ArchTrades$Tape", name := "step", desc := "()V" } : Jvm.MethodName) ({ cls := "ArchTrades$Tape", name := "step", desc := "()V" } : Jvm.MethodName)) ∈ WL := wlm (in2 (List.mem_of_getElem? (i := 130) (by decide +kernel))) (by decide +kernel)
theorem m371 : (Jvm.Cond.code ({ cls := "ArchTrades$Tape", name := "step", desc := "()V" } : Jvm.MethodName) prog_8_method_8_code (1 : Nat) (Option.none : Option Jvm.ClassFile.FieldType)) ∈ WL := wlm (in2 (List.mem_of_getElem? (i := 131) (by decide +kernel))) (by decide +kernel)
theorem m372 : (Jvm.Cond.methodLink "ArchTrades$Tape" (26 : Nat) ({ cls := "ArchTrades$Tape", name := "isBlank", desc := "(B)Z" } : Jvm.MethodName)) ∈ WL := wlm (in2 (List.mem_of_getElem? (i := 132) (by decide +kernel))) (by decide +kernel)
theorem m373 : (Jvm.Cond.static ({ cls := "ArchTrades$Tape", name := "isBlank", desc := "(B)Z" } : Jvm.MethodName)) ∈ WL := wlm (in2 (List.mem_of_getElem? (i := 133) (by decide +kernel))) (by decide +kernel)
theorem m374 : (Jvm.Cond.code ({ cls := "ArchTrades$Tape", name := "isBlank", desc := "(B)Z" } : Jvm.MethodName) prog_8_method_13_code (1 : Nat) (Option.some Jvm.ClassFile.FieldType.boolean)) ∈ WL := wlm (in2 (List.mem_of_getElem? (i := 134) (by decide +kernel))) (by decide +kernel)
theorem m375 : (Jvm.Cond.methodLink "ArchTrades$Tape" (30 : Nat) ({ cls := "ArchTrades$Tape", name := "sortOf", desc := "(B)I" } : Jvm.MethodName)) ∈ WL := wlm (in2 (List.mem_of_getElem? (i := 135) (by decide +kernel))) (by decide +kernel)
theorem m376 : (Jvm.Cond.static ({ cls := "ArchTrades$Tape", name := "sortOf", desc := "(B)I" } : Jvm.MethodName)) ∈ WL := wlm (in2 (List.mem_of_getElem? (i := 136) (by decide +kernel))) (by decide +kernel)
theorem m377 : (Jvm.Cond.code ({ cls := "ArchTrades$Tape", name := "sortOf", desc := "(B)I" } : Jvm.MethodName) prog_8_method_14_code (1 : Nat) (Option.some Jvm.ClassFile.FieldType.int)) ∈ WL := wlm (in2 (List.mem_of_getElem? (i := 137) (by decide +kernel))) (by decide +kernel)
theorem m378 : (Jvm.Cond.methodLink "ArchTrades$Reader" (30 : Nat) ({ cls := "ArchTrades$Reader", name := "readTide", desc := "(LArchTrades$Tape;)Z" } : Jvm.MethodName)) ∈ WL := wlm (in2 (List.mem_of_getElem? (i := 138) (by decide +kernel))) (by decide +kernel)
theorem m380 : (Jvm.Cond.instanceMethod ({ cls := "ArchTrades$Reader", name := "readTide", desc := "(LArchTrades$Tape;)Z" } : Jvm.MethodName)) ∈ WL := wlm (in2 (List.mem_of_getElem? (i := 140) (by decide +kernel))) (by decide +kernel)
theorem m381 : (Jvm.Cond.code ({ cls := "ArchTrades$Reader", name := "readTide", desc := "(LArchTrades$Tape;)Z" } : Jvm.MethodName) prog_6_method_6_code (3 : Nat) (Option.some Jvm.ClassFile.FieldType.boolean)) ∈ WL := wlm (in2 (List.mem_of_getElem? (i := 141) (by decide +kernel))) (by decide +kernel)
theorem m383 : (Jvm.Cond.methodLink "ArchTrades$Reader" (46 : Nat) ({ cls := "ArchTrades$Tape", name := "isWord", desc := "(Ljava/lang/String;)Z" } : Jvm.MethodName)) ∈ WL := wlm (in2 (List.mem_of_getElem? (i := 143) (by decide +kernel))) (by decide +kernel)
theorem m384 : (Jvm.Cond.instanceMethod ({ cls := "ArchTrades$Tape", name := "isWord", desc := "(Ljava/lang/String;)Z" } : Jvm.MethodName)) ∈ WL := wlm (in2 (List.mem_of_getElem? (i := 144) (by decide +kernel))) (by decide +kernel)
theorem m385 : (Jvm.Cond.selects "ArchTrades$Tape" ({ cls := "ArchTrades$Tape", name := "isWord", desc := "(Ljava/lang/String;)Z" } : Jvm.MethodName) ({ cls := "ArchTrades$Tape", name := "isWord", desc := "(Ljava/lang/String;)Z" } : Jvm.MethodName)) ∈ WL := wlm (in2 (List.mem_of_getElem? (i := 145) (by decide +kernel))) (by decide +kernel)
theorem m386 : (Jvm.Cond.code ({ cls := "ArchTrades$Tape", name := "isWord", desc := "(Ljava/lang/String;)Z" } : Jvm.MethodName) prog_8_method_12_code (3 : Nat) (Option.some Jvm.ClassFile.FieldType.boolean)) ∈ WL := wlm (in2 (List.mem_of_getElem? (i := 146) (by decide +kernel))) (by decide +kernel)
theorem m387 : (Jvm.Cond.methodLink "ArchTrades$Tape" (37 : Nat) ({ cls := "java/lang/String", name := "length", desc := "()I" } : Jvm.MethodName)) ∈ WL := wlm (in2 (List.mem_of_getElem? (i := 147) (by decide +kernel))) (by decide +kernel)
theorem m388 : (Jvm.Cond.instanceMethod ({ cls := "java/lang/String", name := "length", desc := "()I" } : Jvm.MethodName)) ∈ WL := wlm (in2 (List.mem_of_getElem? (i := 148) (by decide +kernel))) (by decide +kernel)
theorem m389 : (Jvm.Cond.selects "java/lang/String" ({ cls := "java/lang/String", name := "length", desc := "()I" } : Jvm.MethodName) ({ cls := "java/lang/String", name := "length", desc := "()I" } : Jvm.MethodName)) ∈ WL := wlm (in2 (List.mem_of_getElem? (i := 149) (by decide +kernel))) (by decide +kernel)
theorem m390 : (Jvm.Cond.code ({ cls := "java/lang/String", name := "length", desc := "()I" } : Jvm.MethodName) prog_13_method_54_code (1 : Nat) (Option.some Jvm.ClassFile.FieldType.int)) ∈ WL := wlm (in2 (List.mem_of_getElem? (i := 150) (by decide +kernel))) (by decide +kernel)
theorem m391 : (Jvm.Cond.methodLink "java/lang/String" (335 : Nat) ({ cls := "java/lang/String", name := "coder", desc := "()B" } : Jvm.MethodName)) ∈ WL := wlm (in2 (List.mem_of_getElem? (i := 151) (by decide +kernel))) (by decide +kernel)
theorem m392 : (Jvm.Cond.instanceMethod ({ cls := "java/lang/String", name := "coder", desc := "()B" } : Jvm.MethodName)) ∈ WL := wlm (in2 (List.mem_of_getElem? (i := 152) (by decide +kernel))) (by decide +kernel)
theorem m393 : (Jvm.Cond.selects "java/lang/String" ({ cls := "java/lang/String", name := "coder", desc := "()B" } : Jvm.MethodName) ({ cls := "java/lang/String", name := "coder", desc := "()B" } : Jvm.MethodName)) ∈ WL := wlm (in2 (List.mem_of_getElem? (i := 153) (by decide +kernel))) (by decide +kernel)
theorem m394 : (Jvm.Cond.code ({ cls := "java/lang/String", name := "coder", desc := "()B" } : Jvm.MethodName) prog_13_method_152_code (1 : Nat) (Option.some Jvm.ClassFile.FieldType.byte)) ∈ WL := wlm (in2 (List.mem_of_getElem? (i := 154) (by decide +kernel))) (by decide +kernel)
theorem m395 : (Jvm.Cond.fieldLink "java/lang/String" (38 : Nat) "java/lang/String" "COMPACT_STRINGS" "Z") ∈ WL := wlm (in2 (List.mem_of_getElem? (i := 155) (by decide +kernel))) (by decide +kernel)
theorem m397 : (Jvm.Cond.methodLink "ArchTrades$Tape" (42 : Nat) ({ cls := "java/lang/String", name := "charAt", desc := "(I)C" } : Jvm.MethodName)) ∈ WL := wlm (in2 (List.mem_of_getElem? (i := 157) (by decide +kernel))) (by decide +kernel)
theorem m398 : (Jvm.Cond.instanceMethod ({ cls := "java/lang/String", name := "charAt", desc := "(I)C" } : Jvm.MethodName)) ∈ WL := wlm (in2 (List.mem_of_getElem? (i := 158) (by decide +kernel))) (by decide +kernel)
theorem m399 : (Jvm.Cond.selects "java/lang/String" ({ cls := "java/lang/String", name := "charAt", desc := "(I)C" } : Jvm.MethodName) ({ cls := "java/lang/String", name := "charAt", desc := "(I)C" } : Jvm.MethodName)) ∈ WL := wlm (in2 (List.mem_of_getElem? (i := 159) (by decide +kernel))) (by decide +kernel)
theorem m400 : (Jvm.Cond.code ({ cls := "java/lang/String", name := "charAt", desc := "(I)C" } : Jvm.MethodName) prog_13_method_56_code (2 : Nat) (Option.some Jvm.ClassFile.FieldType.char)) ∈ WL := wlm (in2 (List.mem_of_getElem? (i := 160) (by decide +kernel))) (by decide +kernel)
theorem m401 : (Jvm.Cond.methodLink "java/lang/String" (492 : Nat) ({ cls := "java/lang/String", name := "isLatin1", desc := "()Z" } : Jvm.MethodName)) ∈ WL := wlm (in2 (List.mem_of_getElem? (i := 161) (by decide +kernel))) (by decide +kernel)
theorem m402 : (Jvm.Cond.instanceMethod ({ cls := "java/lang/String", name := "isLatin1", desc := "()Z" } : Jvm.MethodName)) ∈ WL := wlm (in2 (List.mem_of_getElem? (i := 162) (by decide +kernel))) (by decide +kernel)
theorem m403 : (Jvm.Cond.selects "java/lang/String" ({ cls := "java/lang/String", name := "isLatin1", desc := "()Z" } : Jvm.MethodName) ({ cls := "java/lang/String", name := "isLatin1", desc := "()Z" } : Jvm.MethodName)) ∈ WL := wlm (in2 (List.mem_of_getElem? (i := 163) (by decide +kernel))) (by decide +kernel)
theorem m404 : (Jvm.Cond.code ({ cls := "java/lang/String", name := "isLatin1", desc := "()Z" } : Jvm.MethodName) prog_13_method_154_code (1 : Nat) (Option.some Jvm.ClassFile.FieldType.boolean)) ∈ WL := wlm (in2 (List.mem_of_getElem? (i := 164) (by decide +kernel))) (by decide +kernel)
theorem m405 : (Jvm.Cond.methodLink "java/lang/String" (495 : Nat) ({ cls := "java/lang/StringLatin1", name := "charAt", desc := "([BI)C" } : Jvm.MethodName)) ∈ WL := wlm (in2 (List.mem_of_getElem? (i := 165) (by decide +kernel))) (by decide +kernel)
theorem m406 : (Jvm.Cond.static ({ cls := "java/lang/StringLatin1", name := "charAt", desc := "([BI)C" } : Jvm.MethodName)) ∈ WL := wlm (in2 (List.mem_of_getElem? (i := 166) (by decide +kernel))) (by decide +kernel)
theorem m407 : (Jvm.Cond.code ({ cls := "java/lang/StringLatin1", name := "charAt", desc := "([BI)C" } : Jvm.MethodName) prog_14_method_2_code (2 : Nat) (Option.some Jvm.ClassFile.FieldType.char)) ∈ WL := wlm (in2 (List.mem_of_getElem? (i := 167) (by decide +kernel))) (by decide +kernel)
theorem m408 : (Jvm.Cond.methodLink "java/lang/StringLatin1" (9 : Nat) ({ cls := "java/lang/String", name := "checkIndex", desc := "(II)V" } : Jvm.MethodName)) ∈ WL := wlm (in2 (List.mem_of_getElem? (i := 168) (by decide +kernel))) (by decide +kernel)
theorem m409 : (Jvm.Cond.static ({ cls := "java/lang/String", name := "checkIndex", desc := "(II)V" } : Jvm.MethodName)) ∈ WL := wlm (in2 (List.mem_of_getElem? (i := 169) (by decide +kernel))) (by decide +kernel)
theorem m410 : (Jvm.Cond.code ({ cls := "java/lang/String", name := "checkIndex", desc := "(II)V" } : Jvm.MethodName) prog_13_method_155_code (2 : Nat) (Option.none : Option Jvm.ClassFile.FieldType)) ∈ WL := wlm (in2 (List.mem_of_getElem? (i := 170) (by decide +kernel))) (by decide +kernel)
theorem m411 : (Jvm.Cond.fieldLink "java/lang/String" (1053 : Nat) "jdk/internal/util/Preconditions" "SIOOBE_FORMATTER" "Ljava/util/function/BiFunction;") ∈ WL := wlm (in2 (List.mem_of_getElem? (i := 171) (by decide +kernel))) (by decide +kernel)
theorem m413 : (Jvm.Cond.methodLink "java/lang/String" (1059 : Nat) ({ cls := "jdk/internal/util/Preconditions", name := "checkIndex", desc := "(IILjava/util/function/BiFunction;)I" } : Jvm.MethodName)) ∈ WL := wlm (in2 (List.mem_of_getElem? (i := 173) (by decide +kernel))) (by decide +kernel)
theorem m414 : (Jvm.Cond.static ({ cls := "jdk/internal/util/Preconditions", name := "checkIndex", desc := "(IILjava/util/function/BiFunction;)I" } : Jvm.MethodName)) ∈ WL := wlm (in2 (List.mem_of_getElem? (i := 174) (by decide +kernel))) (by decide +kernel)
theorem m415 : (Jvm.Cond.code ({ cls := "jdk/internal/util/Preconditions", name := "checkIndex", desc := "(IILjava/util/function/BiFunction;)I" } : Jvm.MethodName) prog_18_method_11_code (3 : Nat) (Option.some Jvm.ClassFile.FieldType.int)) ∈ WL := wlm (in2 (List.mem_of_getElem? (i := 175) (by decide +kernel))) (by decide +kernel)
theorem m416 : (Jvm.Cond.methodLink "java/lang/String" (498 : Nat) ({ cls := "java/lang/StringUTF16", name := "charAt", desc := "([BI)C" } : Jvm.MethodName)) ∈ WL := wlm (in2 (List.mem_of_getElem? (i := 176) (by decide +kernel))) (by decide +kernel)
theorem m417 : (Jvm.Cond.static ({ cls := "java/lang/StringUTF16", name := "charAt", desc := "([BI)C" } : Jvm.MethodName)) ∈ WL := wlm (in2 (List.mem_of_getElem? (i := 177) (by decide +kernel))) (by decide +kernel)
theorem m418 : (Jvm.Cond.code ({ cls := "java/lang/StringUTF16", name := "charAt", desc := "([BI)C" } : Jvm.MethodName) prog_15_method_83_code (2 : Nat) (Option.some Jvm.ClassFile.FieldType.char)) ∈ WL := wlm (in2 (List.mem_of_getElem? (i := 178) (by decide +kernel))) (by decide +kernel)
theorem m419 : (Jvm.Cond.methodLink "java/lang/StringUTF16" (67 : Nat) ({ cls := "java/lang/StringUTF16", name := "checkIndex", desc := "(I[B)V" } : Jvm.MethodName)) ∈ WL := wlm (in2 (List.mem_of_getElem? (i := 179) (by decide +kernel))) (by decide +kernel)
theorem m420 : (Jvm.Cond.static ({ cls := "java/lang/StringUTF16", name := "checkIndex", desc := "(I[B)V" } : Jvm.MethodName)) ∈ WL := wlm (in2 (List.mem_of_getElem? (i := 180) (by decide +kernel))) (by decide +kernel)
theorem m421 : (Jvm.Cond.code ({ cls := "java/lang/StringUTF16", name := "checkIndex", desc := "(I[B)V" } : Jvm.MethodName) prog_15_method_91_code (2 : Nat) (Option.none : Option Jvm.ClassFile.FieldType)) ∈ WL := wlm (in2 (List.mem_of_getElem? (i := 181) (by decide +kernel))) (by decide +kernel)
theorem m422 : (Jvm.Cond.methodLink "java/lang/StringUTF16" (48 : Nat) ({ cls := "java/lang/StringUTF16", name := "length", desc := "([B)I" } : Jvm.MethodName)) ∈ WL := wlm (in2 (List.mem_of_getElem? (i := 182) (by decide +kernel))) (by decide +kernel)
theorem m423 : (Jvm.Cond.static ({ cls := "java/lang/StringUTF16", name := "length", desc := "([B)I" } : Jvm.MethodName)) ∈ WL := wlm (in2 (List.mem_of_getElem? (i := 183) (by decide +kernel))) (by decide +kernel)
theorem m424 : (Jvm.Cond.code ({ cls := "java/lang/StringUTF16", name := "length", desc := "([B)I" } : Jvm.MethodName) prog_15_method_6_code (1 : Nat) (Option.some Jvm.ClassFile.FieldType.int)) ∈ WL := wlm (in2 (List.mem_of_getElem? (i := 184) (by decide +kernel))) (by decide +kernel)
theorem m425 : (Jvm.Cond.methodLink "java/lang/StringUTF16" (414 : Nat) ({ cls := "java/lang/String", name := "checkIndex", desc := "(II)V" } : Jvm.MethodName)) ∈ WL := wlm (in2 (List.mem_of_getElem? (i := 185) (by decide +kernel))) (by decide +kernel)
theorem m426 : (Jvm.Cond.methodLink "java/lang/StringUTF16" (71 : Nat) ({ cls := "java/lang/StringUTF16", name := "getChar", desc := "([BI)C" } : Jvm.MethodName)) ∈ WL := wlm (in2 (List.mem_of_getElem? (i := 186) (by decide +kernel))) (by decide +kernel)
theorem m427 : (Jvm.Cond.static ({ cls := "java/lang/StringUTF16", name := "getChar", desc := "([BI)C" } : Jvm.MethodName)) ∈ WL := wlm (in2 (List.mem_of_getElem? (i := 187) (by decide +kernel))) (by decide +kernel)
theorem m428 : (Jvm.Cond.code ({ cls := "java/lang/StringUTF16", name := "getChar", desc := "([BI)C" } : Jvm.MethodName) prog_15_method_5_code (2 : Nat) (Option.some Jvm.ClassFile.FieldType.char)) ∈ WL := wlm (in2 (List.mem_of_getElem? (i := 188) (by decide +kernel))) (by decide +kernel)
theorem m429 : (Jvm.Cond.fieldLink "java/lang/StringUTF16" (44 : Nat) "java/lang/StringUTF16" "$assertionsDisabled" "Z") ∈ WL := wlm (in2 (List.mem_of_getElem? (i := 189) (by decide +kernel))) (by decide +kernel)
theorem m431 : (Jvm.Cond.fieldLink "java/lang/StringUTF16" (59 : Nat) "java/lang/StringUTF16" "HI_BYTE_SHIFT" "I") ∈ WL := wlm (in2 (List.mem_of_getElem? (i := 191) (by decide +kernel))) (by decide +kernel)
theorem m433 : (Jvm.Cond.fieldLink "java/lang/StringUTF16" (63 : Nat) "java/lang/StringUTF16" "LO_BYTE_SHIFT" "I") ∈ WL := wlm (in2 (List.mem_of_getElem? (i := 193) (by decide +kernel))) (by decide +kernel)
theorem m435 : (Jvm.Cond.methodLink "ArchTrades$Reader" (50 : Nat) ({ cls := "ArchTrades$Reader", name := "faulty", desc := "(I)Z" } : Jvm.MethodName)) ∈ WL := wlm (in2 (List.mem_of_getElem? (i := 195) (by decide +kernel))) (by decide +kernel)
theorem m437 : (Jvm.Cond.instanceMethod ({ cls := "ArchTrades$Reader", name := "faulty", desc := "(I)Z" } : Jvm.MethodName)) ∈ WL := wlm (in2 (List.mem_of_getElem? (i := 197) (by decide +kernel))) (by decide +kernel)
theorem m438 : (Jvm.Cond.code ({ cls := "ArchTrades$Reader", name := "faulty", desc := "(I)Z" } : Jvm.MethodName) prog_6_method_5_code (2 : Nat) (Option.some Jvm.ClassFile.FieldType.boolean)) ∈ WL := wlm (in2 (List.mem_of_getElem? (i := 198) (by decide +kernel))) (by decide +kernel)
theorem m439 : (Jvm.Cond.methodLink "ArchTrades$Reader" (54 : Nat) ({ cls := "ArchTrades$Tape", name := "step", desc := "()V" } : Jvm.MethodName)) ∈ WL := wlm (in2 (List.mem_of_getElem? (i := 199) (by decide +kernel))) (by decide +kernel)
theorem m440 : (Jvm.Cond.methodLink "ArchTrades$Reader" (61 : Nat) ({ cls := "ArchTrades$Reader", name := "readNumber", desc := "(LArchTrades$Tape;II[II)Z" } : Jvm.MethodName)) ∈ WL := wlm (in2 (List.mem_of_getElem? (i := 200) (by decide +kernel))) (by decide +kernel)
theorem m442 : (Jvm.Cond.instanceMethod ({ cls := "ArchTrades$Reader", name := "readNumber", desc := "(LArchTrades$Tape;II[II)Z" } : Jvm.MethodName)) ∈ WL := wlm (in2 (List.mem_of_getElem? (i := 202) (by decide +kernel))) (by decide +kernel)
theorem m443 : (Jvm.Cond.code ({ cls := "ArchTrades$Reader", name := "readNumber", desc := "(LArchTrades$Tape;II[II)Z" } : Jvm.MethodName) prog_6_method_12_code (7 : Nat) (Option.some Jvm.ClassFile.FieldType.boolean)) ∈ WL := wlm (in2 (List.mem_of_getElem? (i := 203) (by decide +kernel))) (by decide +kernel)
theorem m444 : (Jvm.Cond.methodLink "ArchTrades$Reader" (128 : Nat) ({ cls := "ArchTrades$Tape", name := "isNumber", desc := "()Z" } : Jvm.MethodName)) ∈ WL := wlm (in2 (List.mem_of_getElem? (i := 204) (by decide +kernel))) (by decide +kernel)
theorem m445 : (Jvm.Cond.instanceMethod ({ cls := "ArchTrades$Tape", name := "isNumber", desc := "()Z" } : Jvm.MethodName)) ∈ WL := wlm (in2 (List.mem_of_getElem? (i := 205) (by decide +kernel))) (by decide +kernel)
theorem m446 : (Jvm.Cond.selects "ArchTrades$Tape" ({ cls := "ArchTrades$Tape", name := "isNumber", desc := "()Z" } : Jvm.MethodName) ({ cls := "ArchTrades$Tape", name := "isNumber", desc := "()Z" } : Jvm.MethodName)) ∈ WL := wlm (in2 (List.mem_of_getElem? (i := 206) (by decide +kernel))) (by decide +kernel)
theorem m447 : (Jvm.Cond.code ({ cls := "ArchTrades$Tape", name := "isNumber", desc := "()Z" } : Jvm.MethodName) prog_8_method_10_code (1 : Nat) (Option.some Jvm.ClassFile.FieldType.boolean)) ∈ WL := wlm (in2 (List.mem_of_getElem? (i := 207) (by decide +kernel))) (by decide +kernel)
theorem m448 : (Jvm.Cond.methodLink "ArchTrades$Reader" (131 : Nat) ({ cls := "ArchTrades$Tape", name := "numberTold", desc := "()I" } : Jvm.MethodName)) ∈ WL := wlm (in2 (List.mem_of_getElem? (i := 208) (by decide +kernel))) (by decide +kernel)
theorem m449 : (Jvm.Cond.instanceMethod ({ cls := "ArchTrades$Tape", name := "numberTold", desc := "()I" } : Jvm.MethodName)) ∈ WL := wlm (in2 (List.mem_of_getElem? (i := 209) (by decide +kernel))) (by decide +kernel)
theorem m450 : (Jvm.Cond.selects "ArchTrades$Tape" ({ cls := "ArchTrades$Tape", name := "numberTold", desc := "()I" } : Jvm.MethodName) ({ cls := "ArchTrades$Tape", name := "numberTold", desc := "()I" } : Jvm.MethodName)) ∈ WL := wlm (in2 (List.mem_of_getElem? (i := 210) (by decide +kernel))) (by decide +kernel)
theorem m451 : (Jvm.Cond.code ({ cls := "ArchTrades$Tape", name := "numberTold", desc := "()I" } : Jvm.MethodName) prog_8_method_6_code (3 : Nat) (Option.some Jvm.ClassFile.FieldType.int)) ∈ WL := wlm (in2 (List.mem_of_getElem? (i := 211) (by decide +kernel))) (by decide +kernel)
theorem m452 : (Jvm.Cond.methodLink "ArchTrades$Reader" (65 : Nat) ({ cls := "ArchTrades$Reader", name := "readSign", desc := "(LArchTrades$Tape;)Z" } : Jvm.MethodName)) ∈ WL := wlm (in2 (List.mem_of_getElem? (i := 212) (by decide +kernel))) (by decide +kernel)
theorem m454 : (Jvm.Cond.instanceMethod ({ cls := "ArchTrades$Reader", name := "readSign", desc := "(LArchTrades$Tape;)Z" } : Jvm.MethodName)) ∈ WL := wlm (in2 (List.mem_of_getElem? (i := 214) (by decide +kernel))) (by decide +kernel)
theorem m455 : (Jvm.Cond.code ({ cls := "ArchTrades$Reader", name := "readSign", desc := "(LArchTrades$Tape;)Z" } : Jvm.MethodName) prog_6_method_13_code (2 : Nat) (Option.some Jvm.ClassFile.FieldType.boolean)) ∈ WL := wlm (in2 (List.mem_of_getElem? (i := 215) (by decide +kernel))) (by decide +kernel)
theorem m456 : (Jvm.Cond.methodLink "ArchTrades$Reader" (135 : Nat) ({ cls := "ArchTrades$Tape", name := "isSign", desc := "()Z" } : Jvm.MethodName)) ∈ WL := wlm (in2 (List.mem_of_getElem? (i := 216) (by decide +kernel))) (by decide +kernel)
theorem m457 : (Jvm.Cond.instanceMethod ({ cls := "ArchTrades$Tape", name := "isSign", desc := "()Z" } : Jvm.MethodName)) ∈ WL := wlm (in2 (List.mem_of_getElem? (i := 217) (by decide +kernel))) (by decide +kernel)
theorem m458 : (Jvm.Cond.selects "ArchTrades$Tape" ({ cls := "ArchTrades$Tape", name := "isSign", desc := "()Z" } : Jvm.MethodName) ({ cls := "ArchTrades$Tape", name := "isSign", desc := "()Z" } : Jvm.MethodName)) ∈ WL := wlm (in2 (List.mem_of_getElem? (i := 218) (by decide +kernel))) (by decide +kernel)
theorem m459 : (Jvm.Cond.code ({ cls := "ArchTrades$Tape", name := "isSign", desc := "()Z" } : Jvm.MethodName) prog_8_method_11_code (1 : Nat) (Option.some Jvm.ClassFile.FieldType.boolean)) ∈ WL := wlm (in2 (List.mem_of_getElem? (i := 219) (by decide +kernel))) (by decide +kernel)
theorem m460 : (Jvm.Cond.methodLink "ArchTrades$Reader" (34 : Nat) ({ cls := "ArchTrades$Reader", name := "readArches", desc := "(LArchTrades$Tape;)Z" } : Jvm.MethodName)) ∈ WL := wlm (in2 (List.mem_of_getElem? (i := 220) (by decide +kernel))) (by decide +kernel)
theorem m462 : (Jvm.Cond.instanceMethod ({ cls := "ArchTrades$Reader", name := "readArches", desc := "(LArchTrades$Tape;)Z" } : Jvm.MethodName)) ∈ WL := wlm (in2 (List.mem_of_getElem? (i := 222) (by decide +kernel))) (by decide +kernel)
theorem m463 : (Jvm.Cond.code ({ cls := "ArchTrades$Reader", name := "readArches", desc := "(LArchTrades$Tape;)Z" } : Jvm.MethodName) prog_6_method_7_code (3 : Nat) (Option.some Jvm.ClassFile.FieldType.boolean)) ∈ WL := wlm (in2 (List.mem_of_getElem? (i := 223) (by decide +kernel))) (by decide +kernel)
theorem m465 : (Jvm.Cond.methodLink "ArchTrades$Reader" (73 : Nat) ({ cls := "ArchTrades$Reader", name := "readArch", desc := "(LArchTrades$Tape;I)Z" } : Jvm.MethodName)) ∈ WL := wlm (in2 (List.mem_of_getElem? (i := 225) (by decide +kernel))) (by decide +kernel)
theorem m467 : (Jvm.Cond.instanceMethod ({ cls := "ArchTrades$Reader", name := "readArch", desc := "(LArchTrades$Tape;I)Z" } : Jvm.MethodName)) ∈ WL := wlm (in2 (List.mem_of_getElem? (i := 227) (by decide +kernel))) (by decide +kernel)
theorem m468 : (Jvm.Cond.code ({ cls := "ArchTrades$Reader", name := "readArch", desc := "(LArchTrades$Tape;I)Z" } : Jvm.MethodName) prog_6_method_8_code (3 : Nat) (Option.some Jvm.ClassFile.FieldType.boolean)) ∈ WL := wlm (in2 (List.mem_of_getElem? (i := 228) (by decide +kernel))) (by decide +kernel)
theorem m469 : (Jvm.Cond.methodLink "ArchTrades$Reader" (80 : Nat) ({ cls := "ArchTrades$Bridge", name := "charterPlace", desc := "(II)I" } : Jvm.MethodName)) ∈ WL := wlm (in2 (List.mem_of_getElem? (i := 229) (by decide +kernel))) (by decide +kernel)
theorem m470 : (Jvm.Cond.static ({ cls := "ArchTrades$Bridge", name := "charterPlace", desc := "(II)I" } : Jvm.MethodName)) ∈ WL := wlm (in2 (List.mem_of_getElem? (i := 230) (by decide +kernel))) (by decide +kernel)
theorem m471 : (Jvm.Cond.code ({ cls := "ArchTrades$Bridge", name := "charterPlace", desc := "(II)I" } : Jvm.MethodName) prog_4_method_2_code (2 : Nat) (Option.some Jvm.ClassFile.FieldType.int)) ∈ WL := wlm (in2 (List.mem_of_getElem? (i := 231) (by decide +kernel))) (by decide +kernel)
theorem m472 : (Jvm.Cond.methodLink "ArchTrades$Reader" (37 : Nat) ({ cls := "ArchTrades$Reader", name := "readBoats", desc := "(LArchTrades$Tape;)Z" } : Jvm.MethodName)) ∈ WL := wlm (in2 (List.mem_of_getElem? (i := 232) (by decide +kernel))) (by decide +kernel)
theorem m474 : (Jvm.Cond.instanceMethod ({ cls := "ArchTrades$Reader", name := "readBoats", desc := "(LArchTrades$Tape;)Z" } : Jvm.MethodName)) ∈ WL := wlm (in2 (List.mem_of_getElem? (i := 234) (by decide +kernel))) (by decide +kernel)
theorem m475 : (Jvm.Cond.code ({ cls := "ArchTrades$Reader", name := "readBoats", desc := "(LArchTrades$Tape;)Z" } : Jvm.MethodName) prog_6_method_9_code (3 : Nat) (Option.some Jvm.ClassFile.FieldType.boolean)) ∈ WL := wlm (in2 (List.mem_of_getElem? (i := 235) (by decide +kernel))) (by decide +kernel)
theorem m477 : (Jvm.Cond.methodLink "ArchTrades$Reader" (95 : Nat) ({ cls := "ArchTrades$Reader", name := "readBoat", desc := "(LArchTrades$Tape;I)Z" } : Jvm.MethodName)) ∈ WL := wlm (in2 (List.mem_of_getElem? (i := 237) (by decide +kernel))) (by decide +kernel)
theorem m479 : (Jvm.Cond.instanceMethod ({ cls := "ArchTrades$Reader", name := "readBoat", desc := "(LArchTrades$Tape;I)Z" } : Jvm.MethodName)) ∈ WL := wlm (in2 (List.mem_of_getElem? (i := 239) (by decide +kernel))) (by decide +kernel)
theorem m480 : (Jvm.Cond.code ({ cls := "ArchTrades$Reader", name := "readBoat", desc := "(LArchTrades$Tape;I)Z" } : Jvm.MethodName) prog_6_method_10_code (5 : Nat) (Option.some Jvm.ClassFile.FieldType.boolean)) ∈ WL := wlm (in3 (List.mem_of_getElem? (i := 0) (by decide +kernel))) (by decide +kernel)
theorem m481 : (Jvm.Cond.methodLink "ArchTrades$Reader" (102 : Nat) ({ cls := "ArchTrades$Reader", name := "sortTold", desc := "(LArchTrades$Tape;)I" } : Jvm.MethodName)) ∈ WL := wlm (in3 (List.mem_of_getElem? (i := 1) (by decide +kernel))) (by decide +kernel)
theorem m483 : (Jvm.Cond.instanceMethod ({ cls := "ArchTrades$Reader", name := "sortTold", desc := "(LArchTrades$Tape;)I" } : Jvm.MethodName)) ∈ WL := wlm (in3 (List.mem_of_getElem? (i := 3) (by decide +kernel))) (by decide +kernel)
theorem m484 : (Jvm.Cond.code ({ cls := "ArchTrades$Reader", name := "sortTold", desc := "(LArchTrades$Tape;)I" } : Jvm.MethodName) prog_6_method_11_code (2 : Nat) (Option.some Jvm.ClassFile.FieldType.int)) ∈ WL := wlm (in3 (List.mem_of_getElem? (i := 4) (by decide +kernel))) (by decide +kernel)
theorem m490 : (Jvm.Cond.methodLink "ArchTrades$Reader" (115 : Nat) ({ cls := "ArchTrades$Bridge", name := "loadPlace", desc := "(II)I" } : Jvm.MethodName)) ∈ WL := wlm (in3 (List.mem_of_getElem? (i := 10) (by decide +kernel))) (by decide +kernel)
theorem m491 : (Jvm.Cond.static ({ cls := "ArchTrades$Bridge", name := "loadPlace", desc := "(II)I" } : Jvm.MethodName)) ∈ WL := wlm (in3 (List.mem_of_getElem? (i := 11) (by decide +kernel))) (by decide +kernel)
theorem m492 : (Jvm.Cond.code ({ cls := "ArchTrades$Bridge", name := "loadPlace", desc := "(II)I" } : Jvm.MethodName) prog_4_method_3_code (2 : Nat) (Option.some Jvm.ClassFile.FieldType.int)) ∈ WL := wlm (in3 (List.mem_of_getElem? (i := 12) (by decide +kernel))) (by decide +kernel)
theorem m493 : (Jvm.Cond.methodLink "ArchTrades$Reader" (98 : Nat) ({ cls := "ArchTrades$Tape", name := "isEnd", desc := "()Z" } : Jvm.MethodName)) ∈ WL := wlm (in3 (List.mem_of_getElem? (i := 13) (by decide +kernel))) (by decide +kernel)
theorem m494 : (Jvm.Cond.instanceMethod ({ cls := "ArchTrades$Tape", name := "isEnd", desc := "()Z" } : Jvm.MethodName)) ∈ WL := wlm (in3 (List.mem_of_getElem? (i := 14) (by decide +kernel))) (by decide +kernel)
theorem m495 : (Jvm.Cond.selects "ArchTrades$Tape" ({ cls := "ArchTrades$Tape", name := "isEnd", desc := "()Z" } : Jvm.MethodName) ({ cls := "ArchTrades$Tape", name := "isEnd", desc := "()Z" } : Jvm.MethodName)) ∈ WL := wlm (in3 (List.mem_of_getElem? (i := 15) (by decide +kernel))) (by decide +kernel)
theorem m496 : (Jvm.Cond.code ({ cls := "ArchTrades$Tape", name := "isEnd", desc := "()Z" } : Jvm.MethodName) prog_8_method_9_code (1 : Nat) (Option.some Jvm.ClassFile.FieldType.boolean)) ∈ WL := wlm (in3 (List.mem_of_getElem? (i := 16) (by decide +kernel))) (by decide +kernel)
theorem m497 : (Jvm.Cond.methodLink "ArchTrades" (114 : Nat) ({ cls := "ArchTrades$Tape", name := "tokenStart", desc := "()I" } : Jvm.MethodName)) ∈ WL := wlm (in3 (List.mem_of_getElem? (i := 17) (by decide +kernel))) (by decide +kernel)
theorem m498 : (Jvm.Cond.instanceMethod ({ cls := "ArchTrades$Tape", name := "tokenStart", desc := "()I" } : Jvm.MethodName)) ∈ WL := wlm (in3 (List.mem_of_getElem? (i := 18) (by decide +kernel))) (by decide +kernel)
theorem m499 : (Jvm.Cond.selects "ArchTrades$Tape" ({ cls := "ArchTrades$Tape", name := "tokenStart", desc := "()I" } : Jvm.MethodName) ({ cls := "ArchTrades$Tape", name := "tokenStart", desc := "()I" } : Jvm.MethodName)) ∈ WL := wlm (in3 (List.mem_of_getElem? (i := 19) (by decide +kernel))) (by decide +kernel)
theorem m500 : (Jvm.Cond.code ({ cls := "ArchTrades$Tape", name := "tokenStart", desc := "()I" } : Jvm.MethodName) prog_8_method_5_code (1 : Nat) (Option.some Jvm.ClassFile.FieldType.int)) ∈ WL := wlm (in3 (List.mem_of_getElem? (i := 20) (by decide +kernel))) (by decide +kernel)
theorem m501 : (Jvm.Cond.methodLink "ArchTrades" (117 : Nat) ({ cls := "ArchTrades$Tape", name := "clear", desc := "()V" } : Jvm.MethodName)) ∈ WL := wlm (in3 (List.mem_of_getElem? (i := 21) (by decide +kernel))) (by decide +kernel)
theorem m502 : (Jvm.Cond.instanceMethod ({ cls := "ArchTrades$Tape", name := "clear", desc := "()V" } : Jvm.MethodName)) ∈ WL := wlm (in3 (List.mem_of_getElem? (i := 22) (by decide +kernel))) (by decide +kernel)
theorem m503 : (Jvm.Cond.selects "ArchTrades$Tape" ({ cls := "ArchTrades$Tape", name := "clear", desc := "()V" } : Jvm.MethodName) ({ cls := "ArchTrades$Tape", name := "clear", desc := "()V" } : Jvm.MethodName)) ∈ WL := wlm (in3 (List.mem_of_getElem? (i := 23) (by decide +kernel))) (by decide +kernel)
theorem m504 : (Jvm.Cond.code ({ cls := "ArchTrades$Tape", name := "clear", desc := "()V" } : Jvm.MethodName) prog_8_method_3_code (1 : Nat) (Option.none : Option Jvm.ClassFile.FieldType)) ∈ WL := wlm (in3 (List.mem_of_getElem? (i := 24) (by decide +kernel))) (by decide +kernel)
theorem m505 : (Jvm.Cond.methodLink "ArchTrades" (120 : Nat) ({ cls := "ArchTrades$Reader", name := "faultNumber", desc := "()I" } : Jvm.MethodName)) ∈ WL := wlm (in3 (List.mem_of_getElem? (i := 25) (by decide +kernel))) (by decide +kernel)
theorem m506 : (Jvm.Cond.instanceMethod ({ cls := "ArchTrades$Reader", name := "faultNumber", desc := "()I" } : Jvm.MethodName)) ∈ WL := wlm (in3 (List.mem_of_getElem? (i := 26) (by decide +kernel))) (by decide +kernel)
theorem m507 : (Jvm.Cond.selects "ArchTrades$Reader" ({ cls := "ArchTrades$Reader", name := "faultNumber", desc := "()I" } : Jvm.MethodName) ({ cls := "ArchTrades$Reader", name := "faultNumber", desc := "()I" } : Jvm.MethodName)) ∈ WL := wlm (in3 (List.mem_of_getElem? (i := 27) (by decide +kernel))) (by decide +kernel)
theorem m508 : (Jvm.Cond.code ({ cls := "ArchTrades$Reader", name := "faultNumber", desc := "()I" } : Jvm.MethodName) prog_6_method_3_code (1 : Nat) (Option.some Jvm.ClassFile.FieldType.int)) ∈ WL := wlm (in3 (List.mem_of_getElem? (i := 28) (by decide +kernel))) (by decide +kernel)
theorem m509 : (Jvm.Cond.constant "ArchTrades" (127 : Nat) (-1000100 : Int32)) ∈ WL := wlm (in3 (List.mem_of_getElem? (i := 29) (by decide +kernel))) (by decide +kernel)
theorem m510 : (Jvm.Cond.methodLink "ArchTrades" (128 : Nat) ({ cls := "ArchTrades$Reader", name := "result", desc := "()LArchTrades$Bridge;" } : Jvm.MethodName)) ∈ WL := wlm (in3 (List.mem_of_getElem? (i := 30) (by decide +kernel))) (by decide +kernel)
theorem m511 : (Jvm.Cond.instanceMethod ({ cls := "ArchTrades$Reader", name := "result", desc := "()LArchTrades$Bridge;" } : Jvm.MethodName)) ∈ WL := wlm (in3 (List.mem_of_getElem? (i := 31) (by decide +kernel))) (by decide +kernel)
theorem m512 : (Jvm.Cond.selects "ArchTrades$Reader" ({ cls := "ArchTrades$Reader", name := "result", desc := "()LArchTrades$Bridge;" } : Jvm.MethodName) ({ cls := "ArchTrades$Reader", name := "result", desc := "()LArchTrades$Bridge;" } : Jvm.MethodName)) ∈ WL := wlm (in3 (List.mem_of_getElem? (i := 32) (by decide +kernel))) (by decide +kernel)
theorem m513 : (Jvm.Cond.code ({ cls := "ArchTrades$Reader", name := "result", desc := "()LArchTrades$Bridge;" } : Jvm.MethodName) prog_6_method_2_code (1 : Nat) (Option.some (Jvm.ClassFile.FieldType.object "ArchTrades$Bridge"))) ∈ WL := wlm (in3 (List.mem_of_getElem? (i := 33) (by decide +kernel))) (by decide +kernel)
theorem m514 : (Jvm.Cond.methodLink "ArchTrades" (132 : Nat) ({ cls := "ArchTrades$Bridge", name := "become", desc := "(LArchTrades$Bridge;)V" } : Jvm.MethodName)) ∈ WL := wlm (in3 (List.mem_of_getElem? (i := 34) (by decide +kernel))) (by decide +kernel)
theorem m515 : (Jvm.Cond.instanceMethod ({ cls := "ArchTrades$Bridge", name := "become", desc := "(LArchTrades$Bridge;)V" } : Jvm.MethodName)) ∈ WL := wlm (in3 (List.mem_of_getElem? (i := 35) (by decide +kernel))) (by decide +kernel)
theorem m516 : (Jvm.Cond.selects "ArchTrades$Bridge" ({ cls := "ArchTrades$Bridge", name := "become", desc := "(LArchTrades$Bridge;)V" } : Jvm.MethodName) ({ cls := "ArchTrades$Bridge", name := "become", desc := "(LArchTrades$Bridge;)V" } : Jvm.MethodName)) ∈ WL := wlm (in3 (List.mem_of_getElem? (i := 36) (by decide +kernel))) (by decide +kernel)
theorem m517 : (Jvm.Cond.code ({ cls := "ArchTrades$Bridge", name := "become", desc := "(LArchTrades$Bridge;)V" } : Jvm.MethodName) prog_4_method_5_code (2 : Nat) (Option.none : Option Jvm.ClassFile.FieldType)) ∈ WL := wlm (in3 (List.mem_of_getElem? (i := 37) (by decide +kernel))) (by decide +kernel)
theorem m518 : (Jvm.Cond.methodLink "ArchTrades$Bridge" (65 : Nat) ({ cls := "java/lang/System", name := "arraycopy", desc := "(Ljava/lang/Object;ILjava/lang/Object;II)V" } : Jvm.MethodName)) ∈ WL := wlm (in3 (List.mem_of_getElem? (i := 38) (by decide +kernel))) (by decide +kernel)
theorem m519 : (Jvm.Cond.methodLink "ArchTrades" (136 : Nat) ({ cls := "ArchTrades$Acts", name := "forget", desc := "()V" } : Jvm.MethodName)) ∈ WL := wlm (in3 (List.mem_of_getElem? (i := 39) (by decide +kernel))) (by decide +kernel)
theorem m520 : (Jvm.Cond.instanceMethod ({ cls := "ArchTrades$Acts", name := "forget", desc := "()V" } : Jvm.MethodName)) ∈ WL := wlm (in3 (List.mem_of_getElem? (i := 40) (by decide +kernel))) (by decide +kernel)
theorem m521 : (Jvm.Cond.selects "ArchTrades$Acts" ({ cls := "ArchTrades$Acts", name := "forget", desc := "()V" } : Jvm.MethodName) ({ cls := "ArchTrades$Acts", name := "forget", desc := "()V" } : Jvm.MethodName)) ∈ WL := wlm (in3 (List.mem_of_getElem? (i := 41) (by decide +kernel))) (by decide +kernel)
theorem m522 : (Jvm.Cond.code ({ cls := "ArchTrades$Acts", name := "forget", desc := "()V" } : Jvm.MethodName) prog_2_method_3_code (1 : Nat) (Option.none : Option Jvm.ClassFile.FieldType)) ∈ WL := wlm (in3 (List.mem_of_getElem? (i := 42) (by decide +kernel))) (by decide +kernel)
theorem m523 : (Jvm.Cond.methodLink "ArchTradesLaw" (44 : Nat) ({ cls := "ArchTrades", name := "fault", desc := "()I" } : Jvm.MethodName)) ∈ WL := wlm (in3 (List.mem_of_getElem? (i := 43) (by decide +kernel))) (by decide +kernel)
theorem m524 : (Jvm.Cond.instanceMethod ({ cls := "ArchTrades", name := "fault", desc := "()I" } : Jvm.MethodName)) ∈ WL := wlm (in3 (List.mem_of_getElem? (i := 44) (by decide +kernel))) (by decide +kernel)
theorem m525 : (Jvm.Cond.selects "ArchTrades" ({ cls := "ArchTrades", name := "fault", desc := "()I" } : Jvm.MethodName) ({ cls := "ArchTrades", name := "fault", desc := "()I" } : Jvm.MethodName)) ∈ WL := wlm (in3 (List.mem_of_getElem? (i := 45) (by decide +kernel))) (by decide +kernel)
theorem m526 : (Jvm.Cond.code ({ cls := "ArchTrades", name := "fault", desc := "()I" } : Jvm.MethodName) prog_1_method_8_code (1 : Nat) (Option.some Jvm.ClassFile.FieldType.int)) ∈ WL := wlm (in3 (List.mem_of_getElem? (i := 46) (by decide +kernel))) (by decide +kernel)
theorem m527 : (Jvm.Cond.methodLink "ArchTradesLaw" (48 : Nat) ({ cls := "ArchTrades", name := "lend", desc := "(III)I" } : Jvm.MethodName)) ∈ WL := wlm (in3 (List.mem_of_getElem? (i := 47) (by decide +kernel))) (by decide +kernel)
theorem m528 : (Jvm.Cond.instanceMethod ({ cls := "ArchTrades", name := "lend", desc := "(III)I" } : Jvm.MethodName)) ∈ WL := wlm (in3 (List.mem_of_getElem? (i := 48) (by decide +kernel))) (by decide +kernel)
theorem m529 : (Jvm.Cond.selects "ArchTrades" ({ cls := "ArchTrades", name := "lend", desc := "(III)I" } : Jvm.MethodName) ({ cls := "ArchTrades", name := "lend", desc := "(III)I" } : Jvm.MethodName)) ∈ WL := wlm (in3 (List.mem_of_getElem? (i := 49) (by decide +kernel))) (by decide +kernel)
theorem m530 : (Jvm.Cond.code ({ cls := "ArchTrades", name := "lend", desc := "(III)I" } : Jvm.MethodName) prog_1_method_9_code (5 : Nat) (Option.some Jvm.ClassFile.FieldType.int)) ∈ WL := wlm (in3 (List.mem_of_getElem? (i := 50) (by decide +kernel))) (by decide +kernel)
theorem m531 : (Jvm.Cond.methodLink "ArchTrades" (142 : Nat) ({ cls := "ArchTrades$Bridge", name := "isArch", desc := "(I)Z" } : Jvm.MethodName)) ∈ WL := wlm (in3 (List.mem_of_getElem? (i := 51) (by decide +kernel))) (by decide +kernel)
theorem m532 : (Jvm.Cond.instanceMethod ({ cls := "ArchTrades$Bridge", name := "isArch", desc := "(I)Z" } : Jvm.MethodName)) ∈ WL := wlm (in3 (List.mem_of_getElem? (i := 52) (by decide +kernel))) (by decide +kernel)
theorem m533 : (Jvm.Cond.selects "ArchTrades$Bridge" ({ cls := "ArchTrades$Bridge", name := "isArch", desc := "(I)Z" } : Jvm.MethodName) ({ cls := "ArchTrades$Bridge", name := "isArch", desc := "(I)Z" } : Jvm.MethodName)) ∈ WL := wlm (in3 (List.mem_of_getElem? (i := 53) (by decide +kernel))) (by decide +kernel)
theorem m534 : (Jvm.Cond.code ({ cls := "ArchTrades$Bridge", name := "isArch", desc := "(I)Z" } : Jvm.MethodName) prog_4_method_6_code (2 : Nat) (Option.some Jvm.ClassFile.FieldType.boolean)) ∈ WL := wlm (in3 (List.mem_of_getElem? (i := 54) (by decide +kernel))) (by decide +kernel)
theorem m535 : (Jvm.Cond.methodLink "ArchTrades" (145 : Nat) ({ cls := "ArchTrades$Bridge", name := "charterOf", desc := "(II)I" } : Jvm.MethodName)) ∈ WL := wlm (in3 (List.mem_of_getElem? (i := 55) (by decide +kernel))) (by decide +kernel)
theorem m536 : (Jvm.Cond.instanceMethod ({ cls := "ArchTrades$Bridge", name := "charterOf", desc := "(II)I" } : Jvm.MethodName)) ∈ WL := wlm (in3 (List.mem_of_getElem? (i := 56) (by decide +kernel))) (by decide +kernel)
theorem m537 : (Jvm.Cond.selects "ArchTrades$Bridge" ({ cls := "ArchTrades$Bridge", name := "charterOf", desc := "(II)I" } : Jvm.MethodName) ({ cls := "ArchTrades$Bridge", name := "charterOf", desc := "(II)I" } : Jvm.MethodName)) ∈ WL := wlm (in3 (List.mem_of_getElem? (i := 57) (by decide +kernel))) (by decide +kernel)
theorem m538 : (Jvm.Cond.code ({ cls := "ArchTrades$Bridge", name := "charterOf", desc := "(II)I" } : Jvm.MethodName) prog_4_method_10_code (3 : Nat) (Option.some Jvm.ClassFile.FieldType.int)) ∈ WL := wlm (in3 (List.mem_of_getElem? (i := 58) (by decide +kernel))) (by decide +kernel)
theorem m539 : (Jvm.Cond.methodLink "ArchTrades$Bridge" (75 : Nat) ({ cls := "ArchTrades$Bridge", name := "charterPlace", desc := "(II)I" } : Jvm.MethodName)) ∈ WL := wlm (in3 (List.mem_of_getElem? (i := 59) (by decide +kernel))) (by decide +kernel)
theorem m540 : (Jvm.Cond.methodLink "ArchTrades" (149 : Nat) ({ cls := "ArchTrades$Bridge", name := "giveCharter", desc := "(III)V" } : Jvm.MethodName)) ∈ WL := wlm (in3 (List.mem_of_getElem? (i := 60) (by decide +kernel))) (by decide +kernel)
theorem m541 : (Jvm.Cond.instanceMethod ({ cls := "ArchTrades$Bridge", name := "giveCharter", desc := "(III)V" } : Jvm.MethodName)) ∈ WL := wlm (in3 (List.mem_of_getElem? (i := 61) (by decide +kernel))) (by decide +kernel)
theorem m542 : (Jvm.Cond.selects "ArchTrades$Bridge" ({ cls := "ArchTrades$Bridge", name := "giveCharter", desc := "(III)V" } : Jvm.MethodName) ({ cls := "ArchTrades$Bridge", name := "giveCharter", desc := "(III)V" } : Jvm.MethodName)) ∈ WL := wlm (in3 (List.mem_of_getElem? (i := 62) (by decide +kernel))) (by decide +kernel)
theorem m543 : (Jvm.Cond.code ({ cls := "ArchTrades$Bridge", name := "giveCharter", desc := "(III)V" } : Jvm.MethodName) prog_4_method_11_code (4 : Nat) (Option.none : Option Jvm.ClassFile.FieldType)) ∈ WL := wlm (in3 (List.mem_of_getElem? (i := 63) (by decide +kernel))) (by decide +kernel)
theorem m544 : (Jvm.Cond.methodLink "ArchTrades" (152 : Nat) ({ cls := "ArchTrades$Acts", name := "keep", desc := "(IIII)V" } : Jvm.MethodName)) ∈ WL := wlm (in3 (List.mem_of_getElem? (i := 64) (by decide +kernel))) (by decide +kernel)
theorem m545 : (Jvm.Cond.instanceMethod ({ cls := "ArchTrades$Acts", name := "keep", desc := "(IIII)V" } : Jvm.MethodName)) ∈ WL := wlm (in3 (List.mem_of_getElem? (i := 65) (by decide +kernel))) (by decide +kernel)
theorem m546 : (Jvm.Cond.selects "ArchTrades$Acts" ({ cls := "ArchTrades$Acts", name := "keep", desc := "(IIII)V" } : Jvm.MethodName) ({ cls := "ArchTrades$Acts", name := "keep", desc := "(IIII)V" } : Jvm.MethodName)) ∈ WL := wlm (in3 (List.mem_of_getElem? (i := 66) (by decide +kernel))) (by decide +kernel)
theorem m547 : (Jvm.Cond.code ({ cls := "ArchTrades$Acts", name := "keep", desc := "(IIII)V" } : Jvm.MethodName) prog_2_method_4_code (6 : Nat) (Option.none : Option Jvm.ClassFile.FieldType)) ∈ WL := wlm (in3 (List.mem_of_getElem? (i := 67) (by decide +kernel))) (by decide +kernel)
theorem m548 : (Jvm.Cond.methodLink "ArchTradesLaw" (52 : Nat) ({ cls := "ArchTrades", name := "shut", desc := "(II)I" } : Jvm.MethodName)) ∈ WL := wlm (in3 (List.mem_of_getElem? (i := 68) (by decide +kernel))) (by decide +kernel)
theorem m549 : (Jvm.Cond.instanceMethod ({ cls := "ArchTrades", name := "shut", desc := "(II)I" } : Jvm.MethodName)) ∈ WL := wlm (in3 (List.mem_of_getElem? (i := 69) (by decide +kernel))) (by decide +kernel)
theorem m550 : (Jvm.Cond.selects "ArchTrades" ({ cls := "ArchTrades", name := "shut", desc := "(II)I" } : Jvm.MethodName) ({ cls := "ArchTrades", name := "shut", desc := "(II)I" } : Jvm.MethodName)) ∈ WL := wlm (in3 (List.mem_of_getElem? (i := 70) (by decide +kernel))) (by decide +kernel)
theorem m551 : (Jvm.Cond.code ({ cls := "ArchTrades", name := "shut", desc := "(II)I" } : Jvm.MethodName) prog_1_method_10_code (4 : Nat) (Option.some Jvm.ClassFile.FieldType.int)) ∈ WL := wlm (in3 (List.mem_of_getElem? (i := 71) (by decide +kernel))) (by decide +kernel)
theorem m552 : (Jvm.Cond.methodLink "ArchTrades" (159 : Nat) ({ cls := "ArchTrades", name := "bitOf", desc := "(II)I" } : Jvm.MethodName)) ∈ WL := wlm (in3 (List.mem_of_getElem? (i := 72) (by decide +kernel))) (by decide +kernel)
theorem m553 : (Jvm.Cond.static ({ cls := "ArchTrades", name := "bitOf", desc := "(II)I" } : Jvm.MethodName)) ∈ WL := wlm (in3 (List.mem_of_getElem? (i := 73) (by decide +kernel))) (by decide +kernel)
theorem m554 : (Jvm.Cond.code ({ cls := "ArchTrades", name := "bitOf", desc := "(II)I" } : Jvm.MethodName) prog_1_method_40_code (2 : Nat) (Option.some Jvm.ClassFile.FieldType.int)) ∈ WL := wlm (in3 (List.mem_of_getElem? (i := 74) (by decide +kernel))) (by decide +kernel)
theorem m555 : (Jvm.Cond.methodLink "ArchTrades" (162 : Nat) ({ cls := "ArchTrades", name := "withBit", desc := "(III)I" } : Jvm.MethodName)) ∈ WL := wlm (in3 (List.mem_of_getElem? (i := 75) (by decide +kernel))) (by decide +kernel)
theorem m556 : (Jvm.Cond.static ({ cls := "ArchTrades", name := "withBit", desc := "(III)I" } : Jvm.MethodName)) ∈ WL := wlm (in3 (List.mem_of_getElem? (i := 76) (by decide +kernel))) (by decide +kernel)
theorem m557 : (Jvm.Cond.code ({ cls := "ArchTrades", name := "withBit", desc := "(III)I" } : Jvm.MethodName) prog_1_method_41_code (3 : Nat) (Option.some Jvm.ClassFile.FieldType.int)) ∈ WL := wlm (in3 (List.mem_of_getElem? (i := 77) (by decide +kernel))) (by decide +kernel)
theorem m558 : (Jvm.Cond.methodLink "ArchTradesLaw" (57 : Nat) ({ cls := "ArchTrades", name := "pass", desc := "(II)I" } : Jvm.MethodName)) ∈ WL := wlm (in3 (List.mem_of_getElem? (i := 78) (by decide +kernel))) (by decide +kernel)
theorem m559 : (Jvm.Cond.instanceMethod ({ cls := "ArchTrades", name := "pass", desc := "(II)I" } : Jvm.MethodName)) ∈ WL := wlm (in3 (List.mem_of_getElem? (i := 79) (by decide +kernel))) (by decide +kernel)
theorem m560 : (Jvm.Cond.selects "ArchTrades" ({ cls := "ArchTrades", name := "pass", desc := "(II)I" } : Jvm.MethodName) ({ cls := "ArchTrades", name := "pass", desc := "(II)I" } : Jvm.MethodName)) ∈ WL := wlm (in3 (List.mem_of_getElem? (i := 80) (by decide +kernel))) (by decide +kernel)
theorem m561 : (Jvm.Cond.code ({ cls := "ArchTrades", name := "pass", desc := "(II)I" } : Jvm.MethodName) prog_1_method_11_code (4 : Nat) (Option.some Jvm.ClassFile.FieldType.int)) ∈ WL := wlm (in3 (List.mem_of_getElem? (i := 81) (by decide +kernel))) (by decide +kernel)
theorem m562 : (Jvm.Cond.methodLink "ArchTrades" (165 : Nat) ({ cls := "ArchTrades$Bridge", name := "isBoat", desc := "(I)Z" } : Jvm.MethodName)) ∈ WL := wlm (in3 (List.mem_of_getElem? (i := 82) (by decide +kernel))) (by decide +kernel)
theorem m563 : (Jvm.Cond.instanceMethod ({ cls := "ArchTrades$Bridge", name := "isBoat", desc := "(I)Z" } : Jvm.MethodName)) ∈ WL := wlm (in3 (List.mem_of_getElem? (i := 83) (by decide +kernel))) (by decide +kernel)
theorem m564 : (Jvm.Cond.selects "ArchTrades$Bridge" ({ cls := "ArchTrades$Bridge", name := "isBoat", desc := "(I)Z" } : Jvm.MethodName) ({ cls := "ArchTrades$Bridge", name := "isBoat", desc := "(I)Z" } : Jvm.MethodName)) ∈ WL := wlm (in3 (List.mem_of_getElem? (i := 84) (by decide +kernel))) (by decide +kernel)
theorem m565 : (Jvm.Cond.code ({ cls := "ArchTrades$Bridge", name := "isBoat", desc := "(I)Z" } : Jvm.MethodName) prog_4_method_7_code (2 : Nat) (Option.some Jvm.ClassFile.FieldType.boolean)) ∈ WL := wlm (in3 (List.mem_of_getElem? (i := 85) (by decide +kernel))) (by decide +kernel)
theorem m566 : (Jvm.Cond.methodLink "ArchTrades" (168 : Nat) ({ cls := "ArchTrades$Bridge", name := "isGone", desc := "(I)Z" } : Jvm.MethodName)) ∈ WL := wlm (in3 (List.mem_of_getElem? (i := 86) (by decide +kernel))) (by decide +kernel)
theorem m567 : (Jvm.Cond.instanceMethod ({ cls := "ArchTrades$Bridge", name := "isGone", desc := "(I)Z" } : Jvm.MethodName)) ∈ WL := wlm (in3 (List.mem_of_getElem? (i := 87) (by decide +kernel))) (by decide +kernel)
theorem m568 : (Jvm.Cond.selects "ArchTrades$Bridge" ({ cls := "ArchTrades$Bridge", name := "isGone", desc := "(I)Z" } : Jvm.MethodName) ({ cls := "ArchTrades$Bridge", name := "isGone", desc := "(I)Z" } : Jvm.MethodName)) ∈ WL := wlm (in3 (List.mem_of_getElem? (i := 88) (by decide +kernel))) (by decide +kernel)
theorem m569 : (Jvm.Cond.code ({ cls := "ArchTrades$Bridge", name := "isGone", desc := "(I)Z" } : Jvm.MethodName) prog_4_method_9_code (2 : Nat) (Option.some Jvm.ClassFile.FieldType.boolean)) ∈ WL := wlm (in3 (List.mem_of_getElem? (i := 89) (by decide +kernel))) (by decide +kernel)
theorem m571 : (Jvm.Cond.methodLink "ArchTrades" (174 : Nat) ({ cls := "ArchTrades$Bridge", name := "letsBy", desc := "(III)Z" } : Jvm.MethodName)) ∈ WL := wlm (in3 (List.mem_of_getElem? (i := 91) (by decide +kernel))) (by decide +kernel)
theorem m572 : (Jvm.Cond.instanceMethod ({ cls := "ArchTrades$Bridge", name := "letsBy", desc := "(III)Z" } : Jvm.MethodName)) ∈ WL := wlm (in3 (List.mem_of_getElem? (i := 92) (by decide +kernel))) (by decide +kernel)
theorem m573 : (Jvm.Cond.selects "ArchTrades$Bridge" ({ cls := "ArchTrades$Bridge", name := "letsBy", desc := "(III)Z" } : Jvm.MethodName) ({ cls := "ArchTrades$Bridge", name := "letsBy", desc := "(III)Z" } : Jvm.MethodName)) ∈ WL := wlm (in3 (List.mem_of_getElem? (i := 93) (by decide +kernel))) (by decide +kernel)
theorem m574 : (Jvm.Cond.code ({ cls := "ArchTrades$Bridge", name := "letsBy", desc := "(III)Z" } : Jvm.MethodName) prog_4_method_22_code (4 : Nat) (Option.some Jvm.ClassFile.FieldType.boolean)) ∈ WL := wlm (in3 (List.mem_of_getElem? (i := 94) (by decide +kernel))) (by decide +kernel)
theorem m575 : (Jvm.Cond.methodLink "ArchTrades$Bridge" (112 : Nat) ({ cls := "ArchTrades$Bridge", name := "isShut", desc := "(I)Z" } : Jvm.MethodName)) ∈ WL := wlm (in3 (List.mem_of_getElem? (i := 95) (by decide +kernel))) (by decide +kernel)
theorem m576 : (Jvm.Cond.instanceMethod ({ cls := "ArchTrades$Bridge", name := "isShut", desc := "(I)Z" } : Jvm.MethodName)) ∈ WL := wlm (in3 (List.mem_of_getElem? (i := 96) (by decide +kernel))) (by decide +kernel)
theorem m577 : (Jvm.Cond.selects "ArchTrades$Bridge" ({ cls := "ArchTrades$Bridge", name := "isShut", desc := "(I)Z" } : Jvm.MethodName) ({ cls := "ArchTrades$Bridge", name := "isShut", desc := "(I)Z" } : Jvm.MethodName)) ∈ WL := wlm (in3 (List.mem_of_getElem? (i := 97) (by decide +kernel))) (by decide +kernel)
theorem m578 : (Jvm.Cond.code ({ cls := "ArchTrades$Bridge", name := "isShut", desc := "(I)Z" } : Jvm.MethodName) prog_4_method_8_code (2 : Nat) (Option.some Jvm.ClassFile.FieldType.boolean)) ∈ WL := wlm (in3 (List.mem_of_getElem? (i := 98) (by decide +kernel))) (by decide +kernel)
theorem m579 : (Jvm.Cond.methodLink "ArchTrades$Bridge" (115 : Nat) ({ cls := "ArchTrades$Bridge", name := "chartersFor", desc := "(I)I" } : Jvm.MethodName)) ∈ WL := wlm (in3 (List.mem_of_getElem? (i := 99) (by decide +kernel))) (by decide +kernel)
theorem m580 : (Jvm.Cond.instanceMethod ({ cls := "ArchTrades$Bridge", name := "chartersFor", desc := "(I)I" } : Jvm.MethodName)) ∈ WL := wlm (in3 (List.mem_of_getElem? (i := 100) (by decide +kernel))) (by decide +kernel)
theorem m581 : (Jvm.Cond.selects "ArchTrades$Bridge" ({ cls := "ArchTrades$Bridge", name := "chartersFor", desc := "(I)I" } : Jvm.MethodName) ({ cls := "ArchTrades$Bridge", name := "chartersFor", desc := "(I)I" } : Jvm.MethodName)) ∈ WL := wlm (in3 (List.mem_of_getElem? (i := 101) (by decide +kernel))) (by decide +kernel)
theorem m582 : (Jvm.Cond.code ({ cls := "ArchTrades$Bridge", name := "chartersFor", desc := "(I)I" } : Jvm.MethodName) prog_4_method_20_code (3 : Nat) (Option.some Jvm.ClassFile.FieldType.int)) ∈ WL := wlm (in3 (List.mem_of_getElem? (i := 102) (by decide +kernel))) (by decide +kernel)
theorem m583 : (Jvm.Cond.methodLink "ArchTrades$Bridge" (91 : Nat) ({ cls := "ArchTrades$Bridge", name := "tradesOf", desc := "(I)I" } : Jvm.MethodName)) ∈ WL := wlm (in3 (List.mem_of_getElem? (i := 103) (by decide +kernel))) (by decide +kernel)
theorem m585 : (Jvm.Cond.instanceMethod ({ cls := "ArchTrades$Bridge", name := "tradesOf", desc := "(I)I" } : Jvm.MethodName)) ∈ WL := wlm (in3 (List.mem_of_getElem? (i := 105) (by decide +kernel))) (by decide +kernel)
theorem m586 : (Jvm.Cond.code ({ cls := "ArchTrades$Bridge", name := "tradesOf", desc := "(I)I" } : Jvm.MethodName) prog_4_method_15_code (4 : Nat) (Option.some Jvm.ClassFile.FieldType.int)) ∈ WL := wlm (in3 (List.mem_of_getElem? (i := 106) (by decide +kernel))) (by decide +kernel)
theorem m587 : (Jvm.Cond.methodLink "ArchTrades$Bridge" (81 : Nat) ({ cls := "ArchTrades$Bridge", name := "loadOf", desc := "(II)I" } : Jvm.MethodName)) ∈ WL := wlm (in3 (List.mem_of_getElem? (i := 107) (by decide +kernel))) (by decide +kernel)
theorem m588 : (Jvm.Cond.instanceMethod ({ cls := "ArchTrades$Bridge", name := "loadOf", desc := "(II)I" } : Jvm.MethodName)) ∈ WL := wlm (in3 (List.mem_of_getElem? (i := 108) (by decide +kernel))) (by decide +kernel)
theorem m589 : (Jvm.Cond.selects "ArchTrades$Bridge" ({ cls := "ArchTrades$Bridge", name := "loadOf", desc := "(II)I" } : Jvm.MethodName) ({ cls := "ArchTrades$Bridge", name := "loadOf", desc := "(II)I" } : Jvm.MethodName)) ∈ WL := wlm (in3 (List.mem_of_getElem? (i := 109) (by decide +kernel))) (by decide +kernel)
theorem m590 : (Jvm.Cond.code ({ cls := "ArchTrades$Bridge", name := "loadOf", desc := "(II)I" } : Jvm.MethodName) prog_4_method_12_code (3 : Nat) (Option.some Jvm.ClassFile.FieldType.int)) ∈ WL := wlm (in3 (List.mem_of_getElem? (i := 110) (by decide +kernel))) (by decide +kernel)
theorem m591 : (Jvm.Cond.methodLink "ArchTrades$Bridge" (78 : Nat) ({ cls := "ArchTrades$Bridge", name := "loadPlace", desc := "(II)I" } : Jvm.MethodName)) ∈ WL := wlm (in3 (List.mem_of_getElem? (i := 111) (by decide +kernel))) (by decide +kernel)
theorem m593 : (Jvm.Cond.methodLink "ArchTrades$Bridge" (108 : Nat) ({ cls := "ArchTrades$Bridge", name := "isMixed", desc := "(I)Z" } : Jvm.MethodName)) ∈ WL := wlm (in3 (List.mem_of_getElem? (i := 113) (by decide +kernel))) (by decide +kernel)
theorem m594 : (Jvm.Cond.instanceMethod ({ cls := "ArchTrades$Bridge", name := "isMixed", desc := "(I)Z" } : Jvm.MethodName)) ∈ WL := wlm (in3 (List.mem_of_getElem? (i := 114) (by decide +kernel))) (by decide +kernel)
theorem m595 : (Jvm.Cond.selects "ArchTrades$Bridge" ({ cls := "ArchTrades$Bridge", name := "isMixed", desc := "(I)Z" } : Jvm.MethodName) ({ cls := "ArchTrades$Bridge", name := "isMixed", desc := "(I)Z" } : Jvm.MethodName)) ∈ WL := wlm (in3 (List.mem_of_getElem? (i := 115) (by decide +kernel))) (by decide +kernel)
theorem m596 : (Jvm.Cond.code ({ cls := "ArchTrades$Bridge", name := "isMixed", desc := "(I)Z" } : Jvm.MethodName) prog_4_method_16_code (2 : Nat) (Option.some Jvm.ClassFile.FieldType.boolean)) ∈ WL := wlm (in3 (List.mem_of_getElem? (i := 116) (by decide +kernel))) (by decide +kernel)
theorem m597 : (Jvm.Cond.methodLink "ArchTrades$Bridge" (95 : Nat) ({ cls := "java/lang/Integer", name := "bitCount", desc := "(I)I" } : Jvm.MethodName)) ∈ WL := wlm (in3 (List.mem_of_getElem? (i := 117) (by decide +kernel))) (by decide +kernel)
theorem m598 : (Jvm.Cond.static ({ cls := "java/lang/Integer", name := "bitCount", desc := "(I)I" } : Jvm.MethodName)) ∈ WL := wlm (in3 (List.mem_of_getElem? (i := 118) (by decide +kernel))) (by decide +kernel)
theorem m599 : (Jvm.Cond.code ({ cls := "java/lang/Integer", name := "bitCount", desc := "(I)I" } : Jvm.MethodName) prog_11_method_49_code (1 : Nat) (Option.some Jvm.ClassFile.FieldType.int)) ∈ WL := wlm (in3 (List.mem_of_getElem? (i := 119) (by decide +kernel))) (by decide +kernel)
theorem m600 : (Jvm.Cond.constant "java/lang/Integer" (265 : Nat) (1431655765 : Int32)) ∈ WL := wlm (in3 (List.mem_of_getElem? (i := 120) (by decide +kernel))) (by decide +kernel)
theorem m601 : (Jvm.Cond.constant "java/lang/Integer" (266 : Nat) (858993459 : Int32)) ∈ WL := wlm (in3 (List.mem_of_getElem? (i := 121) (by decide +kernel))) (by decide +kernel)
theorem m602 : (Jvm.Cond.constant "java/lang/Integer" (267 : Nat) (252645135 : Int32)) ∈ WL := wlm (in3 (List.mem_of_getElem? (i := 122) (by decide +kernel))) (by decide +kernel)
theorem m603 : (Jvm.Cond.methodLink "ArchTrades$Bridge" (118 : Nat) ({ cls := "ArchTrades$Bridge", name := "sideOf", desc := "(I)I" } : Jvm.MethodName)) ∈ WL := wlm (in3 (List.mem_of_getElem? (i := 123) (by decide +kernel))) (by decide +kernel)
theorem m604 : (Jvm.Cond.instanceMethod ({ cls := "ArchTrades$Bridge", name := "sideOf", desc := "(I)I" } : Jvm.MethodName)) ∈ WL := wlm (in3 (List.mem_of_getElem? (i := 124) (by decide +kernel))) (by decide +kernel)
theorem m605 : (Jvm.Cond.selects "ArchTrades$Bridge" ({ cls := "ArchTrades$Bridge", name := "sideOf", desc := "(I)I" } : Jvm.MethodName) ({ cls := "ArchTrades$Bridge", name := "sideOf", desc := "(I)I" } : Jvm.MethodName)) ∈ WL := wlm (in3 (List.mem_of_getElem? (i := 125) (by decide +kernel))) (by decide +kernel)
theorem m606 : (Jvm.Cond.code ({ cls := "ArchTrades$Bridge", name := "sideOf", desc := "(I)I" } : Jvm.MethodName) prog_4_method_19_code (2 : Nat) (Option.some Jvm.ClassFile.FieldType.int)) ∈ WL := wlm (in3 (List.mem_of_getElem? (i := 126) (by decide +kernel))) (by decide +kernel)
theorem m607 : (Jvm.Cond.methodLink "ArchTrades$Bridge" (121 : Nat) ({ cls := "ArchTrades$Bridge", name := "charterOf", desc := "(II)I" } : Jvm.MethodName)) ∈ WL := wlm (in3 (List.mem_of_getElem? (i := 127) (by decide +kernel))) (by decide +kernel)
theorem m608 : (Jvm.Cond.methodLink "ArchTrades$Bridge" (124 : Nat) ({ cls := "ArchTrades$Bridge", name := "hasRoom", desc := "(III)Z" } : Jvm.MethodName)) ∈ WL := wlm (in3 (List.mem_of_getElem? (i := 128) (by decide +kernel))) (by decide +kernel)
theorem m609 : (Jvm.Cond.instanceMethod ({ cls := "ArchTrades$Bridge", name := "hasRoom", desc := "(III)Z" } : Jvm.MethodName)) ∈ WL := wlm (in3 (List.mem_of_getElem? (i := 129) (by decide +kernel))) (by decide +kernel)
theorem m610 : (Jvm.Cond.selects "ArchTrades$Bridge" ({ cls := "ArchTrades$Bridge", name := "hasRoom", desc := "(III)Z" } : Jvm.MethodName) ({ cls := "ArchTrades$Bridge", name := "hasRoom", desc := "(III)Z" } : Jvm.MethodName)) ∈ WL := wlm (in3 (List.mem_of_getElem? (i := 130) (by decide +kernel))) (by decide +kernel)
theorem m611 : (Jvm.Cond.code ({ cls := "ArchTrades$Bridge", name := "hasRoom", desc := "(III)Z" } : Jvm.MethodName) prog_4_method_21_code (5 : Nat) (Option.some Jvm.ClassFile.FieldType.boolean)) ∈ WL := wlm (in3 (List.mem_of_getElem? (i := 131) (by decide +kernel))) (by decide +kernel)
theorem m612 : (Jvm.Cond.methodLink "ArchTrades" (177 : Nat) ({ cls := "ArchTrades$Bridge", name := "sideOf", desc := "(I)I" } : Jvm.MethodName)) ∈ WL := wlm (in3 (List.mem_of_getElem? (i := 132) (by decide +kernel))) (by decide +kernel)
theorem m613 : (Jvm.Cond.methodLink "ArchTrades" (180 : Nat) ({ cls := "ArchTrades$Bridge", name := "wentIn", desc := "(II)I" } : Jvm.MethodName)) ∈ WL := wlm (in3 (List.mem_of_getElem? (i := 133) (by decide +kernel))) (by decide +kernel)
theorem m614 : (Jvm.Cond.instanceMethod ({ cls := "ArchTrades$Bridge", name := "wentIn", desc := "(II)I" } : Jvm.MethodName)) ∈ WL := wlm (in3 (List.mem_of_getElem? (i := 134) (by decide +kernel))) (by decide +kernel)
theorem m615 : (Jvm.Cond.selects "ArchTrades$Bridge" ({ cls := "ArchTrades$Bridge", name := "wentIn", desc := "(II)I" } : Jvm.MethodName) ({ cls := "ArchTrades$Bridge", name := "wentIn", desc := "(II)I" } : Jvm.MethodName)) ∈ WL := wlm (in3 (List.mem_of_getElem? (i := 135) (by decide +kernel))) (by decide +kernel)
theorem m616 : (Jvm.Cond.code ({ cls := "ArchTrades$Bridge", name := "wentIn", desc := "(II)I" } : Jvm.MethodName) prog_4_method_24_code (3 : Nat) (Option.some Jvm.ClassFile.FieldType.int)) ∈ WL := wlm (in3 (List.mem_of_getElem? (i := 136) (by decide +kernel))) (by decide +kernel)
theorem m617 : (Jvm.Cond.constant "ArchTrades" (183 : Nat) (-1000002 : Int32)) ∈ WL := wlm (in3 (List.mem_of_getElem? (i := 137) (by decide +kernel))) (by decide +kernel)
theorem m618 : (Jvm.Cond.methodLink "ArchTrades" (184 : Nat) ({ cls := "ArchTrades$Bridge", name := "tollOf", desc := "(II)I" } : Jvm.MethodName)) ∈ WL := wlm (in3 (List.mem_of_getElem? (i := 138) (by decide +kernel))) (by decide +kernel)
theorem m619 : (Jvm.Cond.instanceMethod ({ cls := "ArchTrades$Bridge", name := "tollOf", desc := "(II)I" } : Jvm.MethodName)) ∈ WL := wlm (in3 (List.mem_of_getElem? (i := 139) (by decide +kernel))) (by decide +kernel)
theorem m620 : (Jvm.Cond.selects "ArchTrades$Bridge" ({ cls := "ArchTrades$Bridge", name := "tollOf", desc := "(II)I" } : Jvm.MethodName) ({ cls := "ArchTrades$Bridge", name := "tollOf", desc := "(II)I" } : Jvm.MethodName)) ∈ WL := wlm (in3 (List.mem_of_getElem? (i := 140) (by decide +kernel))) (by decide +kernel)
theorem m621 : (Jvm.Cond.code ({ cls := "ArchTrades$Bridge", name := "tollOf", desc := "(II)I" } : Jvm.MethodName) prog_4_method_18_code (4 : Nat) (Option.some Jvm.ClassFile.FieldType.int)) ∈ WL := wlm (in3 (List.mem_of_getElem? (i := 141) (by decide +kernel))) (by decide +kernel)
theorem m622 : (Jvm.Cond.methodLink "ArchTrades$Bridge" (105 : Nat) ({ cls := "ArchTrades$Bridge", name := "allOf", desc := "(I)I" } : Jvm.MethodName)) ∈ WL := wlm (in3 (List.mem_of_getElem? (i := 142) (by decide +kernel))) (by decide +kernel)
theorem m623 : (Jvm.Cond.instanceMethod ({ cls := "ArchTrades$Bridge", name := "allOf", desc := "(I)I" } : Jvm.MethodName)) ∈ WL := wlm (in3 (List.mem_of_getElem? (i := 143) (by decide +kernel))) (by decide +kernel)
theorem m624 : (Jvm.Cond.selects "ArchTrades$Bridge" ({ cls := "ArchTrades$Bridge", name := "allOf", desc := "(I)I" } : Jvm.MethodName) ({ cls := "ArchTrades$Bridge", name := "allOf", desc := "(I)I" } : Jvm.MethodName)) ∈ WL := wlm (in3 (List.mem_of_getElem? (i := 144) (by decide +kernel))) (by decide +kernel)
theorem m625 : (Jvm.Cond.code ({ cls := "ArchTrades$Bridge", name := "allOf", desc := "(I)I" } : Jvm.MethodName) prog_4_method_13_code (4 : Nat) (Option.some Jvm.ClassFile.FieldType.int)) ∈ WL := wlm (in3 (List.mem_of_getElem? (i := 145) (by decide +kernel))) (by decide +kernel)
theorem m626 : (Jvm.Cond.methodLink "ArchTrades" (187 : Nat) ({ cls := "ArchTrades$Bridge", name := "goBy", desc := "(III)V" } : Jvm.MethodName)) ∈ WL := wlm (in3 (List.mem_of_getElem? (i := 146) (by decide +kernel))) (by decide +kernel)
theorem m627 : (Jvm.Cond.instanceMethod ({ cls := "ArchTrades$Bridge", name := "goBy", desc := "(III)V" } : Jvm.MethodName)) ∈ WL := wlm (in3 (List.mem_of_getElem? (i := 147) (by decide +kernel))) (by decide +kernel)
theorem m628 : (Jvm.Cond.selects "ArchTrades$Bridge" ({ cls := "ArchTrades$Bridge", name := "goBy", desc := "(III)V" } : Jvm.MethodName) ({ cls := "ArchTrades$Bridge", name := "goBy", desc := "(III)V" } : Jvm.MethodName)) ∈ WL := wlm (in3 (List.mem_of_getElem? (i := 148) (by decide +kernel))) (by decide +kernel)
theorem m629 : (Jvm.Cond.code ({ cls := "ArchTrades$Bridge", name := "goBy", desc := "(III)V" } : Jvm.MethodName) prog_4_method_25_code (4 : Nat) (Option.none : Option Jvm.ClassFile.FieldType)) ∈ WL := wlm (in3 (List.mem_of_getElem? (i := 149) (by decide +kernel))) (by decide +kernel)
theorem m630 : (Jvm.Cond.methodLink "ArchTrades$Bridge" (128 : Nat) ({ cls := "ArchTrades$Bridge", name := "markWent", desc := "(III)V" } : Jvm.MethodName)) ∈ WL := wlm (in3 (List.mem_of_getElem? (i := 150) (by decide +kernel))) (by decide +kernel)
theorem m632 : (Jvm.Cond.instanceMethod ({ cls := "ArchTrades$Bridge", name := "markWent", desc := "(III)V" } : Jvm.MethodName)) ∈ WL := wlm (in3 (List.mem_of_getElem? (i := 152) (by decide +kernel))) (by decide +kernel)
theorem m633 : (Jvm.Cond.code ({ cls := "ArchTrades$Bridge", name := "markWent", desc := "(III)V" } : Jvm.MethodName) prog_4_method_27_code (5 : Nat) (Option.none : Option Jvm.ClassFile.FieldType)) ∈ WL := wlm (in3 (List.mem_of_getElem? (i := 153) (by decide +kernel))) (by decide +kernel)
theorem m634 : (Jvm.Cond.methodLink "ArchTradesLaw" (61 : Nat) ({ cls := "ArchTrades", name := "split", desc := "(II)I" } : Jvm.MethodName)) ∈ WL := wlm (in3 (List.mem_of_getElem? (i := 154) (by decide +kernel))) (by decide +kernel)
theorem m635 : (Jvm.Cond.instanceMethod ({ cls := "ArchTrades", name := "split", desc := "(II)I" } : Jvm.MethodName)) ∈ WL := wlm (in3 (List.mem_of_getElem? (i := 155) (by decide +kernel))) (by decide +kernel)
theorem m636 : (Jvm.Cond.selects "ArchTrades" ({ cls := "ArchTrades", name := "split", desc := "(II)I" } : Jvm.MethodName) ({ cls := "ArchTrades", name := "split", desc := "(II)I" } : Jvm.MethodName)) ∈ WL := wlm (in3 (List.mem_of_getElem? (i := 156) (by decide +kernel))) (by decide +kernel)
theorem m637 : (Jvm.Cond.code ({ cls := "ArchTrades", name := "split", desc := "(II)I" } : Jvm.MethodName) prog_1_method_12_code (4 : Nat) (Option.some Jvm.ClassFile.FieldType.int)) ∈ WL := wlm (in3 (List.mem_of_getElem? (i := 157) (by decide +kernel))) (by decide +kernel)
theorem m638 : (Jvm.Cond.methodLink "ArchTrades" (190 : Nat) ({ cls := "ArchTrades", name := "isTrade", desc := "(I)Z" } : Jvm.MethodName)) ∈ WL := wlm (in3 (List.mem_of_getElem? (i := 158) (by decide +kernel))) (by decide +kernel)
theorem m639 : (Jvm.Cond.static ({ cls := "ArchTrades", name := "isTrade", desc := "(I)Z" } : Jvm.MethodName)) ∈ WL := wlm (in3 (List.mem_of_getElem? (i := 159) (by decide +kernel))) (by decide +kernel)
theorem m640 : (Jvm.Cond.code ({ cls := "ArchTrades", name := "isTrade", desc := "(I)Z" } : Jvm.MethodName) prog_1_method_36_code (1 : Nat) (Option.some Jvm.ClassFile.FieldType.boolean)) ∈ WL := wlm (in3 (List.mem_of_getElem? (i := 160) (by decide +kernel))) (by decide +kernel)
theorem m641 : (Jvm.Cond.methodLink "ArchTrades" (193 : Nat) ({ cls := "ArchTrades$Bridge", name := "loadOf", desc := "(II)I" } : Jvm.MethodName)) ∈ WL := wlm (in3 (List.mem_of_getElem? (i := 161) (by decide +kernel))) (by decide +kernel)
theorem m642 : (Jvm.Cond.methodLink "ArchTrades" (196 : Nat) ({ cls := "ArchTrades$Bridge", name := "isMixed", desc := "(I)Z" } : Jvm.MethodName)) ∈ WL := wlm (in3 (List.mem_of_getElem? (i := 162) (by decide +kernel))) (by decide +kernel)
theorem m643 : (Jvm.Cond.methodLink "ArchTrades" (202 : Nat) ({ cls := "ArchTrades$Bridge", name := "splitOff", desc := "(II)I" } : Jvm.MethodName)) ∈ WL := wlm (in3 (List.mem_of_getElem? (i := 163) (by decide +kernel))) (by decide +kernel)
theorem m644 : (Jvm.Cond.instanceMethod ({ cls := "ArchTrades$Bridge", name := "splitOff", desc := "(II)I" } : Jvm.MethodName)) ∈ WL := wlm (in3 (List.mem_of_getElem? (i := 164) (by decide +kernel))) (by decide +kernel)
theorem m645 : (Jvm.Cond.selects "ArchTrades$Bridge" ({ cls := "ArchTrades$Bridge", name := "splitOff", desc := "(II)I" } : Jvm.MethodName) ({ cls := "ArchTrades$Bridge", name := "splitOff", desc := "(II)I" } : Jvm.MethodName)) ∈ WL := wlm (in3 (List.mem_of_getElem? (i := 165) (by decide +kernel))) (by decide +kernel)
theorem m646 : (Jvm.Cond.code ({ cls := "ArchTrades$Bridge", name := "splitOff", desc := "(II)I" } : Jvm.MethodName) prog_4_method_28_code (5 : Nat) (Option.some Jvm.ClassFile.FieldType.int)) ∈ WL := wlm (in3 (List.mem_of_getElem? (i := 166) (by decide +kernel))) (by decide +kernel)
theorem m647 : (Jvm.Cond.methodLink "ArchTradesLaw" (65 : Nat) ({ cls := "ArchTrades", name := "hour", desc := "()I" } : Jvm.MethodName)) ∈ WL := wlm (in3 (List.mem_of_getElem? (i := 167) (by decide +kernel))) (by decide +kernel)
theorem m648 : (Jvm.Cond.instanceMethod ({ cls := "ArchTrades", name := "hour", desc := "()I" } : Jvm.MethodName)) ∈ WL := wlm (in3 (List.mem_of_getElem? (i := 168) (by decide +kernel))) (by decide +kernel)
theorem m649 : (Jvm.Cond.selects "ArchTrades" ({ cls := "ArchTrades", name := "hour", desc := "()I" } : Jvm.MethodName) ({ cls := "ArchTrades", name := "hour", desc := "()I" } : Jvm.MethodName)) ∈ WL := wlm (in3 (List.mem_of_getElem? (i := 169) (by decide +kernel))) (by decide +kernel)
theorem m650 : (Jvm.Cond.code ({ cls := "ArchTrades", name := "hour", desc := "()I" } : Jvm.MethodName) prog_1_method_13_code (1 : Nat) (Option.some Jvm.ClassFile.FieldType.int)) ∈ WL := wlm (in3 (List.mem_of_getElem? (i := 170) (by decide +kernel))) (by decide +kernel)
theorem m651 : (Jvm.Cond.methodLink "ArchTradesLaw" (69 : Nat) ({ cls := "ArchTrades", name := "undo", desc := "()I" } : Jvm.MethodName)) ∈ WL := wlm (in3 (List.mem_of_getElem? (i := 171) (by decide +kernel))) (by decide +kernel)
theorem m652 : (Jvm.Cond.instanceMethod ({ cls := "ArchTrades", name := "undo", desc := "()I" } : Jvm.MethodName)) ∈ WL := wlm (in3 (List.mem_of_getElem? (i := 172) (by decide +kernel))) (by decide +kernel)
theorem m653 : (Jvm.Cond.selects "ArchTrades" ({ cls := "ArchTrades", name := "undo", desc := "()I" } : Jvm.MethodName) ({ cls := "ArchTrades", name := "undo", desc := "()I" } : Jvm.MethodName)) ∈ WL := wlm (in3 (List.mem_of_getElem? (i := 173) (by decide +kernel))) (by decide +kernel)
theorem m654 : (Jvm.Cond.code ({ cls := "ArchTrades", name := "undo", desc := "()I" } : Jvm.MethodName) prog_1_method_14_code (1 : Nat) (Option.some Jvm.ClassFile.FieldType.int)) ∈ WL := wlm (in3 (List.mem_of_getElem? (i := 174) (by decide +kernel))) (by decide +kernel)
theorem m655 : (Jvm.Cond.methodLink "ArchTrades" (209 : Nat) ({ cls := "ArchTrades$Acts", name := "kept", desc := "()I" } : Jvm.MethodName)) ∈ WL := wlm (in3 (List.mem_of_getElem? (i := 175) (by decide +kernel))) (by decide +kernel)
theorem m656 : (Jvm.Cond.instanceMethod ({ cls := "ArchTrades$Acts", name := "kept", desc := "()I" } : Jvm.MethodName)) ∈ WL := wlm (in3 (List.mem_of_getElem? (i := 176) (by decide +kernel))) (by decide +kernel)
theorem m657 : (Jvm.Cond.selects "ArchTrades$Acts" ({ cls := "ArchTrades$Acts", name := "kept", desc := "()I" } : Jvm.MethodName) ({ cls := "ArchTrades$Acts", name := "kept", desc := "()I" } : Jvm.MethodName)) ∈ WL := wlm (in3 (List.mem_of_getElem? (i := 177) (by decide +kernel))) (by decide +kernel)
theorem m658 : (Jvm.Cond.code ({ cls := "ArchTrades$Acts", name := "kept", desc := "()I" } : Jvm.MethodName) prog_2_method_2_code (1 : Nat) (Option.some Jvm.ClassFile.FieldType.int)) ∈ WL := wlm (in3 (List.mem_of_getElem? (i := 178) (by decide +kernel))) (by decide +kernel)
theorem m659 : (Jvm.Cond.methodLink "ArchTrades" (212 : Nat) ({ cls := "ArchTrades$Acts", name := "takeBack", desc := "(LArchTrades$Bridge;)V" } : Jvm.MethodName)) ∈ WL := wlm (in3 (List.mem_of_getElem? (i := 179) (by decide +kernel))) (by decide +kernel)
theorem m660 : (Jvm.Cond.instanceMethod ({ cls := "ArchTrades$Acts", name := "takeBack", desc := "(LArchTrades$Bridge;)V" } : Jvm.MethodName)) ∈ WL := wlm (in3 (List.mem_of_getElem? (i := 180) (by decide +kernel))) (by decide +kernel)
theorem m661 : (Jvm.Cond.selects "ArchTrades$Acts" ({ cls := "ArchTrades$Acts", name := "takeBack", desc := "(LArchTrades$Bridge;)V" } : Jvm.MethodName) ({ cls := "ArchTrades$Acts", name := "takeBack", desc := "(LArchTrades$Bridge;)V" } : Jvm.MethodName)) ∈ WL := wlm (in3 (List.mem_of_getElem? (i := 181) (by decide +kernel))) (by decide +kernel)
theorem m662 : (Jvm.Cond.code ({ cls := "ArchTrades$Acts", name := "takeBack", desc := "(LArchTrades$Bridge;)V" } : Jvm.MethodName) prog_2_method_5_code (6 : Nat) (Option.none : Option Jvm.ClassFile.FieldType)) ∈ WL := wlm (in3 (List.mem_of_getElem? (i := 182) (by decide +kernel))) (by decide +kernel)
theorem m663 : (Jvm.Cond.methodLink "ArchTrades$Acts" (29 : Nat) ({ cls := "ArchTrades$Bridge", name := "giveCharter", desc := "(III)V" } : Jvm.MethodName)) ∈ WL := wlm (in3 (List.mem_of_getElem? (i := 183) (by decide +kernel))) (by decide +kernel)
theorem m665 : (Jvm.Cond.methodLink "ArchTrades$Acts" (44 : Nat) ({ cls := "ArchTrades$Bridge", name := "comeBack", desc := "(III)V" } : Jvm.MethodName)) ∈ WL := wlm (in3 (List.mem_of_getElem? (i := 185) (by decide +kernel))) (by decide +kernel)
theorem m666 : (Jvm.Cond.instanceMethod ({ cls := "ArchTrades$Bridge", name := "comeBack", desc := "(III)V" } : Jvm.MethodName)) ∈ WL := wlm (in3 (List.mem_of_getElem? (i := 186) (by decide +kernel))) (by decide +kernel)
theorem m667 : (Jvm.Cond.selects "ArchTrades$Bridge" ({ cls := "ArchTrades$Bridge", name := "comeBack", desc := "(III)V" } : Jvm.MethodName) ({ cls := "ArchTrades$Bridge", name := "comeBack", desc := "(III)V" } : Jvm.MethodName)) ∈ WL := wlm (in3 (List.mem_of_getElem? (i := 187) (by decide +kernel))) (by decide +kernel)
theorem m668 : (Jvm.Cond.code ({ cls := "ArchTrades$Bridge", name := "comeBack", desc := "(III)V" } : Jvm.MethodName) prog_4_method_26_code (4 : Nat) (Option.none : Option Jvm.ClassFile.FieldType)) ∈ WL := wlm (in3 (List.mem_of_getElem? (i := 188) (by decide +kernel))) (by decide +kernel)
theorem m669 : (Jvm.Cond.methodLink "ArchTrades$Acts" (47 : Nat) ({ cls := "ArchTrades$Bridge", name := "joinLast", desc := "(II)V" } : Jvm.MethodName)) ∈ WL := wlm (in3 (List.mem_of_getElem? (i := 189) (by decide +kernel))) (by decide +kernel)
theorem m670 : (Jvm.Cond.instanceMethod ({ cls := "ArchTrades$Bridge", name := "joinLast", desc := "(II)V" } : Jvm.MethodName)) ∈ WL := wlm (in3 (List.mem_of_getElem? (i := 190) (by decide +kernel))) (by decide +kernel)
theorem m671 : (Jvm.Cond.selects "ArchTrades$Bridge" ({ cls := "ArchTrades$Bridge", name := "joinLast", desc := "(II)V" } : Jvm.MethodName) ({ cls := "ArchTrades$Bridge", name := "joinLast", desc := "(II)V" } : Jvm.MethodName)) ∈ WL := wlm (in3 (List.mem_of_getElem? (i := 191) (by decide +kernel))) (by decide +kernel)
theorem m672 : (Jvm.Cond.code ({ cls := "ArchTrades$Bridge", name := "joinLast", desc := "(II)V" } : Jvm.MethodName) prog_4_method_29_code (3 : Nat) (Option.none : Option Jvm.ClassFile.FieldType)) ∈ WL := wlm (in3 (List.mem_of_getElem? (i := 192) (by decide +kernel))) (by decide +kernel)
theorem m673 : (Jvm.Cond.methodLink "ArchTradesLaw" (73 : Nat) ({ cls := "ArchTrades", name := "arch", desc := "(II)I" } : Jvm.MethodName)) ∈ WL := wlm (in3 (List.mem_of_getElem? (i := 193) (by decide +kernel))) (by decide +kernel)
theorem m674 : (Jvm.Cond.instanceMethod ({ cls := "ArchTrades", name := "arch", desc := "(II)I" } : Jvm.MethodName)) ∈ WL := wlm (in3 (List.mem_of_getElem? (i := 194) (by decide +kernel))) (by decide +kernel)
theorem m675 : (Jvm.Cond.selects "ArchTrades" ({ cls := "ArchTrades", name := "arch", desc := "(II)I" } : Jvm.MethodName) ({ cls := "ArchTrades", name := "arch", desc := "(II)I" } : Jvm.MethodName)) ∈ WL := wlm (in3 (List.mem_of_getElem? (i := 195) (by decide +kernel))) (by decide +kernel)
theorem m676 : (Jvm.Cond.code ({ cls := "ArchTrades", name := "arch", desc := "(II)I" } : Jvm.MethodName) prog_1_method_15_code (3 : Nat) (Option.some Jvm.ClassFile.FieldType.int)) ∈ WL := wlm (in3 (List.mem_of_getElem? (i := 196) (by decide +kernel))) (by decide +kernel)
theorem m677 : (Jvm.Cond.methodLink "ArchTradesLaw" (77 : Nat) ({ cls := "ArchTrades", name := "boat", desc := "(II)I" } : Jvm.MethodName)) ∈ WL := wlm (in3 (List.mem_of_getElem? (i := 197) (by decide +kernel))) (by decide +kernel)
theorem m678 : (Jvm.Cond.instanceMethod ({ cls := "ArchTrades", name := "boat", desc := "(II)I" } : Jvm.MethodName)) ∈ WL := wlm (in3 (List.mem_of_getElem? (i := 198) (by decide +kernel))) (by decide +kernel)
theorem m679 : (Jvm.Cond.selects "ArchTrades" ({ cls := "ArchTrades", name := "boat", desc := "(II)I" } : Jvm.MethodName) ({ cls := "ArchTrades", name := "boat", desc := "(II)I" } : Jvm.MethodName)) ∈ WL := wlm (in3 (List.mem_of_getElem? (i := 199) (by decide +kernel))) (by decide +kernel)
theorem m680 : (Jvm.Cond.code ({ cls := "ArchTrades", name := "boat", desc := "(II)I" } : Jvm.MethodName) prog_1_method_16_code (3 : Nat) (Option.some Jvm.ClassFile.FieldType.int)) ∈ WL := wlm (in3 (List.mem_of_getElem? (i := 200) (by decide +kernel))) (by decide +kernel)
theorem m681 : (Jvm.Cond.methodLink "ArchTrades" (228 : Nat) ({ cls := "ArchTrades$Bridge", name := "portersOf", desc := "(I)I" } : Jvm.MethodName)) ∈ WL := wlm (in3 (List.mem_of_getElem? (i := 201) (by decide +kernel))) (by decide +kernel)
theorem m682 : (Jvm.Cond.instanceMethod ({ cls := "ArchTrades$Bridge", name := "portersOf", desc := "(I)I" } : Jvm.MethodName)) ∈ WL := wlm (in3 (List.mem_of_getElem? (i := 202) (by decide +kernel))) (by decide +kernel)
theorem m683 : (Jvm.Cond.selects "ArchTrades$Bridge" ({ cls := "ArchTrades$Bridge", name := "portersOf", desc := "(I)I" } : Jvm.MethodName) ({ cls := "ArchTrades$Bridge", name := "portersOf", desc := "(I)I" } : Jvm.MethodName)) ∈ WL := wlm (in3 (List.mem_of_getElem? (i := 203) (by decide +kernel))) (by decide +kernel)
theorem m684 : (Jvm.Cond.code ({ cls := "ArchTrades$Bridge", name := "portersOf", desc := "(I)I" } : Jvm.MethodName) prog_4_method_17_code (4 : Nat) (Option.some Jvm.ClassFile.FieldType.int)) ∈ WL := wlm (in3 (List.mem_of_getElem? (i := 204) (by decide +kernel))) (by decide +kernel)
theorem m685 : (Jvm.Cond.methodLink "ArchTrades$Bridge" (100 : Nat) ({ cls := "java/lang/Math", name := "max", desc := "(II)I" } : Jvm.MethodName)) ∈ WL := wlm (in3 (List.mem_of_getElem? (i := 205) (by decide +kernel))) (by decide +kernel)
theorem m686 : (Jvm.Cond.static ({ cls := "java/lang/Math", name := "max", desc := "(II)I" } : Jvm.MethodName)) ∈ WL := wlm (in3 (List.mem_of_getElem? (i := 206) (by decide +kernel))) (by decide +kernel)
theorem m687 : (Jvm.Cond.code ({ cls := "java/lang/Math", name := "max", desc := "(II)I" } : Jvm.MethodName) prog_12_method_65_code (2 : Nat) (Option.some Jvm.ClassFile.FieldType.int)) ∈ WL := wlm (in3 (List.mem_of_getElem? (i := 207) (by decide +kernel))) (by decide +kernel)
theorem m688 : (Jvm.Cond.methodLink "ArchTradesLaw" (81 : Nat) ({ cls := "ArchTrades", name := "may", desc := "(II)I" } : Jvm.MethodName)) ∈ WL := wlm (in3 (List.mem_of_getElem? (i := 208) (by decide +kernel))) (by decide +kernel)
theorem m689 : (Jvm.Cond.instanceMethod ({ cls := "ArchTrades", name := "may", desc := "(II)I" } : Jvm.MethodName)) ∈ WL := wlm (in3 (List.mem_of_getElem? (i := 209) (by decide +kernel))) (by decide +kernel)
theorem m690 : (Jvm.Cond.selects "ArchTrades" ({ cls := "ArchTrades", name := "may", desc := "(II)I" } : Jvm.MethodName) ({ cls := "ArchTrades", name := "may", desc := "(II)I" } : Jvm.MethodName)) ∈ WL := wlm (in3 (List.mem_of_getElem? (i := 210) (by decide +kernel))) (by decide +kernel)
theorem m691 : (Jvm.Cond.code ({ cls := "ArchTrades", name := "may", desc := "(II)I" } : Jvm.MethodName) prog_1_method_17_code (5 : Nat) (Option.some Jvm.ClassFile.FieldType.int)) ∈ WL := wlm (in3 (List.mem_of_getElem? (i := 211) (by decide +kernel))) (by decide +kernel)
theorem m692 : (Jvm.Cond.methodLink "ArchTrades" (231 : Nat) ({ cls := "ArchTrades", name := "isHour", desc := "(I)Z" } : Jvm.MethodName)) ∈ WL := wlm (in3 (List.mem_of_getElem? (i := 212) (by decide +kernel))) (by decide +kernel)
theorem m693 : (Jvm.Cond.static ({ cls := "ArchTrades", name := "isHour", desc := "(I)Z" } : Jvm.MethodName)) ∈ WL := wlm (in3 (List.mem_of_getElem? (i := 213) (by decide +kernel))) (by decide +kernel)
theorem m694 : (Jvm.Cond.code ({ cls := "ArchTrades", name := "isHour", desc := "(I)Z" } : Jvm.MethodName) prog_1_method_37_code (1 : Nat) (Option.some Jvm.ClassFile.FieldType.boolean)) ∈ WL := wlm (in3 (List.mem_of_getElem? (i := 214) (by decide +kernel))) (by decide +kernel)
theorem m695 : (Jvm.Cond.methodLink "ArchTradesLaw" (85 : Nat) ({ cls := "ArchTrades", name := "most", desc := "(III)I" } : Jvm.MethodName)) ∈ WL := wlm (in3 (List.mem_of_getElem? (i := 215) (by decide +kernel))) (by decide +kernel)
theorem m696 : (Jvm.Cond.instanceMethod ({ cls := "ArchTrades", name := "most", desc := "(III)I" } : Jvm.MethodName)) ∈ WL := wlm (in3 (List.mem_of_getElem? (i := 216) (by decide +kernel))) (by decide +kernel)
theorem m697 : (Jvm.Cond.selects "ArchTrades" ({ cls := "ArchTrades", name := "most", desc := "(III)I" } : Jvm.MethodName) ({ cls := "ArchTrades", name := "most", desc := "(III)I" } : Jvm.MethodName)) ∈ WL := wlm (in3 (List.mem_of_getElem? (i := 217) (by decide +kernel))) (by decide +kernel)
theorem m698 : (Jvm.Cond.code ({ cls := "ArchTrades", name := "most", desc := "(III)I" } : Jvm.MethodName) prog_1_method_18_code (4 : Nat) (Option.some Jvm.ClassFile.FieldType.int)) ∈ WL := wlm (in3 (List.mem_of_getElem? (i := 218) (by decide +kernel))) (by decide +kernel)
theorem m699 : (Jvm.Cond.methodLink "ArchTrades" (234 : Nat) ({ cls := "ArchTrades", name := "areHours", desc := "(II)Z" } : Jvm.MethodName)) ∈ WL := wlm (in3 (List.mem_of_getElem? (i := 219) (by decide +kernel))) (by decide +kernel)
theorem m700 : (Jvm.Cond.static ({ cls := "ArchTrades", name := "areHours", desc := "(II)Z" } : Jvm.MethodName)) ∈ WL := wlm (in3 (List.mem_of_getElem? (i := 220) (by decide +kernel))) (by decide +kernel)
theorem m701 : (Jvm.Cond.code ({ cls := "ArchTrades", name := "areHours", desc := "(II)Z" } : Jvm.MethodName) prog_1_method_38_code (2 : Nat) (Option.some Jvm.ClassFile.FieldType.boolean)) ∈ WL := wlm (in3 (List.mem_of_getElem? (i := 221) (by decide +kernel))) (by decide +kernel)
theorem m702 : (Jvm.Cond.methodLink "ArchTrades" (238 : Nat) ({ cls := "ArchTrades$Foretold", name := "greatest", desc := "(LArchTrades$Bridge;II)I" } : Jvm.MethodName)) ∈ WL := wlm (in3 (List.mem_of_getElem? (i := 222) (by decide +kernel))) (by decide +kernel)
theorem m703 : (Jvm.Cond.instanceMethod ({ cls := "ArchTrades$Foretold", name := "greatest", desc := "(LArchTrades$Bridge;II)I" } : Jvm.MethodName)) ∈ WL := wlm (in3 (List.mem_of_getElem? (i := 223) (by decide +kernel))) (by decide +kernel)
theorem m704 : (Jvm.Cond.selects "ArchTrades$Foretold" ({ cls := "ArchTrades$Foretold", name := "greatest", desc := "(LArchTrades$Bridge;II)I" } : Jvm.MethodName) ({ cls := "ArchTrades$Foretold", name := "greatest", desc := "(LArchTrades$Bridge;II)I" } : Jvm.MethodName)) ∈ WL := wlm (in3 (List.mem_of_getElem? (i := 224) (by decide +kernel))) (by decide +kernel)
theorem m705 : (Jvm.Cond.code ({ cls := "ArchTrades$Foretold", name := "greatest", desc := "(LArchTrades$Bridge;II)I" } : Jvm.MethodName) prog_5_method_2_code (4 : Nat) (Option.some Jvm.ClassFile.FieldType.int)) ∈ WL := wlm (in3 (List.mem_of_getElem? (i := 225) (by decide +kernel))) (by decide +kernel)
theorem m706 : (Jvm.Cond.methodLink "ArchTrades$Foretold" (36 : Nat) ({ cls := "ArchTrades$Foretold", name := "greatestOf", desc := "(LArchTrades$Bridge;III)I" } : Jvm.MethodName)) ∈ WL := wlm (in3 (List.mem_of_getElem? (i := 226) (by decide +kernel))) (by decide +kernel)
theorem m708 : (Jvm.Cond.instanceMethod ({ cls := "ArchTrades$Foretold", name := "greatestOf", desc := "(LArchTrades$Bridge;III)I" } : Jvm.MethodName)) ∈ WL := wlm (in3 (List.mem_of_getElem? (i := 228) (by decide +kernel))) (by decide +kernel)
theorem m709 : (Jvm.Cond.code ({ cls := "ArchTrades$Foretold", name := "greatestOf", desc := "(LArchTrades$Bridge;III)I" } : Jvm.MethodName) prog_5_method_6_code (5 : Nat) (Option.some Jvm.ClassFile.FieldType.int)) ∈ WL := wlm (in3 (List.mem_of_getElem? (i := 229) (by decide +kernel))) (by decide +kernel)
theorem m710 : (Jvm.Cond.methodLink "ArchTrades$Foretold" (51 : Nat) ({ cls := "ArchTrades$Foretold", name := "prepare", desc := "(LArchTrades$Bridge;III)V" } : Jvm.MethodName)) ∈ WL := wlm (in3 (List.mem_of_getElem? (i := 230) (by decide +kernel))) (by decide +kernel)
theorem m712 : (Jvm.Cond.instanceMethod ({ cls := "ArchTrades$Foretold", name := "prepare", desc := "(LArchTrades$Bridge;III)V" } : Jvm.MethodName)) ∈ WL := wlm (in3 (List.mem_of_getElem? (i := 232) (by decide +kernel))) (by decide +kernel)
theorem m713 : (Jvm.Cond.code ({ cls := "ArchTrades$Foretold", name := "prepare", desc := "(LArchTrades$Bridge;III)V" } : Jvm.MethodName) prog_5_method_7_code (9 : Nat) (Option.none : Option Jvm.ClassFile.FieldType)) ∈ WL := wlm (in3 (List.mem_of_getElem? (i := 233) (by decide +kernel))) (by decide +kernel)
theorem m714 : (Jvm.Cond.methodLink "ArchTrades$Foretold" (84 : Nat) ({ cls := "ArchTrades$Bridge", name := "charterOf", desc := "(II)I" } : Jvm.MethodName)) ∈ WL := wlm (in3 (List.mem_of_getElem? (i := 234) (by decide +kernel))) (by decide +kernel)
theorem m715 : (Jvm.Cond.methodLink "ArchTrades$Foretold" (88 : Nat) ({ cls := "ArchTrades$Bridge", name := "chartersFor", desc := "(I)I" } : Jvm.MethodName)) ∈ WL := wlm (in3 (List.mem_of_getElem? (i := 235) (by decide +kernel))) (by decide +kernel)
theorem m716 : (Jvm.Cond.methodLink "ArchTrades$Foretold" (90 : Nat) ({ cls := "ArchTrades$Bridge", name := "isGone", desc := "(I)Z" } : Jvm.MethodName)) ∈ WL := wlm (in3 (List.mem_of_getElem? (i := 236) (by decide +kernel))) (by decide +kernel)
theorem m717 : (Jvm.Cond.methodLink "ArchTrades$Foretold" (40 : Nat) ({ cls := "ArchTrades$Bridge", name := "sideOf", desc := "(I)I" } : Jvm.MethodName)) ∈ WL := wlm (in3 (List.mem_of_getElem? (i := 237) (by decide +kernel))) (by decide +kernel)
theorem m718 : (Jvm.Cond.methodLink "ArchTrades$Foretold" (94 : Nat) ({ cls := "ArchTrades$Bridge", name := "isShut", desc := "(I)Z" } : Jvm.MethodName)) ∈ WL := wlm (in3 (List.mem_of_getElem? (i := 238) (by decide +kernel))) (by decide +kernel)
theorem m719 : (Jvm.Cond.methodLink "ArchTrades$Foretold" (97 : Nat) ({ cls := "ArchTrades$Foretold", name := "roomyHours", desc := "(LArchTrades$Bridge;IIII)I" } : Jvm.MethodName)) ∈ WL := wlm (in3 (List.mem_of_getElem? (i := 239) (by decide +kernel))) (by decide +kernel)
theorem m720 : (Jvm.Cond.static ({ cls := "ArchTrades$Foretold", name := "roomyHours", desc := "(LArchTrades$Bridge;IIII)I" } : Jvm.MethodName)) ∈ WL := wlm (in4 (List.mem_of_getElem? (i := 0) (by decide +kernel))) (by decide +kernel)
theorem m721 : (Jvm.Cond.code ({ cls := "ArchTrades$Foretold", name := "roomyHours", desc := "(LArchTrades$Bridge;IIII)I" } : Jvm.MethodName) prog_5_method_8_code (7 : Nat) (Option.some Jvm.ClassFile.FieldType.int)) ∈ WL := wlm (in4 (List.mem_of_getElem? (i := 1) (by decide +kernel))) (by decide +kernel)
theorem m722 : (Jvm.Cond.methodLink "ArchTrades$Foretold" (104 : Nat) ({ cls := "ArchTrades$Bridge", name := "hasRoom", desc := "(III)Z" } : Jvm.MethodName)) ∈ WL := wlm (in4 (List.mem_of_getElem? (i := 2) (by decide +kernel))) (by decide +kernel)
theorem m724 : (Jvm.Cond.methodLink "ArchTrades$Foretold" (62 : Nat) ({ cls := "ArchTrades$Foretold", name := "placedFrom", desc := "(I)I" } : Jvm.MethodName)) ∈ WL := wlm (in4 (List.mem_of_getElem? (i := 4) (by decide +kernel))) (by decide +kernel)
theorem m726 : (Jvm.Cond.instanceMethod ({ cls := "ArchTrades$Foretold", name := "placedFrom", desc := "(I)I" } : Jvm.MethodName)) ∈ WL := wlm (in4 (List.mem_of_getElem? (i := 6) (by decide +kernel))) (by decide +kernel)
theorem m727 : (Jvm.Cond.code ({ cls := "ArchTrades$Foretold", name := "placedFrom", desc := "(I)I" } : Jvm.MethodName) prog_5_method_10_code (4 : Nat) (Option.some Jvm.ClassFile.FieldType.int)) ∈ WL := wlm (in4 (List.mem_of_getElem? (i := 7) (by decide +kernel))) (by decide +kernel)
theorem m728 : (Jvm.Cond.methodLink "ArchTrades$Foretold" (65 : Nat) ({ cls := "java/lang/System", name := "arraycopy", desc := "(Ljava/lang/Object;ILjava/lang/Object;II)V" } : Jvm.MethodName)) ∈ WL := wlm (in4 (List.mem_of_getElem? (i := 8) (by decide +kernel))) (by decide +kernel)
theorem m729 : (Jvm.Cond.methodLink "ArchTrades$Foretold" (115 : Nat) ({ cls := "java/util/Arrays", name := "fill", desc := "([II)V" } : Jvm.MethodName)) ∈ WL := wlm (in4 (List.mem_of_getElem? (i := 9) (by decide +kernel))) (by decide +kernel)
theorem m730 : (Jvm.Cond.methodLink "ArchTrades$Foretold" (124 : Nat) ({ cls := "ArchTrades$Foretold", name := "findPlace", desc := "(II)Z" } : Jvm.MethodName)) ∈ WL := wlm (in4 (List.mem_of_getElem? (i := 10) (by decide +kernel))) (by decide +kernel)
theorem m732 : (Jvm.Cond.instanceMethod ({ cls := "ArchTrades$Foretold", name := "findPlace", desc := "(II)Z" } : Jvm.MethodName)) ∈ WL := wlm (in4 (List.mem_of_getElem? (i := 12) (by decide +kernel))) (by decide +kernel)
theorem m733 : (Jvm.Cond.code ({ cls := "ArchTrades$Foretold", name := "findPlace", desc := "(II)Z" } : Jvm.MethodName) prog_5_method_11_code (6 : Nat) (Option.some Jvm.ClassFile.FieldType.boolean)) ∈ WL := wlm (in4 (List.mem_of_getElem? (i := 13) (by decide +kernel))) (by decide +kernel)
theorem m734 : (Jvm.Cond.methodLink "ArchTrades$Foretold" (128 : Nat) ({ cls := "ArchTrades$Foretold", name := "openHours", desc := "(II)I" } : Jvm.MethodName)) ∈ WL := wlm (in4 (List.mem_of_getElem? (i := 14) (by decide +kernel))) (by decide +kernel)
theorem m736 : (Jvm.Cond.instanceMethod ({ cls := "ArchTrades$Foretold", name := "openHours", desc := "(II)I" } : Jvm.MethodName)) ∈ WL := wlm (in4 (List.mem_of_getElem? (i := 16) (by decide +kernel))) (by decide +kernel)
theorem m737 : (Jvm.Cond.code ({ cls := "ArchTrades$Foretold", name := "openHours", desc := "(II)I" } : Jvm.MethodName) prog_5_method_9_code (3 : Nat) (Option.some Jvm.ClassFile.FieldType.int)) ∈ WL := wlm (in4 (List.mem_of_getElem? (i := 17) (by decide +kernel))) (by decide +kernel)
theorem m739 : (Jvm.Cond.methodLink "ArchTrades$Foretold" (131 : Nat) ({ cls := "ArchTrades$Foretold", name := "givePlace", desc := "(III)V" } : Jvm.MethodName)) ∈ WL := wlm (in4 (List.mem_of_getElem? (i := 19) (by decide +kernel))) (by decide +kernel)
theorem m741 : (Jvm.Cond.instanceMethod ({ cls := "ArchTrades$Foretold", name := "givePlace", desc := "(III)V" } : Jvm.MethodName)) ∈ WL := wlm (in4 (List.mem_of_getElem? (i := 21) (by decide +kernel))) (by decide +kernel)
theorem m742 : (Jvm.Cond.code ({ cls := "ArchTrades$Foretold", name := "givePlace", desc := "(III)V" } : Jvm.MethodName) prog_5_method_12_code (4 : Nat) (Option.none : Option Jvm.ClassFile.FieldType)) ∈ WL := wlm (in4 (List.mem_of_getElem? (i := 22) (by decide +kernel))) (by decide +kernel)
theorem m743 : (Jvm.Cond.methodLink "ArchTrades" (242 : Nat) ({ cls := "ArchTrades$Foretold", name := "whenGoes", desc := "(LArchTrades$Bridge;III)I" } : Jvm.MethodName)) ∈ WL := wlm (in4 (List.mem_of_getElem? (i := 23) (by decide +kernel))) (by decide +kernel)
theorem m744 : (Jvm.Cond.instanceMethod ({ cls := "ArchTrades$Foretold", name := "whenGoes", desc := "(LArchTrades$Bridge;III)I" } : Jvm.MethodName)) ∈ WL := wlm (in4 (List.mem_of_getElem? (i := 24) (by decide +kernel))) (by decide +kernel)
theorem m745 : (Jvm.Cond.selects "ArchTrades$Foretold" ({ cls := "ArchTrades$Foretold", name := "whenGoes", desc := "(LArchTrades$Bridge;III)I" } : Jvm.MethodName) ({ cls := "ArchTrades$Foretold", name := "whenGoes", desc := "(LArchTrades$Bridge;III)I" } : Jvm.MethodName)) ∈ WL := wlm (in4 (List.mem_of_getElem? (i := 25) (by decide +kernel))) (by decide +kernel)
theorem m746 : (Jvm.Cond.code ({ cls := "ArchTrades$Foretold", name := "whenGoes", desc := "(LArchTrades$Bridge;III)I" } : Jvm.MethodName) prog_5_method_3_code (8 : Nat) (Option.some Jvm.ClassFile.FieldType.int)) ∈ WL := wlm (in4 (List.mem_of_getElem? (i := 26) (by decide +kernel))) (by decide +kernel)
theorem m747 : (Jvm.Cond.constant "ArchTrades$Foretold" (46 : Nat) (-1000000 : Int32)) ∈ WL := wlm (in4 (List.mem_of_getElem? (i := 27) (by decide +kernel))) (by decide +kernel)
theorem m748 : (Jvm.Cond.methodLink "ArchTrades$Foretold" (47 : Nat) ({ cls := "ArchTrades$Foretold", name := "settleFirst", desc := "(IIII)I" } : Jvm.MethodName)) ∈ WL := wlm (in4 (List.mem_of_getElem? (i := 28) (by decide +kernel))) (by decide +kernel)
theorem m750 : (Jvm.Cond.instanceMethod ({ cls := "ArchTrades$Foretold", name := "settleFirst", desc := "(IIII)I" } : Jvm.MethodName)) ∈ WL := wlm (in4 (List.mem_of_getElem? (i := 30) (by decide +kernel))) (by decide +kernel)
theorem m751 : (Jvm.Cond.code ({ cls := "ArchTrades$Foretold", name := "settleFirst", desc := "(IIII)I" } : Jvm.MethodName) prog_5_method_13_code (8 : Nat) (Option.some Jvm.ClassFile.FieldType.int)) ∈ WL := wlm (in4 (List.mem_of_getElem? (i := 31) (by decide +kernel))) (by decide +kernel)
theorem m752 : (Jvm.Cond.methodLink "ArchTradesLaw" (89 : Nat) ({ cls := "ArchTrades", name := "anew", desc := "(III)I" } : Jvm.MethodName)) ∈ WL := wlm (in4 (List.mem_of_getElem? (i := 32) (by decide +kernel))) (by decide +kernel)
theorem m753 : (Jvm.Cond.instanceMethod ({ cls := "ArchTrades", name := "anew", desc := "(III)I" } : Jvm.MethodName)) ∈ WL := wlm (in4 (List.mem_of_getElem? (i := 33) (by decide +kernel))) (by decide +kernel)
theorem m754 : (Jvm.Cond.selects "ArchTrades" ({ cls := "ArchTrades", name := "anew", desc := "(III)I" } : Jvm.MethodName) ({ cls := "ArchTrades", name := "anew", desc := "(III)I" } : Jvm.MethodName)) ∈ WL := wlm (in4 (List.mem_of_getElem? (i := 34) (by decide +kernel))) (by decide +kernel)
theorem m755 : (Jvm.Cond.code ({ cls := "ArchTrades", name := "anew", desc := "(III)I" } : Jvm.MethodName) prog_1_method_19_code (5 : Nat) (Option.some Jvm.ClassFile.FieldType.int)) ∈ WL := wlm (in4 (List.mem_of_getElem? (i := 35) (by decide +kernel))) (by decide +kernel)
theorem m756 : (Jvm.Cond.methodLink "ArchTrades" (246 : Nat) ({ cls := "ArchTrades$Foretold", name := "dealAnew", desc := "(LArchTrades$Bridge;II)I" } : Jvm.MethodName)) ∈ WL := wlm (in4 (List.mem_of_getElem? (i := 36) (by decide +kernel))) (by decide +kernel)
theorem m757 : (Jvm.Cond.instanceMethod ({ cls := "ArchTrades$Foretold", name := "dealAnew", desc := "(LArchTrades$Bridge;II)I" } : Jvm.MethodName)) ∈ WL := wlm (in4 (List.mem_of_getElem? (i := 37) (by decide +kernel))) (by decide +kernel)
theorem m758 : (Jvm.Cond.selects "ArchTrades$Foretold" ({ cls := "ArchTrades$Foretold", name := "dealAnew", desc := "(LArchTrades$Bridge;II)I" } : Jvm.MethodName) ({ cls := "ArchTrades$Foretold", name := "dealAnew", desc := "(LArchTrades$Bridge;II)I" } : Jvm.MethodName)) ∈ WL := wlm (in4 (List.mem_of_getElem? (i := 38) (by decide +kernel))) (by decide +kernel)
theorem m759 : (Jvm.Cond.code ({ cls := "ArchTrades$Foretold", name := "dealAnew", desc := "(LArchTrades$Bridge;II)I" } : Jvm.MethodName) prog_5_method_4_code (10 : Nat) (Option.some Jvm.ClassFile.FieldType.int)) ∈ WL := wlm (in4 (List.mem_of_getElem? (i := 39) (by decide +kernel))) (by decide +kernel)
theorem m760 : (Jvm.Cond.methodLink "ArchTrades$Foretold" (55 : Nat) ({ cls := "ArchTrades$Foretold", name := "countHopeful", desc := "()I" } : Jvm.MethodName)) ∈ WL := wlm (in4 (List.mem_of_getElem? (i := 40) (by decide +kernel))) (by decide +kernel)
theorem m762 : (Jvm.Cond.instanceMethod ({ cls := "ArchTrades$Foretold", name := "countHopeful", desc := "()I" } : Jvm.MethodName)) ∈ WL := wlm (in4 (List.mem_of_getElem? (i := 42) (by decide +kernel))) (by decide +kernel)
theorem m763 : (Jvm.Cond.code ({ cls := "ArchTrades$Foretold", name := "countHopeful", desc := "()I" } : Jvm.MethodName) prog_5_method_14_code (6 : Nat) (Option.some Jvm.ClassFile.FieldType.int)) ∈ WL := wlm (in4 (List.mem_of_getElem? (i := 43) (by decide +kernel))) (by decide +kernel)
theorem m764 : (Jvm.Cond.methodLink "ArchTrades$Foretold" (59 : Nat) ({ cls := "ArchTrades$Foretold", name := "sortCharters", desc := "()V" } : Jvm.MethodName)) ∈ WL := wlm (in4 (List.mem_of_getElem? (i := 44) (by decide +kernel))) (by decide +kernel)
theorem m766 : (Jvm.Cond.instanceMethod ({ cls := "ArchTrades$Foretold", name := "sortCharters", desc := "()V" } : Jvm.MethodName)) ∈ WL := wlm (in4 (List.mem_of_getElem? (i := 46) (by decide +kernel))) (by decide +kernel)
theorem m767 : (Jvm.Cond.code ({ cls := "ArchTrades$Foretold", name := "sortCharters", desc := "()V" } : Jvm.MethodName) prog_5_method_15_code (3 : Nat) (Option.none : Option Jvm.ClassFile.FieldType)) ∈ WL := wlm (in4 (List.mem_of_getElem? (i := 47) (by decide +kernel))) (by decide +kernel)
theorem m768 : (Jvm.Cond.methodLink "ArchTrades$Foretold" (135 : Nat) ({ cls := "ArchTrades$Foretold", name := "swapCharters", desc := "(II)V" } : Jvm.MethodName)) ∈ WL := wlm (in4 (List.mem_of_getElem? (i := 48) (by decide +kernel))) (by decide +kernel)
theorem m770 : (Jvm.Cond.instanceMethod ({ cls := "ArchTrades$Foretold", name := "swapCharters", desc := "(II)V" } : Jvm.MethodName)) ∈ WL := wlm (in4 (List.mem_of_getElem? (i := 50) (by decide +kernel))) (by decide +kernel)
theorem m771 : (Jvm.Cond.code ({ cls := "ArchTrades$Foretold", name := "swapCharters", desc := "(II)V" } : Jvm.MethodName) prog_5_method_17_code (4 : Nat) (Option.none : Option Jvm.ClassFile.FieldType)) ∈ WL := wlm (in4 (List.mem_of_getElem? (i := 51) (by decide +kernel))) (by decide +kernel)
theorem m772 : (Jvm.Cond.methodLink "ArchTrades$Foretold" (71 : Nat) ({ cls := "ArchTrades$Foretold", name := "dealNext", desc := "()Z" } : Jvm.MethodName)) ∈ WL := wlm (in4 (List.mem_of_getElem? (i := 52) (by decide +kernel))) (by decide +kernel)
theorem m774 : (Jvm.Cond.instanceMethod ({ cls := "ArchTrades$Foretold", name := "dealNext", desc := "()Z" } : Jvm.MethodName)) ∈ WL := wlm (in4 (List.mem_of_getElem? (i := 54) (by decide +kernel))) (by decide +kernel)
theorem m775 : (Jvm.Cond.code ({ cls := "ArchTrades$Foretold", name := "dealNext", desc := "()Z" } : Jvm.MethodName) prog_5_method_16_code (5 : Nat) (Option.some Jvm.ClassFile.FieldType.boolean)) ∈ WL := wlm (in4 (List.mem_of_getElem? (i := 55) (by decide +kernel))) (by decide +kernel)
theorem m776 : (Jvm.Cond.methodLink "ArchTrades" (249 : Nat) ({ cls := "ArchTrades$Foretold", name := "dealtTo", desc := "(I)I" } : Jvm.MethodName)) ∈ WL := wlm (in4 (List.mem_of_getElem? (i := 56) (by decide +kernel))) (by decide +kernel)
theorem m777 : (Jvm.Cond.instanceMethod ({ cls := "ArchTrades$Foretold", name := "dealtTo", desc := "(I)I" } : Jvm.MethodName)) ∈ WL := wlm (in4 (List.mem_of_getElem? (i := 57) (by decide +kernel))) (by decide +kernel)
theorem m778 : (Jvm.Cond.selects "ArchTrades$Foretold" ({ cls := "ArchTrades$Foretold", name := "dealtTo", desc := "(I)I" } : Jvm.MethodName) ({ cls := "ArchTrades$Foretold", name := "dealtTo", desc := "(I)I" } : Jvm.MethodName)) ∈ WL := wlm (in4 (List.mem_of_getElem? (i := 58) (by decide +kernel))) (by decide +kernel)
theorem m779 : (Jvm.Cond.code ({ cls := "ArchTrades$Foretold", name := "dealtTo", desc := "(I)I" } : Jvm.MethodName) prog_5_method_5_code (2 : Nat) (Option.some Jvm.ClassFile.FieldType.int)) ∈ WL := wlm (in4 (List.mem_of_getElem? (i := 59) (by decide +kernel))) (by decide +kernel)
theorem m780 : (Jvm.Cond.methodLink "ArchTradesLaw" (93 : Nat) ({ cls := "ArchTrades", name := "cut", desc := "(II)I" } : Jvm.MethodName)) ∈ WL := wlm (in4 (List.mem_of_getElem? (i := 60) (by decide +kernel))) (by decide +kernel)
theorem m781 : (Jvm.Cond.instanceMethod ({ cls := "ArchTrades", name := "cut", desc := "(II)I" } : Jvm.MethodName)) ∈ WL := wlm (in4 (List.mem_of_getElem? (i := 61) (by decide +kernel))) (by decide +kernel)
theorem m782 : (Jvm.Cond.selects "ArchTrades" ({ cls := "ArchTrades", name := "cut", desc := "(II)I" } : Jvm.MethodName) ({ cls := "ArchTrades", name := "cut", desc := "(II)I" } : Jvm.MethodName)) ∈ WL := wlm (in4 (List.mem_of_getElem? (i := 62) (by decide +kernel))) (by decide +kernel)
theorem m783 : (Jvm.Cond.code ({ cls := "ArchTrades", name := "cut", desc := "(II)I" } : Jvm.MethodName) prog_1_method_20_code (3 : Nat) (Option.some Jvm.ClassFile.FieldType.int)) ∈ WL := wlm (in4 (List.mem_of_getElem? (i := 63) (by decide +kernel))) (by decide +kernel)
theorem m784 : (Jvm.Cond.methodLink "ArchTrades" (252 : Nat) ({ cls := "ArchTrades$Bridge", name := "tradesCutOff", desc := "(II)I" } : Jvm.MethodName)) ∈ WL := wlm (in4 (List.mem_of_getElem? (i := 64) (by decide +kernel))) (by decide +kernel)
theorem m785 : (Jvm.Cond.instanceMethod ({ cls := "ArchTrades$Bridge", name := "tradesCutOff", desc := "(II)I" } : Jvm.MethodName)) ∈ WL := wlm (in4 (List.mem_of_getElem? (i := 65) (by decide +kernel))) (by decide +kernel)
theorem m786 : (Jvm.Cond.selects "ArchTrades$Bridge" ({ cls := "ArchTrades$Bridge", name := "tradesCutOff", desc := "(II)I" } : Jvm.MethodName) ({ cls := "ArchTrades$Bridge", name := "tradesCutOff", desc := "(II)I" } : Jvm.MethodName)) ∈ WL := wlm (in4 (List.mem_of_getElem? (i := 66) (by decide +kernel))) (by decide +kernel)
theorem m787 : (Jvm.Cond.code ({ cls := "ArchTrades$Bridge", name := "tradesCutOff", desc := "(II)I" } : Jvm.MethodName) prog_4_method_23_code (5 : Nat) (Option.some Jvm.ClassFile.FieldType.int)) ∈ WL := wlm (in4 (List.mem_of_getElem? (i := 67) (by decide +kernel))) (by decide +kernel)
theorem m788 : (Jvm.Cond.methodLink "ArchTradesLaw" (97 : Nat) ({ cls := "ArchTrades", name := "weighed", desc := "(II)I" } : Jvm.MethodName)) ∈ WL := wlm (in4 (List.mem_of_getElem? (i := 68) (by decide +kernel))) (by decide +kernel)
theorem m789 : (Jvm.Cond.instanceMethod ({ cls := "ArchTrades", name := "weighed", desc := "(II)I" } : Jvm.MethodName)) ∈ WL := wlm (in4 (List.mem_of_getElem? (i := 69) (by decide +kernel))) (by decide +kernel)
theorem m790 : (Jvm.Cond.selects "ArchTrades" ({ cls := "ArchTrades", name := "weighed", desc := "(II)I" } : Jvm.MethodName) ({ cls := "ArchTrades", name := "weighed", desc := "(II)I" } : Jvm.MethodName)) ∈ WL := wlm (in4 (List.mem_of_getElem? (i := 70) (by decide +kernel))) (by decide +kernel)
theorem m791 : (Jvm.Cond.code ({ cls := "ArchTrades", name := "weighed", desc := "(II)I" } : Jvm.MethodName) prog_1_method_21_code (3 : Nat) (Option.some Jvm.ClassFile.FieldType.int)) ∈ WL := wlm (in4 (List.mem_of_getElem? (i := 71) (by decide +kernel))) (by decide +kernel)
theorem m792 : (Jvm.Cond.methodLink "ArchTrades" (255 : Nat) ({ cls := "ArchTrades", name := "areTrades", desc := "(II)Z" } : Jvm.MethodName)) ∈ WL := wlm (in4 (List.mem_of_getElem? (i := 72) (by decide +kernel))) (by decide +kernel)
theorem m794 : (Jvm.Cond.instanceMethod ({ cls := "ArchTrades", name := "areTrades", desc := "(II)Z" } : Jvm.MethodName)) ∈ WL := wlm (in4 (List.mem_of_getElem? (i := 74) (by decide +kernel))) (by decide +kernel)
theorem m795 : (Jvm.Cond.code ({ cls := "ArchTrades", name := "areTrades", desc := "(II)Z" } : Jvm.MethodName) prog_1_method_32_code (4 : Nat) (Option.some Jvm.ClassFile.FieldType.boolean)) ∈ WL := wlm (in4 (List.mem_of_getElem? (i := 75) (by decide +kernel))) (by decide +kernel)
theorem m796 : (Jvm.Cond.methodLink "ArchTrades" (298 : Nat) ({ cls := "ArchTrades$Rows", name := "itemAt", desc := "(II)I" } : Jvm.MethodName)) ∈ WL := wlm (in4 (List.mem_of_getElem? (i := 76) (by decide +kernel))) (by decide +kernel)
theorem m797 : (Jvm.Cond.instanceMethod ({ cls := "ArchTrades$Rows", name := "itemAt", desc := "(II)I" } : Jvm.MethodName)) ∈ WL := wlm (in4 (List.mem_of_getElem? (i := 77) (by decide +kernel))) (by decide +kernel)
theorem m798 : (Jvm.Cond.selects "ArchTrades$Rows" ({ cls := "ArchTrades$Rows", name := "itemAt", desc := "(II)I" } : Jvm.MethodName) ({ cls := "ArchTrades$Rows", name := "itemAt", desc := "(II)I" } : Jvm.MethodName)) ∈ WL := wlm (in4 (List.mem_of_getElem? (i := 78) (by decide +kernel))) (by decide +kernel)
theorem m799 : (Jvm.Cond.code ({ cls := "ArchTrades$Rows", name := "itemAt", desc := "(II)I" } : Jvm.MethodName) prog_7_method_8_code (3 : Nat) (Option.some Jvm.ClassFile.FieldType.int)) ∈ WL := wlm (in4 (List.mem_of_getElem? (i := 79) (by decide +kernel))) (by decide +kernel)
theorem m800 : (Jvm.Cond.methodLink "ArchTrades" (258 : Nat) ({ cls := "ArchTrades", name := "falselyDeclared", desc := "(II)I" } : Jvm.MethodName)) ∈ WL := wlm (in4 (List.mem_of_getElem? (i := 80) (by decide +kernel))) (by decide +kernel)
theorem m802 : (Jvm.Cond.instanceMethod ({ cls := "ArchTrades", name := "falselyDeclared", desc := "(II)I" } : Jvm.MethodName)) ∈ WL := wlm (in4 (List.mem_of_getElem? (i := 82) (by decide +kernel))) (by decide +kernel)
theorem m803 : (Jvm.Cond.code ({ cls := "ArchTrades", name := "falselyDeclared", desc := "(II)I" } : Jvm.MethodName) prog_1_method_33_code (6 : Nat) (Option.some Jvm.ClassFile.FieldType.int)) ∈ WL := wlm (in4 (List.mem_of_getElem? (i := 83) (by decide +kernel))) (by decide +kernel)
theorem m804 : (Jvm.Cond.methodLink "ArchTrades" (301 : Nat) ({ cls := "ArchTrades$Bridge", name := "allOf", desc := "(I)I" } : Jvm.MethodName)) ∈ WL := wlm (in4 (List.mem_of_getElem? (i := 84) (by decide +kernel))) (by decide +kernel)
theorem m805 : (Jvm.Cond.fieldLink "ArchTrades" (304 : Nat) "ArchTrades" "WEIGHTS" "[I") ∈ WL := wlm (in4 (List.mem_of_getElem? (i := 85) (by decide +kernel))) (by decide +kernel)
theorem m807 : (Jvm.Cond.methodLink "ArchTrades" (307 : Nat) ({ cls := "ArchTrades$Bridge", name := "weightOf", desc := "(I)I" } : Jvm.MethodName)) ∈ WL := wlm (in4 (List.mem_of_getElem? (i := 87) (by decide +kernel))) (by decide +kernel)
theorem m808 : (Jvm.Cond.instanceMethod ({ cls := "ArchTrades$Bridge", name := "weightOf", desc := "(I)I" } : Jvm.MethodName)) ∈ WL := wlm (in4 (List.mem_of_getElem? (i := 88) (by decide +kernel))) (by decide +kernel)
theorem m809 : (Jvm.Cond.selects "ArchTrades$Bridge" ({ cls := "ArchTrades$Bridge", name := "weightOf", desc := "(I)I" } : Jvm.MethodName) ({ cls := "ArchTrades$Bridge", name := "weightOf", desc := "(I)I" } : Jvm.MethodName)) ∈ WL := wlm (in4 (List.mem_of_getElem? (i := 89) (by decide +kernel))) (by decide +kernel)
theorem m810 : (Jvm.Cond.code ({ cls := "ArchTrades$Bridge", name := "weightOf", desc := "(I)I" } : Jvm.MethodName) prog_4_method_14_code (4 : Nat) (Option.some Jvm.ClassFile.FieldType.int)) ∈ WL := wlm (in4 (List.mem_of_getElem? (i := 90) (by decide +kernel))) (by decide +kernel)
theorem m812 : (Jvm.Cond.methodLink "ArchTradesLaw" (101 : Nat) ({ cls := "ArchTrades", name := "image", desc := "(I)I" } : Jvm.MethodName)) ∈ WL := wlm (in4 (List.mem_of_getElem? (i := 92) (by decide +kernel))) (by decide +kernel)
theorem m813 : (Jvm.Cond.instanceMethod ({ cls := "ArchTrades", name := "image", desc := "(I)I" } : Jvm.MethodName)) ∈ WL := wlm (in4 (List.mem_of_getElem? (i := 93) (by decide +kernel))) (by decide +kernel)
theorem m814 : (Jvm.Cond.selects "ArchTrades" ({ cls := "ArchTrades", name := "image", desc := "(I)I" } : Jvm.MethodName) ({ cls := "ArchTrades", name := "image", desc := "(I)I" } : Jvm.MethodName)) ∈ WL := wlm (in4 (List.mem_of_getElem? (i := 94) (by decide +kernel))) (by decide +kernel)
theorem m815 : (Jvm.Cond.code ({ cls := "ArchTrades", name := "image", desc := "(I)I" } : Jvm.MethodName) prog_1_method_22_code (2 : Nat) (Option.some Jvm.ClassFile.FieldType.int)) ∈ WL := wlm (in4 (List.mem_of_getElem? (i := 95) (by decide +kernel))) (by decide +kernel)
theorem m816 : (Jvm.Cond.methodLink "ArchTrades" (261 : Nat) ({ cls := "ArchTrades", name := "isImage", desc := "(I)Z" } : Jvm.MethodName)) ∈ WL := wlm (in4 (List.mem_of_getElem? (i := 96) (by decide +kernel))) (by decide +kernel)
theorem m817 : (Jvm.Cond.static ({ cls := "ArchTrades", name := "isImage", desc := "(I)Z" } : Jvm.MethodName)) ∈ WL := wlm (in4 (List.mem_of_getElem? (i := 97) (by decide +kernel))) (by decide +kernel)
theorem m818 : (Jvm.Cond.code ({ cls := "ArchTrades", name := "isImage", desc := "(I)Z" } : Jvm.MethodName) prog_1_method_35_code (1 : Nat) (Option.some Jvm.ClassFile.FieldType.boolean)) ∈ WL := wlm (in4 (List.mem_of_getElem? (i := 98) (by decide +kernel))) (by decide +kernel)
theorem m819 : (Jvm.Cond.methodLink "ArchTrades" (264 : Nat) ({ cls := "ArchTrades", name := "imageOf", desc := "(I)LArchTrades$Bridge;" } : Jvm.MethodName)) ∈ WL := wlm (in4 (List.mem_of_getElem? (i := 99) (by decide +kernel))) (by decide +kernel)
theorem m821 : (Jvm.Cond.instanceMethod ({ cls := "ArchTrades", name := "imageOf", desc := "(I)LArchTrades$Bridge;" } : Jvm.MethodName)) ∈ WL := wlm (in4 (List.mem_of_getElem? (i := 101) (by decide +kernel))) (by decide +kernel)
theorem m822 : (Jvm.Cond.code ({ cls := "ArchTrades", name := "imageOf", desc := "(I)LArchTrades$Bridge;" } : Jvm.MethodName) prog_1_method_34_code (2 : Nat) (Option.some (Jvm.ClassFile.FieldType.object "ArchTrades$Bridge"))) ∈ WL := wlm (in4 (List.mem_of_getElem? (i := 102) (by decide +kernel))) (by decide +kernel)
theorem m823 : (Jvm.Cond.methodLink "ArchTradesLaw" (105 : Nat) ({ cls := "ArchTrades", name := "restore", desc := "(I)I" } : Jvm.MethodName)) ∈ WL := wlm (in4 (List.mem_of_getElem? (i := 103) (by decide +kernel))) (by decide +kernel)
theorem m824 : (Jvm.Cond.instanceMethod ({ cls := "ArchTrades", name := "restore", desc := "(I)I" } : Jvm.MethodName)) ∈ WL := wlm (in4 (List.mem_of_getElem? (i := 104) (by decide +kernel))) (by decide +kernel)
theorem m825 : (Jvm.Cond.selects "ArchTrades" ({ cls := "ArchTrades", name := "restore", desc := "(I)I" } : Jvm.MethodName) ({ cls := "ArchTrades", name := "restore", desc := "(I)I" } : Jvm.MethodName)) ∈ WL := wlm (in4 (List.mem_of_getElem? (i := 105) (by decide +kernel))) (by decide +kernel)
theorem m826 : (Jvm.Cond.code ({ cls := "ArchTrades", name := "restore", desc := "(I)I" } : Jvm.MethodName) prog_1_method_23_code (2 : Nat) (Option.some Jvm.ClassFile.FieldType.int)) ∈ WL := wlm (in4 (List.mem_of_getElem? (i := 106) (by decide +kernel))) (by decide +kernel)
theorem m827 : (Jvm.Cond.methodLink "ArchTradesLaw" (109 : Nat) ({ cls := "ArchTrades", name := "kind", desc := "(I)I" } : Jvm.MethodName)) ∈ WL := wlm (in4 (List.mem_of_getElem? (i := 107) (by decide +kernel))) (by decide +kernel)
theorem m828 : (Jvm.Cond.instanceMethod ({ cls := "ArchTrades", name := "kind", desc := "(I)I" } : Jvm.MethodName)) ∈ WL := wlm (in4 (List.mem_of_getElem? (i := 108) (by decide +kernel))) (by decide +kernel)
theorem m829 : (Jvm.Cond.selects "ArchTrades" ({ cls := "ArchTrades", name := "kind", desc := "(I)I" } : Jvm.MethodName) ({ cls := "ArchTrades", name := "kind", desc := "(I)I" } : Jvm.MethodName)) ∈ WL := wlm (in4 (List.mem_of_getElem? (i := 109) (by decide +kernel))) (by decide +kernel)
theorem m830 : (Jvm.Cond.code ({ cls := "ArchTrades", name := "kind", desc := "(I)I" } : Jvm.MethodName) prog_1_method_24_code (2 : Nat) (Option.some Jvm.ClassFile.FieldType.int)) ∈ WL := wlm (in4 (List.mem_of_getElem? (i := 110) (by decide +kernel))) (by decide +kernel)
theorem m831 : (Jvm.Cond.methodLink "ArchTradesLaw" (113 : Nat) ({ cls := "ArchTrades", name := "as", desc := "(II)I" } : Jvm.MethodName)) ∈ WL := wlm (in4 (List.mem_of_getElem? (i := 111) (by decide +kernel))) (by decide +kernel)
theorem m832 : (Jvm.Cond.instanceMethod ({ cls := "ArchTrades", name := "as", desc := "(II)I" } : Jvm.MethodName)) ∈ WL := wlm (in4 (List.mem_of_getElem? (i := 112) (by decide +kernel))) (by decide +kernel)
theorem m833 : (Jvm.Cond.selects "ArchTrades" ({ cls := "ArchTrades", name := "as", desc := "(II)I" } : Jvm.MethodName) ({ cls := "ArchTrades", name := "as", desc := "(II)I" } : Jvm.MethodName)) ∈ WL := wlm (in4 (List.mem_of_getElem? (i := 113) (by decide +kernel))) (by decide +kernel)
theorem m834 : (Jvm.Cond.code ({ cls := "ArchTrades", name := "as", desc := "(II)I" } : Jvm.MethodName) prog_1_method_25_code (3 : Nat) (Option.some Jvm.ClassFile.FieldType.int)) ∈ WL := wlm (in4 (List.mem_of_getElem? (i := 114) (by decide +kernel))) (by decide +kernel)
theorem m835 : (Jvm.Cond.fieldLink "ArchTrades" (271 : Nat) "ArchTrades" "NEAREST" "[I") ∈ WL := wlm (in4 (List.mem_of_getElem? (i := 115) (by decide +kernel))) (by decide +kernel)
theorem m837 : (Jvm.Cond.methodLink "ArchTrades" (274 : Nat) ({ cls := "ArchTrades", name := "isKind", desc := "(II)Z" } : Jvm.MethodName)) ∈ WL := wlm (in4 (List.mem_of_getElem? (i := 117) (by decide +kernel))) (by decide +kernel)
theorem m838 : (Jvm.Cond.static ({ cls := "ArchTrades", name := "isKind", desc := "(II)Z" } : Jvm.MethodName)) ∈ WL := wlm (in4 (List.mem_of_getElem? (i := 118) (by decide +kernel))) (by decide +kernel)
theorem m839 : (Jvm.Cond.code ({ cls := "ArchTrades", name := "isKind", desc := "(II)Z" } : Jvm.MethodName) prog_1_method_39_code (4 : Nat) (Option.some Jvm.ClassFile.FieldType.boolean)) ∈ WL := wlm (in4 (List.mem_of_getElem? (i := 119) (by decide +kernel))) (by decide +kernel)
theorem m840 : (Jvm.Cond.methodLink "ArchTradesLaw" (117 : Nat) ({ cls := "ArchTrades", name := "ask", desc := "(II)I" } : Jvm.MethodName)) ∈ WL := wlm (in4 (List.mem_of_getElem? (i := 120) (by decide +kernel))) (by decide +kernel)
theorem m841 : (Jvm.Cond.instanceMethod ({ cls := "ArchTrades", name := "ask", desc := "(II)I" } : Jvm.MethodName)) ∈ WL := wlm (in4 (List.mem_of_getElem? (i := 121) (by decide +kernel))) (by decide +kernel)
theorem m842 : (Jvm.Cond.selects "ArchTrades" ({ cls := "ArchTrades", name := "ask", desc := "(II)I" } : Jvm.MethodName) ({ cls := "ArchTrades", name := "ask", desc := "(II)I" } : Jvm.MethodName)) ∈ WL := wlm (in4 (List.mem_of_getElem? (i := 122) (by decide +kernel))) (by decide +kernel)
theorem m843 : (Jvm.Cond.code ({ cls := "ArchTrades", name := "ask", desc := "(II)I" } : Jvm.MethodName) prog_1_method_26_code (3 : Nat) (Option.some Jvm.ClassFile.FieldType.int)) ∈ WL := wlm (in4 (List.mem_of_getElem? (i := 123) (by decide +kernel))) (by decide +kernel)
theorem m844 : (Jvm.Cond.methodLink "ArchTrades" (277 : Nat) ({ cls := "ArchTrades$Asks", name := "answer", desc := "(LArchTrades$Bridge;II)I" } : Jvm.MethodName)) ∈ WL := wlm (in4 (List.mem_of_getElem? (i := 124) (by decide +kernel))) (by decide +kernel)
theorem m845 : (Jvm.Cond.instanceMethod ({ cls := "ArchTrades$Asks", name := "answer", desc := "(LArchTrades$Bridge;II)I" } : Jvm.MethodName)) ∈ WL := wlm (in4 (List.mem_of_getElem? (i := 125) (by decide +kernel))) (by decide +kernel)
theorem m846 : (Jvm.Cond.selects "ArchTrades$Asks" ({ cls := "ArchTrades$Asks", name := "answer", desc := "(LArchTrades$Bridge;II)I" } : Jvm.MethodName) ({ cls := "ArchTrades$Asks", name := "answer", desc := "(LArchTrades$Bridge;II)I" } : Jvm.MethodName)) ∈ WL := wlm (in4 (List.mem_of_getElem? (i := 126) (by decide +kernel))) (by decide +kernel)
theorem m847 : (Jvm.Cond.code ({ cls := "ArchTrades$Asks", name := "answer", desc := "(LArchTrades$Bridge;II)I" } : Jvm.MethodName) prog_3_method_2_code (4 : Nat) (Option.some Jvm.ClassFile.FieldType.int)) ∈ WL := wlm (in4 (List.mem_of_getElem? (i := 127) (by decide +kernel))) (by decide +kernel)
theorem m848 : (Jvm.Cond.methodLink "ArchTrades$Asks" (24 : Nat) ({ cls := "ArchTrades$Asks", name := "bodyFor", desc := "(II)I" } : Jvm.MethodName)) ∈ WL := wlm (in4 (List.mem_of_getElem? (i := 128) (by decide +kernel))) (by decide +kernel)
theorem m849 : (Jvm.Cond.static ({ cls := "ArchTrades$Asks", name := "bodyFor", desc := "(II)I" } : Jvm.MethodName)) ∈ WL := wlm (in4 (List.mem_of_getElem? (i := 129) (by decide +kernel))) (by decide +kernel)
theorem m850 : (Jvm.Cond.code ({ cls := "ArchTrades$Asks", name := "bodyFor", desc := "(II)I" } : Jvm.MethodName) prog_3_method_4_code (2 : Nat) (Option.some Jvm.ClassFile.FieldType.int)) ∈ WL := wlm (in4 (List.mem_of_getElem? (i := 130) (by decide +kernel))) (by decide +kernel)
theorem m851 : (Jvm.Cond.fieldLink "ArchTrades$Asks" (33 : Nat) "ArchTrades$Asks" "SIZE_BODIES" "[I") ∈ WL := wlm (in4 (List.mem_of_getElem? (i := 131) (by decide +kernel))) (by decide +kernel)
theorem m853 : (Jvm.Cond.fieldLink "ArchTrades$Asks" (36 : Nat) "ArchTrades$Asks" "MARK_BODIES" "[I") ∈ WL := wlm (in4 (List.mem_of_getElem? (i := 133) (by decide +kernel))) (by decide +kernel)
theorem m855 : (Jvm.Cond.methodLink "ArchTrades$Asks" (28 : Nat) ({ cls := "ArchTrades$Asks", name := "gives", desc := "(ILArchTrades$Bridge;II)I" } : Jvm.MethodName)) ∈ WL := wlm (in4 (List.mem_of_getElem? (i := 135) (by decide +kernel))) (by decide +kernel)
theorem m857 : (Jvm.Cond.instanceMethod ({ cls := "ArchTrades$Asks", name := "gives", desc := "(ILArchTrades$Bridge;II)I" } : Jvm.MethodName)) ∈ WL := wlm (in4 (List.mem_of_getElem? (i := 137) (by decide +kernel))) (by decide +kernel)
theorem m858 : (Jvm.Cond.code ({ cls := "ArchTrades$Asks", name := "gives", desc := "(ILArchTrades$Bridge;II)I" } : Jvm.MethodName) prog_3_method_5_code (7 : Nat) (Option.some Jvm.ClassFile.FieldType.int)) ∈ WL := wlm (in4 (List.mem_of_getElem? (i := 138) (by decide +kernel))) (by decide +kernel)
theorem m859 : (Jvm.Cond.methodLink "ArchTrades$Asks" (39 : Nat) ({ cls := "ArchTrades$Asks", name := "leaveTrace", desc := "(I)V" } : Jvm.MethodName)) ∈ WL := wlm (in4 (List.mem_of_getElem? (i := 139) (by decide +kernel))) (by decide +kernel)
theorem m861 : (Jvm.Cond.instanceMethod ({ cls := "ArchTrades$Asks", name := "leaveTrace", desc := "(I)V" } : Jvm.MethodName)) ∈ WL := wlm (in4 (List.mem_of_getElem? (i := 141) (by decide +kernel))) (by decide +kernel)
theorem m862 : (Jvm.Cond.code ({ cls := "ArchTrades$Asks", name := "leaveTrace", desc := "(I)V" } : Jvm.MethodName) prog_3_method_6_code (2 : Nat) (Option.none : Option Jvm.ClassFile.FieldType)) ∈ WL := wlm (in4 (List.mem_of_getElem? (i := 142) (by decide +kernel))) (by decide +kernel)
theorem m863 : (Jvm.Cond.methodLink "ArchTrades$Asks" (43 : Nat) ({ cls := "ArchTrades$Bridge", name := "allOf", desc := "(I)I" } : Jvm.MethodName)) ∈ WL := wlm (in4 (List.mem_of_getElem? (i := 143) (by decide +kernel))) (by decide +kernel)
theorem m864 : (Jvm.Cond.methodLink "ArchTradesLaw" (121 : Nat) ({ cls := "ArchTrades", name := "trace", desc := "(I)I" } : Jvm.MethodName)) ∈ WL := wlm (in4 (List.mem_of_getElem? (i := 144) (by decide +kernel))) (by decide +kernel)
theorem m865 : (Jvm.Cond.instanceMethod ({ cls := "ArchTrades", name := "trace", desc := "(I)I" } : Jvm.MethodName)) ∈ WL := wlm (in4 (List.mem_of_getElem? (i := 145) (by decide +kernel))) (by decide +kernel)
theorem m866 : (Jvm.Cond.selects "ArchTrades" ({ cls := "ArchTrades", name := "trace", desc := "(I)I" } : Jvm.MethodName) ({ cls := "ArchTrades", name := "trace", desc := "(I)I" } : Jvm.MethodName)) ∈ WL := wlm (in4 (List.mem_of_getElem? (i := 146) (by decide +kernel))) (by decide +kernel)
theorem m867 : (Jvm.Cond.code ({ cls := "ArchTrades", name := "trace", desc := "(I)I" } : Jvm.MethodName) prog_1_method_27_code (2 : Nat) (Option.some Jvm.ClassFile.FieldType.int)) ∈ WL := wlm (in4 (List.mem_of_getElem? (i := 147) (by decide +kernel))) (by decide +kernel)
theorem m868 : (Jvm.Cond.methodLink "ArchTrades" (280 : Nat) ({ cls := "ArchTrades$Asks", name := "traceAt", desc := "(I)I" } : Jvm.MethodName)) ∈ WL := wlm (in4 (List.mem_of_getElem? (i := 148) (by decide +kernel))) (by decide +kernel)
theorem m869 : (Jvm.Cond.instanceMethod ({ cls := "ArchTrades$Asks", name := "traceAt", desc := "(I)I" } : Jvm.MethodName)) ∈ WL := wlm (in4 (List.mem_of_getElem? (i := 149) (by decide +kernel))) (by decide +kernel)
theorem m870 : (Jvm.Cond.selects "ArchTrades$Asks" ({ cls := "ArchTrades$Asks", name := "traceAt", desc := "(I)I" } : Jvm.MethodName) ({ cls := "ArchTrades$Asks", name := "traceAt", desc := "(I)I" } : Jvm.MethodName)) ∈ WL := wlm (in4 (List.mem_of_getElem? (i := 150) (by decide +kernel))) (by decide +kernel)
theorem m871 : (Jvm.Cond.code ({ cls := "ArchTrades$Asks", name := "traceAt", desc := "(I)I" } : Jvm.MethodName) prog_3_method_3_code (2 : Nat) (Option.some Jvm.ClassFile.FieldType.int)) ∈ WL := wlm (in4 (List.mem_of_getElem? (i := 151) (by decide +kernel))) (by decide +kernel)
theorem m872 : (Jvm.Cond.constant "ArchTrades$Asks" (32 : Nat) (-1000000 : Int32)) ∈ WL := wlm (in4 (List.mem_of_getElem? (i := 152) (by decide +kernel))) (by decide +kernel)
theorem m873 : (Jvm.Cond.methodLink "ArchTradesLaw" (125 : Nat) ({ cls := "ArchTrades", name := "count", desc := "(I)I" } : Jvm.MethodName)) ∈ WL := wlm (in4 (List.mem_of_getElem? (i := 153) (by decide +kernel))) (by decide +kernel)
theorem m874 : (Jvm.Cond.instanceMethod ({ cls := "ArchTrades", name := "count", desc := "(I)I" } : Jvm.MethodName)) ∈ WL := wlm (in4 (List.mem_of_getElem? (i := 154) (by decide +kernel))) (by decide +kernel)
theorem m875 : (Jvm.Cond.selects "ArchTrades" ({ cls := "ArchTrades", name := "count", desc := "(I)I" } : Jvm.MethodName) ({ cls := "ArchTrades", name := "count", desc := "(I)I" } : Jvm.MethodName)) ∈ WL := wlm (in4 (List.mem_of_getElem? (i := 155) (by decide +kernel))) (by decide +kernel)
theorem m876 : (Jvm.Cond.code ({ cls := "ArchTrades", name := "count", desc := "(I)I" } : Jvm.MethodName) prog_1_method_28_code (2 : Nat) (Option.some Jvm.ClassFile.FieldType.int)) ∈ WL := wlm (in4 (List.mem_of_getElem? (i := 156) (by decide +kernel))) (by decide +kernel)
theorem m877 : (Jvm.Cond.methodLink "ArchTrades" (283 : Nat) ({ cls := "ArchTrades$Rows", name := "present", desc := "()I" } : Jvm.MethodName)) ∈ WL := wlm (in4 (List.mem_of_getElem? (i := 157) (by decide +kernel))) (by decide +kernel)
theorem m878 : (Jvm.Cond.instanceMethod ({ cls := "ArchTrades$Rows", name := "present", desc := "()I" } : Jvm.MethodName)) ∈ WL := wlm (in4 (List.mem_of_getElem? (i := 158) (by decide +kernel))) (by decide +kernel)
theorem m879 : (Jvm.Cond.selects "ArchTrades$Rows" ({ cls := "ArchTrades$Rows", name := "present", desc := "()I" } : Jvm.MethodName) ({ cls := "ArchTrades$Rows", name := "present", desc := "()I" } : Jvm.MethodName)) ∈ WL := wlm (in4 (List.mem_of_getElem? (i := 159) (by decide +kernel))) (by decide +kernel)
theorem m880 : (Jvm.Cond.code ({ cls := "ArchTrades$Rows", name := "present", desc := "()I" } : Jvm.MethodName) prog_7_method_11_code (3 : Nat) (Option.some Jvm.ClassFile.FieldType.int)) ∈ WL := wlm (in4 (List.mem_of_getElem? (i := 160) (by decide +kernel))) (by decide +kernel)
theorem m881 : (Jvm.Cond.methodLink "ArchTrades$Rows" (29 : Nat) ({ cls := "ArchTrades$Rows", name := "isMissing", desc := "(I)Z" } : Jvm.MethodName)) ∈ WL := wlm (in4 (List.mem_of_getElem? (i := 161) (by decide +kernel))) (by decide +kernel)
theorem m882 : (Jvm.Cond.methodLink "ArchTrades" (286 : Nat) ({ cls := "java/lang/Integer", name := "bitCount", desc := "(I)I" } : Jvm.MethodName)) ∈ WL := wlm (in4 (List.mem_of_getElem? (i := 162) (by decide +kernel))) (by decide +kernel)
theorem m883 : (Jvm.Cond.methodLink "ArchTradesLaw" (129 : Nat) ({ cls := "ArchTrades", name := "status", desc := "()I" } : Jvm.MethodName)) ∈ WL := wlm (in4 (List.mem_of_getElem? (i := 163) (by decide +kernel))) (by decide +kernel)
theorem m884 : (Jvm.Cond.instanceMethod ({ cls := "ArchTrades", name := "status", desc := "()I" } : Jvm.MethodName)) ∈ WL := wlm (in4 (List.mem_of_getElem? (i := 164) (by decide +kernel))) (by decide +kernel)
theorem m885 : (Jvm.Cond.selects "ArchTrades" ({ cls := "ArchTrades", name := "status", desc := "()I" } : Jvm.MethodName) ({ cls := "ArchTrades", name := "status", desc := "()I" } : Jvm.MethodName)) ∈ WL := wlm (in4 (List.mem_of_getElem? (i := 165) (by decide +kernel))) (by decide +kernel)
theorem m886 : (Jvm.Cond.code ({ cls := "ArchTrades", name := "status", desc := "()I" } : Jvm.MethodName) prog_1_method_29_code (1 : Nat) (Option.some Jvm.ClassFile.FieldType.int)) ∈ WL := wlm (in4 (List.mem_of_getElem? (i := 166) (by decide +kernel))) (by decide +kernel)
theorem m887 : (Jvm.Cond.classLink "ArchTradesLaw" (10 : Nat) "ArchTradesModel") ∈ WL := wlm (in4 (List.mem_of_getElem? (i := 167) (by decide +kernel))) (by decide +kernel)
theorem m888 : (Jvm.Cond.instantiable "ArchTradesModel" (34 : Nat)) ∈ WL := wlm (in4 (List.mem_of_getElem? (i := 168) (by decide +kernel))) (by decide +kernel)
theorem m889 : (Jvm.Cond.methodLink "ArchTradesLaw" (12 : Nat) ({ cls := "ArchTradesModel", name := "<init>", desc := "()V" } : Jvm.MethodName)) ∈ WL := wlm (in4 (List.mem_of_getElem? (i := 169) (by decide +kernel))) (by decide +kernel)
theorem m890 : (Jvm.Cond.instanceMethod ({ cls := "ArchTradesModel", name := "<init>", desc := "()V" } : Jvm.MethodName)) ∈ WL := wlm (in4 (List.mem_of_getElem? (i := 170) (by decide +kernel))) (by decide +kernel)
theorem m891 : (Jvm.Cond.code ({ cls := "ArchTradesModel", name := "<init>", desc := "()V" } : Jvm.MethodName) prog_10_method_1_code (1 : Nat) (Option.none : Option Jvm.ClassFile.FieldType)) ∈ WL := wlm (in4 (List.mem_of_getElem? (i := 171) (by decide +kernel))) (by decide +kernel)
theorem m892 : (Jvm.Cond.methodLink "ArchTradesModel" (1 : Nat) ({ cls := "java/lang/Object", name := "<init>", desc := "()V" } : Jvm.MethodName)) ∈ WL := wlm (in4 (List.mem_of_getElem? (i := 172) (by decide +kernel))) (by decide +kernel)
theorem m893 : (Jvm.Cond.fieldLink "ArchTradesModel" (65 : Nat) "ArchTradesModel" "thrown" "I") ∈ WL := wlm (in4 (List.mem_of_getElem? (i := 173) (by decide +kernel))) (by decide +kernel)
theorem m894 : (Jvm.Cond.fieldLink "ArchTradesModel" (69 : Nat) "ArchTradesModel" "status" "I") ∈ WL := wlm (in4 (List.mem_of_getElem? (i := 174) (by decide +kernel))) (by decide +kernel)
theorem m895 : (Jvm.Cond.fieldLink "ArchTradesModel" (7 : Nat) "ArchTradesModel" "lane" "[I") ∈ WL := wlm (in4 (List.mem_of_getElem? (i := 175) (by decide +kernel))) (by decide +kernel)
theorem m896 : (Jvm.Cond.fieldLink "ArchTradesModel" (13 : Nat) "ArchTradesModel" "many" "[I") ∈ WL := wlm (in4 (List.mem_of_getElem? (i := 176) (by decide +kernel))) (by decide +kernel)
theorem m897 : (Jvm.Cond.fieldLink "ArchTradesModel" (16 : Nat) "ArchTradesModel" "item" "[I") ∈ WL := wlm (in4 (List.mem_of_getElem? (i := 177) (by decide +kernel))) (by decide +kernel)
theorem m898 : (Jvm.Cond.fieldLink "ArchTradesModel" (19 : Nat) "ArchTradesModel" "bridge" "[I") ∈ WL := wlm (in4 (List.mem_of_getElem? (i := 178) (by decide +kernel))) (by decide +kernel)
theorem m899 : (Jvm.Cond.fieldLink "ArchTradesModel" (22 : Nat) "ArchTradesModel" "fresh" "[I") ∈ WL := wlm (in4 (List.mem_of_getElem? (i := 179) (by decide +kernel))) (by decide +kernel)
theorem m900 : (Jvm.Cond.fieldLink "ArchTradesModel" (195 : Nat) "ArchTradesModel" "isThere" "Z") ∈ WL := wlm (in4 (List.mem_of_getElem? (i := 180) (by decide +kernel))) (by decide +kernel)
theorem m901 : (Jvm.Cond.fieldLink "ArchTradesModel" (25 : Nat) "ArchTradesModel" "was" "[I") ∈ WL := wlm (in4 (List.mem_of_getElem? (i := 181) (by decide +kernel))) (by decide +kernel)
theorem m902 : (Jvm.Cond.fieldLink "ArchTradesModel" (199 : Nat) "ArchTradesModel" "acts" "I") ∈ WL := wlm (in4 (List.mem_of_getElem? (i := 182) (by decide +kernel))) (by decide +kernel)
theorem m903 : (Jvm.Cond.fieldLink "ArchTradesModel" (28 : Nat) "ArchTradesModel" "tape" "[I") ∈ WL := wlm (in4 (List.mem_of_getElem? (i := 183) (by decide +kernel))) (by decide +kernel)
theorem m904 : (Jvm.Cond.fieldLink "ArchTradesModel" (92 : Nat) "ArchTradesModel" "taped" "I") ∈ WL := wlm (in4 (List.mem_of_getElem? (i := 184) (by decide +kernel))) (by decide +kernel)
theorem m905 : (Jvm.Cond.fieldLink "ArchTradesModel" (191 : Nat) "ArchTradesModel" "latest" "I") ∈ WL := wlm (in4 (List.mem_of_getElem? (i := 185) (by decide +kernel))) (by decide +kernel)
theorem m906 : (Jvm.Cond.fieldLink "ArchTradesModel" (98 : Nat) "ArchTradesModel" "length" "I") ∈ WL := wlm (in4 (List.mem_of_getElem? (i := 186) (by decide +kernel))) (by decide +kernel)
theorem m907 : (Jvm.Cond.fieldLink "ArchTradesModel" (102 : Nat) "ArchTradesModel" "cursor" "I") ∈ WL := wlm (in4 (List.mem_of_getElem? (i := 187) (by decide +kernel))) (by decide +kernel)
theorem m908 : (Jvm.Cond.fieldLink "ArchTradesModel" (111 : Nat) "ArchTradesModel" "token" "I") ∈ WL := wlm (in4 (List.mem_of_getElem? (i := 188) (by decide +kernel))) (by decide +kernel)
theorem m909 : (Jvm.Cond.fieldLink "ArchTradesModel" (108 : Nat) "ArchTradesModel" "start" "I") ∈ WL := wlm (in4 (List.mem_of_getElem? (i := 189) (by decide +kernel))) (by decide +kernel)
theorem m910 : (Jvm.Cond.fieldLink "ArchTradesModel" (120 : Nat) "ArchTradesModel" "till" "I") ∈ WL := wlm (in4 (List.mem_of_getElem? (i := 190) (by decide +kernel))) (by decide +kernel)
theorem m911 : (Jvm.Cond.fieldLink "ArchTradesModel" (123 : Nat) "ArchTradesModel" "fault" "I") ∈ WL := wlm (in4 (List.mem_of_getElem? (i := 191) (by decide +kernel))) (by decide +kernel)
theorem m912 : (Jvm.Cond.fieldLink "ArchTradesModel" (129 : Nat) "ArchTradesModel" "faultAt" "I") ∈ WL := wlm (in4 (List.mem_of_getElem? (i := 192) (by decide +kernel))) (by decide +kernel)
theorem m913 : (Jvm.Cond.fieldLink "ArchTradesModel" (31 : Nat) "ArchTradesModel" "holder" "[I") ∈ WL := wlm (in4 (List.mem_of_getElem? (i := 193) (by decide +kernel))) (by decide +kernel)
theorem m914 : (Jvm.Cond.fieldLink "ArchTradesModel" (34 : Nat) "ArchTradesModel" "isTaken" "[Z") ∈ WL := wlm (in4 (List.mem_of_getElem? (i := 194) (by decide +kernel))) (by decide +kernel)
theorem m915 : (Jvm.Cond.fieldLink "ArchTradesModel" (38 : Nat) "ArchTradesModel" "isMet" "[Z") ∈ WL := wlm (in4 (List.mem_of_getElem? (i := 195) (by decide +kernel))) (by decide +kernel)
theorem m916 : (Jvm.Cond.fieldLink "ArchTradesModel" (41 : Nat) "ArchTradesModel" "cameBy" "[I") ∈ WL := wlm (in4 (List.mem_of_getElem? (i := 196) (by decide +kernel))) (by decide +kernel)
theorem m917 : (Jvm.Cond.fieldLink "ArchTradesModel" (44 : Nat) "ArchTradesModel" "placeOf" "[I") ∈ WL := wlm (in4 (List.mem_of_getElem? (i := 197) (by decide +kernel))) (by decide +kernel)
theorem m918 : (Jvm.Cond.fieldLink "ArchTradesModel" (47 : Nat) "ArchTradesModel" "waits" "[I") ∈ WL := wlm (in4 (List.mem_of_getElem? (i := 198) (by decide +kernel))) (by decide +kernel)
theorem m919 : (Jvm.Cond.fieldLink "ArchTradesModel" (262 : Nat) "ArchTradesModel" "from" "I") ∈ WL := wlm (in4 (List.mem_of_getElem? (i := 199) (by decide +kernel))) (by decide +kernel)
theorem m920 : (Jvm.Cond.fieldLink "ArchTradesModel" (265 : Nat) "ArchTradesModel" "until" "I") ∈ WL := wlm (in4 (List.mem_of_getElem? (i := 200) (by decide +kernel))) (by decide +kernel)
theorem m921 : (Jvm.Cond.fieldLink "ArchTradesModel" (50 : Nat) "ArchTradesModel" "charter" "[I") ∈ WL := wlm (in4 (List.mem_of_getElem? (i := 201) (by decide +kernel))) (by decide +kernel)
theorem m922 : (Jvm.Cond.fieldLink "ArchTradesModel" (53 : Nat) "ArchTradesModel" "best" "[I") ∈ WL := wlm (in4 (List.mem_of_getElem? (i := 202) (by decide +kernel))) (by decide +kernel)
theorem m923 : (Jvm.Cond.fieldLink "ArchTradesModel" (56 : Nat) "ArchTradesModel" "isKept" "[Z") ∈ WL := wlm (in4 (List.mem_of_getElem? (i := 203) (by decide +kernel))) (by decide +kernel)
theorem m924 : (Jvm.Cond.fieldLink "ArchTradesModel" (59 : Nat) "ArchTradesModel" "kept" "[I") ∈ WL := wlm (in4 (List.mem_of_getElem? (i := 204) (by decide +kernel))) (by decide +kernel)
theorem m925 : (Jvm.Cond.fieldLink "ArchTradesModel" (62 : Nat) "ArchTradesModel" "trace" "[I") ∈ WL := wlm (in4 (List.mem_of_getElem? (i := 205) (by decide +kernel))) (by decide +kernel)
theorem m926 : (Jvm.Cond.fieldLink "ArchTradesModel" (316 : Nat) "ArchTradesModel" "traced" "I") ∈ WL := wlm (in4 (List.mem_of_getElem? (i := 206) (by decide +kernel))) (by decide +kernel)
theorem m927 : (Jvm.Cond.lays "ArchTradesModel" "ArchTradesModel" "thrown" "I") ∈ WL := wlm (in4 (List.mem_of_getElem? (i := 207) (by decide +kernel))) (by decide +kernel)
theorem m929 : (Jvm.Cond.lays "ArchTradesModel" "ArchTradesModel" "status" "I") ∈ WL := wlm (in4 (List.mem_of_getElem? (i := 209) (by decide +kernel))) (by decide +kernel)
theorem m931 : (Jvm.Cond.laysFinal "ArchTradesModel" "ArchTradesModel" "lane" "[I") ∈ WL := wlm (in4 (List.mem_of_getElem? (i := 211) (by decide +kernel))) (by decide +kernel)
theorem m933 : (Jvm.Cond.laysFinal "ArchTradesModel" "ArchTradesModel" "many" "[I") ∈ WL := wlm (in4 (List.mem_of_getElem? (i := 213) (by decide +kernel))) (by decide +kernel)
theorem m935 : (Jvm.Cond.laysFinal "ArchTradesModel" "ArchTradesModel" "item" "[I") ∈ WL := wlm (in4 (List.mem_of_getElem? (i := 215) (by decide +kernel))) (by decide +kernel)
theorem m937 : (Jvm.Cond.laysFinal "ArchTradesModel" "ArchTradesModel" "bridge" "[I") ∈ WL := wlm (in4 (List.mem_of_getElem? (i := 217) (by decide +kernel))) (by decide +kernel)
theorem m939 : (Jvm.Cond.laysFinal "ArchTradesModel" "ArchTradesModel" "fresh" "[I") ∈ WL := wlm (in4 (List.mem_of_getElem? (i := 219) (by decide +kernel))) (by decide +kernel)
theorem m941 : (Jvm.Cond.lays "ArchTradesModel" "ArchTradesModel" "isThere" "Z") ∈ WL := wlm (in4 (List.mem_of_getElem? (i := 221) (by decide +kernel))) (by decide +kernel)
theorem m943 : (Jvm.Cond.laysFinal "ArchTradesModel" "ArchTradesModel" "was" "[I") ∈ WL := wlm (in4 (List.mem_of_getElem? (i := 223) (by decide +kernel))) (by decide +kernel)
theorem m945 : (Jvm.Cond.lays "ArchTradesModel" "ArchTradesModel" "acts" "I") ∈ WL := wlm (in4 (List.mem_of_getElem? (i := 225) (by decide +kernel))) (by decide +kernel)
theorem m947 : (Jvm.Cond.laysFinal "ArchTradesModel" "ArchTradesModel" "tape" "[I") ∈ WL := wlm (in4 (List.mem_of_getElem? (i := 227) (by decide +kernel))) (by decide +kernel)
theorem m949 : (Jvm.Cond.lays "ArchTradesModel" "ArchTradesModel" "taped" "I") ∈ WL := wlm (in4 (List.mem_of_getElem? (i := 229) (by decide +kernel))) (by decide +kernel)
theorem m951 : (Jvm.Cond.lays "ArchTradesModel" "ArchTradesModel" "latest" "I") ∈ WL := wlm (in4 (List.mem_of_getElem? (i := 231) (by decide +kernel))) (by decide +kernel)
theorem m953 : (Jvm.Cond.lays "ArchTradesModel" "ArchTradesModel" "length" "I") ∈ WL := wlm (in4 (List.mem_of_getElem? (i := 233) (by decide +kernel))) (by decide +kernel)
theorem m955 : (Jvm.Cond.lays "ArchTradesModel" "ArchTradesModel" "cursor" "I") ∈ WL := wlm (in4 (List.mem_of_getElem? (i := 235) (by decide +kernel))) (by decide +kernel)
theorem m957 : (Jvm.Cond.lays "ArchTradesModel" "ArchTradesModel" "token" "I") ∈ WL := wlm (in4 (List.mem_of_getElem? (i := 237) (by decide +kernel))) (by decide +kernel)
theorem m959 : (Jvm.Cond.lays "ArchTradesModel" "ArchTradesModel" "start" "I") ∈ WL := wlm (in4 (List.mem_of_getElem? (i := 239) (by decide +kernel))) (by decide +kernel)
theorem m961 : (Jvm.Cond.lays "ArchTradesModel" "ArchTradesModel" "till" "I") ∈ WL := wlm (in5 (List.mem_of_getElem? (i := 1) (by decide +kernel))) (by decide +kernel)
theorem m963 : (Jvm.Cond.lays "ArchTradesModel" "ArchTradesModel" "fault" "I") ∈ WL := wlm (in5 (List.mem_of_getElem? (i := 3) (by decide +kernel))) (by decide +kernel)
theorem m965 : (Jvm.Cond.lays "ArchTradesModel" "ArchTradesModel" "faultAt" "I") ∈ WL := wlm (in5 (List.mem_of_getElem? (i := 5) (by decide +kernel))) (by decide +kernel)
theorem m967 : (Jvm.Cond.laysFinal "ArchTradesModel" "ArchTradesModel" "holder" "[I") ∈ WL := wlm (in5 (List.mem_of_getElem? (i := 7) (by decide +kernel))) (by decide +kernel)
theorem m969 : (Jvm.Cond.laysFinal "ArchTradesModel" "ArchTradesModel" "isTaken" "[Z") ∈ WL := wlm (in5 (List.mem_of_getElem? (i := 9) (by decide +kernel))) (by decide +kernel)
theorem m971 : (Jvm.Cond.laysFinal "ArchTradesModel" "ArchTradesModel" "isMet" "[Z") ∈ WL := wlm (in5 (List.mem_of_getElem? (i := 11) (by decide +kernel))) (by decide +kernel)
theorem m973 : (Jvm.Cond.laysFinal "ArchTradesModel" "ArchTradesModel" "cameBy" "[I") ∈ WL := wlm (in5 (List.mem_of_getElem? (i := 13) (by decide +kernel))) (by decide +kernel)
theorem m975 : (Jvm.Cond.laysFinal "ArchTradesModel" "ArchTradesModel" "placeOf" "[I") ∈ WL := wlm (in5 (List.mem_of_getElem? (i := 15) (by decide +kernel))) (by decide +kernel)
theorem m977 : (Jvm.Cond.laysFinal "ArchTradesModel" "ArchTradesModel" "waits" "[I") ∈ WL := wlm (in5 (List.mem_of_getElem? (i := 17) (by decide +kernel))) (by decide +kernel)
theorem m979 : (Jvm.Cond.lays "ArchTradesModel" "ArchTradesModel" "from" "I") ∈ WL := wlm (in5 (List.mem_of_getElem? (i := 19) (by decide +kernel))) (by decide +kernel)
theorem m981 : (Jvm.Cond.lays "ArchTradesModel" "ArchTradesModel" "until" "I") ∈ WL := wlm (in5 (List.mem_of_getElem? (i := 21) (by decide +kernel))) (by decide +kernel)
theorem m983 : (Jvm.Cond.laysFinal "ArchTradesModel" "ArchTradesModel" "charter" "[I") ∈ WL := wlm (in5 (List.mem_of_getElem? (i := 23) (by decide +kernel))) (by decide +kernel)
theorem m985 : (Jvm.Cond.laysFinal "ArchTradesModel" "ArchTradesModel" "best" "[I") ∈ WL := wlm (in5 (List.mem_of_getElem? (i := 25) (by decide +kernel))) (by decide +kernel)
theorem m987 : (Jvm.Cond.laysFinal "ArchTradesModel" "ArchTradesModel" "isKept" "[Z") ∈ WL := wlm (in5 (List.mem_of_getElem? (i := 27) (by decide +kernel))) (by decide +kernel)
theorem m989 : (Jvm.Cond.laysFinal "ArchTradesModel" "ArchTradesModel" "kept" "[I") ∈ WL := wlm (in5 (List.mem_of_getElem? (i := 29) (by decide +kernel))) (by decide +kernel)
theorem m991 : (Jvm.Cond.laysFinal "ArchTradesModel" "ArchTradesModel" "trace" "[I") ∈ WL := wlm (in5 (List.mem_of_getElem? (i := 31) (by decide +kernel))) (by decide +kernel)
theorem m993 : (Jvm.Cond.lays "ArchTradesModel" "ArchTradesModel" "traced" "I") ∈ WL := wlm (in5 (List.mem_of_getElem? (i := 33) (by decide +kernel))) (by decide +kernel)
theorem m996 : (Jvm.Cond.arrayClass Jvm.ClassFile.FieldType.boolean) ∈ WL := wlm (in5 (List.mem_of_getElem? (i := 36) (by decide +kernel))) (by decide +kernel)
theorem m997 : (Jvm.Cond.methodLink "ArchTradesLaw" (17 : Nat) ({ cls := "ArchTradesModel", name := "row", desc := "(III)I" } : Jvm.MethodName)) ∈ WL := wlm (in5 (List.mem_of_getElem? (i := 37) (by decide +kernel))) (by decide +kernel)
theorem m998 : (Jvm.Cond.instanceMethod ({ cls := "ArchTradesModel", name := "row", desc := "(III)I" } : Jvm.MethodName)) ∈ WL := wlm (in5 (List.mem_of_getElem? (i := 38) (by decide +kernel))) (by decide +kernel)
theorem m999 : (Jvm.Cond.selects "ArchTradesModel" ({ cls := "ArchTradesModel", name := "row", desc := "(III)I" } : Jvm.MethodName) ({ cls := "ArchTradesModel", name := "row", desc := "(III)I" } : Jvm.MethodName)) ∈ WL := wlm (in5 (List.mem_of_getElem? (i := 39) (by decide +kernel))) (by decide +kernel)
theorem m1000 : (Jvm.Cond.code ({ cls := "ArchTradesModel", name := "row", desc := "(III)I" } : Jvm.MethodName) prog_10_method_6_code (5 : Nat) (Option.some Jvm.ClassFile.FieldType.int)) ∈ WL := wlm (in5 (List.mem_of_getElem? (i := 40) (by decide +kernel))) (by decide +kernel)
theorem m1001 : (Jvm.Cond.methodLink "ArchTradesModel" (79 : Nat) ({ cls := "ArchTradesModel", name := "isRow", desc := "(I)Z" } : Jvm.MethodName)) ∈ WL := wlm (in5 (List.mem_of_getElem? (i := 41) (by decide +kernel))) (by decide +kernel)
theorem m1002 : (Jvm.Cond.static ({ cls := "ArchTradesModel", name := "isRow", desc := "(I)Z" } : Jvm.MethodName)) ∈ WL := wlm (in5 (List.mem_of_getElem? (i := 42) (by decide +kernel))) (by decide +kernel)
theorem m1003 : (Jvm.Cond.code ({ cls := "ArchTradesModel", name := "isRow", desc := "(I)Z" } : Jvm.MethodName) prog_10_method_5_code (1 : Nat) (Option.some Jvm.ClassFile.FieldType.boolean)) ∈ WL := wlm (in5 (List.mem_of_getElem? (i := 43) (by decide +kernel))) (by decide +kernel)
theorem m1004 : (Jvm.Cond.constantLong "ArchTradesModel" (73 : Nat) (7 : Int64)) ∈ WL := wlm (in5 (List.mem_of_getElem? (i := 44) (by decide +kernel))) (by decide +kernel)
theorem m1005 : (Jvm.Cond.methodLink "ArchTradesModel" (75 : Nat) ({ cls := "ArchTradesModel", name := "in", desc := "(JJJ)Z" } : Jvm.MethodName)) ∈ WL := wlm (in5 (List.mem_of_getElem? (i := 45) (by decide +kernel))) (by decide +kernel)
theorem m1006 : (Jvm.Cond.static ({ cls := "ArchTradesModel", name := "in", desc := "(JJJ)Z" } : Jvm.MethodName)) ∈ WL := wlm (in5 (List.mem_of_getElem? (i := 46) (by decide +kernel))) (by decide +kernel)
theorem m1007 : (Jvm.Cond.code ({ cls := "ArchTradesModel", name := "in", desc := "(JJJ)Z" } : Jvm.MethodName) prog_10_method_3_code (6 : Nat) (Option.some Jvm.ClassFile.FieldType.boolean)) ∈ WL := wlm (in5 (List.mem_of_getElem? (i := 47) (by decide +kernel))) (by decide +kernel)
theorem m1008 : (Jvm.Cond.constantLong "ArchTradesModel" (83 : Nat) (2 : Int64)) ∈ WL := wlm (in5 (List.mem_of_getElem? (i := 48) (by decide +kernel))) (by decide +kernel)
theorem m1009 : (Jvm.Cond.constant "ArchTradesModel" (85 : Nat) (-1000001 : Int32)) ∈ WL := wlm (in5 (List.mem_of_getElem? (i := 49) (by decide +kernel))) (by decide +kernel)
theorem m1010 : (Jvm.Cond.methodLink "ArchTradesModel" (86 : Nat) ({ cls := "ArchTradesModel", name := "finding", desc := "(I)I" } : Jvm.MethodName)) ∈ WL := wlm (in5 (List.mem_of_getElem? (i := 50) (by decide +kernel))) (by decide +kernel)
theorem m1012 : (Jvm.Cond.instanceMethod ({ cls := "ArchTradesModel", name := "finding", desc := "(I)I" } : Jvm.MethodName)) ∈ WL := wlm (in5 (List.mem_of_getElem? (i := 52) (by decide +kernel))) (by decide +kernel)
theorem m1013 : (Jvm.Cond.code ({ cls := "ArchTradesModel", name := "finding", desc := "(I)I" } : Jvm.MethodName) prog_10_method_4_code (2 : Nat) (Option.some Jvm.ClassFile.FieldType.int)) ∈ WL := wlm (in5 (List.mem_of_getElem? (i := 53) (by decide +kernel))) (by decide +kernel)
theorem m1014 : (Jvm.Cond.constant "ArchTradesModel" (72 : Nat) (-1000010 : Int32)) ∈ WL := wlm (in5 (List.mem_of_getElem? (i := 54) (by decide +kernel))) (by decide +kernel)
theorem m1015 : (Jvm.Cond.methodLink "ArchTradesLaw" (21 : Nat) ({ cls := "ArchTradesModel", name := "set", desc := "(III)I" } : Jvm.MethodName)) ∈ WL := wlm (in5 (List.mem_of_getElem? (i := 55) (by decide +kernel))) (by decide +kernel)
theorem m1016 : (Jvm.Cond.instanceMethod ({ cls := "ArchTradesModel", name := "set", desc := "(III)I" } : Jvm.MethodName)) ∈ WL := wlm (in5 (List.mem_of_getElem? (i := 56) (by decide +kernel))) (by decide +kernel)
theorem m1017 : (Jvm.Cond.selects "ArchTradesModel" ({ cls := "ArchTradesModel", name := "set", desc := "(III)I" } : Jvm.MethodName) ({ cls := "ArchTradesModel", name := "set", desc := "(III)I" } : Jvm.MethodName)) ∈ WL := wlm (in5 (List.mem_of_getElem? (i := 57) (by decide +kernel))) (by decide +kernel)
theorem m1018 : (Jvm.Cond.code ({ cls := "ArchTradesModel", name := "set", desc := "(III)I" } : Jvm.MethodName) prog_10_method_7_code (4 : Nat) (Option.some Jvm.ClassFile.FieldType.int)) ∈ WL := wlm (in5 (List.mem_of_getElem? (i := 58) (by decide +kernel))) (by decide +kernel)
theorem m1019 : (Jvm.Cond.methodLink "ArchTradesLaw" (26 : Nat) ({ cls := "ArchTradesModel", name := "copy", desc := "(IIIII)I" } : Jvm.MethodName)) ∈ WL := wlm (in5 (List.mem_of_getElem? (i := 59) (by decide +kernel))) (by decide +kernel)
theorem m1020 : (Jvm.Cond.instanceMethod ({ cls := "ArchTradesModel", name := "copy", desc := "(IIIII)I" } : Jvm.MethodName)) ∈ WL := wlm (in5 (List.mem_of_getElem? (i := 60) (by decide +kernel))) (by decide +kernel)
theorem m1021 : (Jvm.Cond.selects "ArchTradesModel" ({ cls := "ArchTradesModel", name := "copy", desc := "(IIIII)I" } : Jvm.MethodName) ({ cls := "ArchTradesModel", name := "copy", desc := "(IIIII)I" } : Jvm.MethodName)) ∈ WL := wlm (in5 (List.mem_of_getElem? (i := 61) (by decide +kernel))) (by decide +kernel)
theorem m1022 : (Jvm.Cond.code ({ cls := "ArchTradesModel", name := "copy", desc := "(IIIII)I" } : Jvm.MethodName) prog_10_method_8_code (9 : Nat) (Option.some Jvm.ClassFile.FieldType.int)) ∈ WL := wlm (in5 (List.mem_of_getElem? (i := 62) (by decide +kernel))) (by decide +kernel)
theorem m1023 : (Jvm.Cond.methodLink "ArchTradesLaw" (31 : Nat) ({ cls := "ArchTradesModel", name := "drop", desc := "(I)I" } : Jvm.MethodName)) ∈ WL := wlm (in5 (List.mem_of_getElem? (i := 63) (by decide +kernel))) (by decide +kernel)
theorem m1024 : (Jvm.Cond.instanceMethod ({ cls := "ArchTradesModel", name := "drop", desc := "(I)I" } : Jvm.MethodName)) ∈ WL := wlm (in5 (List.mem_of_getElem? (i := 64) (by decide +kernel))) (by decide +kernel)
theorem m1025 : (Jvm.Cond.selects "ArchTradesModel" ({ cls := "ArchTradesModel", name := "drop", desc := "(I)I" } : Jvm.MethodName) ({ cls := "ArchTradesModel", name := "drop", desc := "(I)I" } : Jvm.MethodName)) ∈ WL := wlm (in5 (List.mem_of_getElem? (i := 65) (by decide +kernel))) (by decide +kernel)
theorem m1026 : (Jvm.Cond.code ({ cls := "ArchTradesModel", name := "drop", desc := "(I)I" } : Jvm.MethodName) prog_10_method_9_code (2 : Nat) (Option.some Jvm.ClassFile.FieldType.int)) ∈ WL := wlm (in5 (List.mem_of_getElem? (i := 66) (by decide +kernel))) (by decide +kernel)
theorem m1027 : (Jvm.Cond.methodLink "ArchTradesLaw" (38 : Nat) ({ cls := "ArchTradesModel", name := "feed", desc := "(JI)I" } : Jvm.MethodName)) ∈ WL := wlm (in5 (List.mem_of_getElem? (i := 67) (by decide +kernel))) (by decide +kernel)
theorem m1028 : (Jvm.Cond.instanceMethod ({ cls := "ArchTradesModel", name := "feed", desc := "(JI)I" } : Jvm.MethodName)) ∈ WL := wlm (in5 (List.mem_of_getElem? (i := 68) (by decide +kernel))) (by decide +kernel)
theorem m1029 : (Jvm.Cond.selects "ArchTradesModel" ({ cls := "ArchTradesModel", name := "feed", desc := "(JI)I" } : Jvm.MethodName) ({ cls := "ArchTradesModel", name := "feed", desc := "(JI)I" } : Jvm.MethodName)) ∈ WL := wlm (in5 (List.mem_of_getElem? (i := 69) (by decide +kernel))) (by decide +kernel)
theorem m1030 : (Jvm.Cond.code ({ cls := "ArchTradesModel", name := "feed", desc := "(JI)I" } : Jvm.MethodName) prog_10_method_10_code (5 : Nat) (Option.some Jvm.ClassFile.FieldType.int)) ∈ WL := wlm (in5 (List.mem_of_getElem? (i := 70) (by decide +kernel))) (by decide +kernel)
theorem m1031 : (Jvm.Cond.constantLong "ArchTradesModel" (90 : Nat) (8 : Int64)) ∈ WL := wlm (in5 (List.mem_of_getElem? (i := 71) (by decide +kernel))) (by decide +kernel)
theorem m1032 : (Jvm.Cond.constant "ArchTradesModel" (95 : Nat) (-1000003 : Int32)) ∈ WL := wlm (in5 (List.mem_of_getElem? (i := 72) (by decide +kernel))) (by decide +kernel)
theorem m1033 : (Jvm.Cond.constantLong "ArchTradesModel" (96 : Nat) (255 : Int64)) ∈ WL := wlm (in5 (List.mem_of_getElem? (i := 73) (by decide +kernel))) (by decide +kernel)
theorem m1034 : (Jvm.Cond.methodLink "ArchTradesLaw" (43 : Nat) ({ cls := "ArchTradesModel", name := "bridge", desc := "()I" } : Jvm.MethodName)) ∈ WL := wlm (in5 (List.mem_of_getElem? (i := 74) (by decide +kernel))) (by decide +kernel)
theorem m1035 : (Jvm.Cond.instanceMethod ({ cls := "ArchTradesModel", name := "bridge", desc := "()I" } : Jvm.MethodName)) ∈ WL := wlm (in5 (List.mem_of_getElem? (i := 75) (by decide +kernel))) (by decide +kernel)
theorem m1036 : (Jvm.Cond.selects "ArchTradesModel" ({ cls := "ArchTradesModel", name := "bridge", desc := "()I" } : Jvm.MethodName) ({ cls := "ArchTradesModel", name := "bridge", desc := "()I" } : Jvm.MethodName)) ∈ WL := wlm (in5 (List.mem_of_getElem? (i := 76) (by decide +kernel))) (by decide +kernel)
theorem m1037 : (Jvm.Cond.code ({ cls := "ArchTradesModel", name := "bridge", desc := "()I" } : Jvm.MethodName) prog_10_method_27_code (2 : Nat) (Option.some Jvm.ClassFile.FieldType.int)) ∈ WL := wlm (in5 (List.mem_of_getElem? (i := 77) (by decide +kernel))) (by decide +kernel)
theorem m1038 : (Jvm.Cond.methodLink "ArchTradesModel" (175 : Nat) ({ cls := "ArchTradesModel", name := "begin", desc := "()V" } : Jvm.MethodName)) ∈ WL := wlm (in5 (List.mem_of_getElem? (i := 78) (by decide +kernel))) (by decide +kernel)
theorem m1040 : (Jvm.Cond.instanceMethod ({ cls := "ArchTradesModel", name := "begin", desc := "()V" } : Jvm.MethodName)) ∈ WL := wlm (in5 (List.mem_of_getElem? (i := 80) (by decide +kernel))) (by decide +kernel)
theorem m1041 : (Jvm.Cond.code ({ cls := "ArchTradesModel", name := "begin", desc := "()V" } : Jvm.MethodName) prog_10_method_15_code (1 : Nat) (Option.none : Option Jvm.ClassFile.FieldType)) ∈ WL := wlm (in5 (List.mem_of_getElem? (i := 81) (by decide +kernel))) (by decide +kernel)
theorem m1042 : (Jvm.Cond.methodLink "ArchTradesModel" (126 : Nat) ({ cls := "ArchTradesModel", name := "next", desc := "()V" } : Jvm.MethodName)) ∈ WL := wlm (in5 (List.mem_of_getElem? (i := 82) (by decide +kernel))) (by decide +kernel)
theorem m1044 : (Jvm.Cond.instanceMethod ({ cls := "ArchTradesModel", name := "next", desc := "()V" } : Jvm.MethodName)) ∈ WL := wlm (in5 (List.mem_of_getElem? (i := 84) (by decide +kernel))) (by decide +kernel)
theorem m1045 : (Jvm.Cond.code ({ cls := "ArchTradesModel", name := "next", desc := "()V" } : Jvm.MethodName) prog_10_method_14_code (2 : Nat) (Option.none : Option Jvm.ClassFile.FieldType)) ∈ WL := wlm (in5 (List.mem_of_getElem? (i := 85) (by decide +kernel))) (by decide +kernel)
theorem m1046 : (Jvm.Cond.methodLink "ArchTradesModel" (105 : Nat) ({ cls := "ArchTradesModel", name := "byteAt", desc := "(I)I" } : Jvm.MethodName)) ∈ WL := wlm (in5 (List.mem_of_getElem? (i := 86) (by decide +kernel))) (by decide +kernel)
theorem m1048 : (Jvm.Cond.instanceMethod ({ cls := "ArchTradesModel", name := "byteAt", desc := "(I)I" } : Jvm.MethodName)) ∈ WL := wlm (in5 (List.mem_of_getElem? (i := 88) (by decide +kernel))) (by decide +kernel)
theorem m1049 : (Jvm.Cond.code ({ cls := "ArchTradesModel", name := "byteAt", desc := "(I)I" } : Jvm.MethodName) prog_10_method_11_code (2 : Nat) (Option.some Jvm.ClassFile.FieldType.int)) ∈ WL := wlm (in5 (List.mem_of_getElem? (i := 89) (by decide +kernel))) (by decide +kernel)
theorem m1050 : (Jvm.Cond.constant "ArchTradesModel" (101 : Nat) (-1000000 : Int32)) ∈ WL := wlm (in5 (List.mem_of_getElem? (i := 90) (by decide +kernel))) (by decide +kernel)
theorem m1051 : (Jvm.Cond.methodLink "ArchTradesModel" (114 : Nat) ({ cls := "ArchTradesModel", name := "isLetter", desc := "(I)Z" } : Jvm.MethodName)) ∈ WL := wlm (in5 (List.mem_of_getElem? (i := 91) (by decide +kernel))) (by decide +kernel)
theorem m1052 : (Jvm.Cond.static ({ cls := "ArchTradesModel", name := "isLetter", desc := "(I)Z" } : Jvm.MethodName)) ∈ WL := wlm (in5 (List.mem_of_getElem? (i := 92) (by decide +kernel))) (by decide +kernel)
theorem m1053 : (Jvm.Cond.code ({ cls := "ArchTradesModel", name := "isLetter", desc := "(I)Z" } : Jvm.MethodName) prog_10_method_12_code (1 : Nat) (Option.some Jvm.ClassFile.FieldType.boolean)) ∈ WL := wlm (in5 (List.mem_of_getElem? (i := 93) (by decide +kernel))) (by decide +kernel)
theorem m1054 : (Jvm.Cond.methodLink "ArchTradesModel" (117 : Nat) ({ cls := "ArchTradesModel", name := "isFigure", desc := "(I)Z" } : Jvm.MethodName)) ∈ WL := wlm (in5 (List.mem_of_getElem? (i := 94) (by decide +kernel))) (by decide +kernel)
theorem m1055 : (Jvm.Cond.static ({ cls := "ArchTradesModel", name := "isFigure", desc := "(I)Z" } : Jvm.MethodName)) ∈ WL := wlm (in5 (List.mem_of_getElem? (i := 95) (by decide +kernel))) (by decide +kernel)
theorem m1056 : (Jvm.Cond.code ({ cls := "ArchTradesModel", name := "isFigure", desc := "(I)Z" } : Jvm.MethodName) prog_10_method_13_code (1 : Nat) (Option.some Jvm.ClassFile.FieldType.boolean)) ∈ WL := wlm (in5 (List.mem_of_getElem? (i := 96) (by decide +kernel))) (by decide +kernel)
theorem m1057 : (Jvm.Cond.methodLink "ArchTradesModel" (178 : Nat) ({ cls := "ArchTradesModel", name := "readTide", desc := "()V" } : Jvm.MethodName)) ∈ WL := wlm (in5 (List.mem_of_getElem? (i := 97) (by decide +kernel))) (by decide +kernel)
theorem m1059 : (Jvm.Cond.instanceMethod ({ cls := "ArchTradesModel", name := "readTide", desc := "()V" } : Jvm.MethodName)) ∈ WL := wlm (in5 (List.mem_of_getElem? (i := 99) (by decide +kernel))) (by decide +kernel)
theorem m1060 : (Jvm.Cond.code ({ cls := "ArchTradesModel", name := "readTide", desc := "()V" } : Jvm.MethodName) prog_10_method_24_code (2 : Nat) (Option.none : Option Jvm.ClassFile.FieldType)) ∈ WL := wlm (in5 (List.mem_of_getElem? (i := 100) (by decide +kernel))) (by decide +kernel)
theorem m1061 : (Jvm.Cond.methodLink "ArchTradesModel" (154 : Nat) ({ cls := "ArchTradesModel", name := "name", desc := "()J" } : Jvm.MethodName)) ∈ WL := wlm (in5 (List.mem_of_getElem? (i := 101) (by decide +kernel))) (by decide +kernel)
theorem m1063 : (Jvm.Cond.instanceMethod ({ cls := "ArchTradesModel", name := "name", desc := "()J" } : Jvm.MethodName)) ∈ WL := wlm (in5 (List.mem_of_getElem? (i := 103) (by decide +kernel))) (by decide +kernel)
theorem m1064 : (Jvm.Cond.code ({ cls := "ArchTradesModel", name := "name", desc := "()J" } : Jvm.MethodName) prog_10_method_18_code (4 : Nat) (Option.some Jvm.ClassFile.FieldType.long)) ∈ WL := wlm (in5 (List.mem_of_getElem? (i := 104) (by decide +kernel))) (by decide +kernel)
theorem m1065 : (Jvm.Cond.constantLong "ArchTradesModel" (158 : Nat) (1953064037 : Int64)) ∈ WL := wlm (in5 (List.mem_of_getElem? (i := 105) (by decide +kernel))) (by decide +kernel)
theorem m1066 : (Jvm.Cond.methodLink "ArchTradesModel" (140 : Nat) ({ cls := "ArchTradesModel", name := "must", desc := "(Z)V" } : Jvm.MethodName)) ∈ WL := wlm (in5 (List.mem_of_getElem? (i := 106) (by decide +kernel))) (by decide +kernel)
theorem m1068 : (Jvm.Cond.instanceMethod ({ cls := "ArchTradesModel", name := "must", desc := "(Z)V" } : Jvm.MethodName)) ∈ WL := wlm (in5 (List.mem_of_getElem? (i := 108) (by decide +kernel))) (by decide +kernel)
theorem m1069 : (Jvm.Cond.code ({ cls := "ArchTradesModel", name := "must", desc := "(Z)V" } : Jvm.MethodName) prog_10_method_17_code (2 : Nat) (Option.none : Option Jvm.ClassFile.FieldType)) ∈ WL := wlm (in5 (List.mem_of_getElem? (i := 109) (by decide +kernel))) (by decide +kernel)
theorem m1070 : (Jvm.Cond.methodLink "ArchTradesModel" (132 : Nat) ({ cls := "ArchTradesModel", name := "bad", desc := "(I)V" } : Jvm.MethodName)) ∈ WL := wlm (in5 (List.mem_of_getElem? (i := 110) (by decide +kernel))) (by decide +kernel)
theorem m1072 : (Jvm.Cond.instanceMethod ({ cls := "ArchTradesModel", name := "bad", desc := "(I)V" } : Jvm.MethodName)) ∈ WL := wlm (in5 (List.mem_of_getElem? (i := 112) (by decide +kernel))) (by decide +kernel)
theorem m1073 : (Jvm.Cond.code ({ cls := "ArchTradesModel", name := "bad", desc := "(I)V" } : Jvm.MethodName) prog_10_method_16_code (2 : Nat) (Option.none : Option Jvm.ClassFile.FieldType)) ∈ WL := wlm (in5 (List.mem_of_getElem? (i := 113) (by decide +kernel))) (by decide +kernel)
theorem m1074 : (Jvm.Cond.methodLink "ArchTradesModel" (160 : Nat) ({ cls := "ArchTradesModel", name := "number", desc := "(II)I" } : Jvm.MethodName)) ∈ WL := wlm (in5 (List.mem_of_getElem? (i := 114) (by decide +kernel))) (by decide +kernel)
theorem m1076 : (Jvm.Cond.instanceMethod ({ cls := "ArchTradesModel", name := "number", desc := "(II)I" } : Jvm.MethodName)) ∈ WL := wlm (in5 (List.mem_of_getElem? (i := 116) (by decide +kernel))) (by decide +kernel)
theorem m1077 : (Jvm.Cond.code ({ cls := "ArchTradesModel", name := "number", desc := "(II)I" } : Jvm.MethodName) prog_10_method_20_code (4 : Nat) (Option.some Jvm.ClassFile.FieldType.int)) ∈ WL := wlm (in5 (List.mem_of_getElem? (i := 117) (by decide +kernel))) (by decide +kernel)
theorem m1078 : (Jvm.Cond.methodLink "ArchTradesModel" (136 : Nat) ({ cls := "ArchTradesModel", name := "figures", desc := "()I" } : Jvm.MethodName)) ∈ WL := wlm (in5 (List.mem_of_getElem? (i := 118) (by decide +kernel))) (by decide +kernel)
theorem m1080 : (Jvm.Cond.instanceMethod ({ cls := "ArchTradesModel", name := "figures", desc := "()I" } : Jvm.MethodName)) ∈ WL := wlm (in5 (List.mem_of_getElem? (i := 120) (by decide +kernel))) (by decide +kernel)
theorem m1081 : (Jvm.Cond.code ({ cls := "ArchTradesModel", name := "figures", desc := "()I" } : Jvm.MethodName) prog_10_method_19_code (3 : Nat) (Option.some Jvm.ClassFile.FieldType.int)) ∈ WL := wlm (in5 (List.mem_of_getElem? (i := 121) (by decide +kernel))) (by decide +kernel)
theorem m1082 : (Jvm.Cond.methodLink "ArchTradesModel" (164 : Nat) ({ cls := "ArchTradesModel", name := "mustEnd", desc := "()V" } : Jvm.MethodName)) ∈ WL := wlm (in5 (List.mem_of_getElem? (i := 122) (by decide +kernel))) (by decide +kernel)
theorem m1084 : (Jvm.Cond.instanceMethod ({ cls := "ArchTradesModel", name := "mustEnd", desc := "()V" } : Jvm.MethodName)) ∈ WL := wlm (in5 (List.mem_of_getElem? (i := 124) (by decide +kernel))) (by decide +kernel)
theorem m1085 : (Jvm.Cond.code ({ cls := "ArchTradesModel", name := "mustEnd", desc := "()V" } : Jvm.MethodName) prog_10_method_22_code (1 : Nat) (Option.none : Option Jvm.ClassFile.FieldType)) ∈ WL := wlm (in5 (List.mem_of_getElem? (i := 125) (by decide +kernel))) (by decide +kernel)
theorem m1086 : (Jvm.Cond.constantLong "ArchTradesModel" (181 : Nat) (1634886504 : Int64)) ∈ WL := wlm (in5 (List.mem_of_getElem? (i := 126) (by decide +kernel))) (by decide +kernel)
theorem m1087 : (Jvm.Cond.methodLink "ArchTradesModel" (183 : Nat) ({ cls := "ArchTradesModel", name := "readArch", desc := "()V" } : Jvm.MethodName)) ∈ WL := wlm (in5 (List.mem_of_getElem? (i := 127) (by decide +kernel))) (by decide +kernel)
theorem m1089 : (Jvm.Cond.instanceMethod ({ cls := "ArchTradesModel", name := "readArch", desc := "()V" } : Jvm.MethodName)) ∈ WL := wlm (in5 (List.mem_of_getElem? (i := 129) (by decide +kernel))) (by decide +kernel)
theorem m1090 : (Jvm.Cond.code ({ cls := "ArchTradesModel", name := "readArch", desc := "()V" } : Jvm.MethodName) prog_10_method_25_code (6 : Nat) (Option.none : Option Jvm.ClassFile.FieldType)) ∈ WL := wlm (in5 (List.mem_of_getElem? (i := 130) (by decide +kernel))) (by decide +kernel)
theorem m1091 : (Jvm.Cond.methodLink "ArchTradesModel" (167 : Nat) ({ cls := "ArchTradesModel", name := "begins", desc := "(II)V" } : Jvm.MethodName)) ∈ WL := wlm (in5 (List.mem_of_getElem? (i := 131) (by decide +kernel))) (by decide +kernel)
theorem m1093 : (Jvm.Cond.instanceMethod ({ cls := "ArchTradesModel", name := "begins", desc := "(II)V" } : Jvm.MethodName)) ∈ WL := wlm (in5 (List.mem_of_getElem? (i := 133) (by decide +kernel))) (by decide +kernel)
theorem m1094 : (Jvm.Cond.code ({ cls := "ArchTradesModel", name := "begins", desc := "(II)V" } : Jvm.MethodName) prog_10_method_23_code (3 : Nat) (Option.none : Option Jvm.ClassFile.FieldType)) ∈ WL := wlm (in5 (List.mem_of_getElem? (i := 134) (by decide +kernel))) (by decide +kernel)
theorem m1095 : (Jvm.Cond.constantLong "ArchTradesModel" (186 : Nat) (1651466612 : Int64)) ∈ WL := wlm (in5 (List.mem_of_getElem? (i := 135) (by decide +kernel))) (by decide +kernel)
theorem m1096 : (Jvm.Cond.methodLink "ArchTradesModel" (188 : Nat) ({ cls := "ArchTradesModel", name := "readBoat", desc := "()V" } : Jvm.MethodName)) ∈ WL := wlm (in5 (List.mem_of_getElem? (i := 136) (by decide +kernel))) (by decide +kernel)
theorem m1098 : (Jvm.Cond.instanceMethod ({ cls := "ArchTradesModel", name := "readBoat", desc := "()V" } : Jvm.MethodName)) ∈ WL := wlm (in5 (List.mem_of_getElem? (i := 138) (by decide +kernel))) (by decide +kernel)
theorem m1099 : (Jvm.Cond.code ({ cls := "ArchTradesModel", name := "readBoat", desc := "()V" } : Jvm.MethodName) prog_10_method_26_code (6 : Nat) (Option.none : Option Jvm.ClassFile.FieldType)) ∈ WL := wlm (in5 (List.mem_of_getElem? (i := 139) (by decide +kernel))) (by decide +kernel)
theorem m1100 : (Jvm.Cond.methodLink "ArchTradesModel" (171 : Nat) ({ cls := "ArchTradesModel", name := "kindBy", desc := "(J)I" } : Jvm.MethodName)) ∈ WL := wlm (in5 (List.mem_of_getElem? (i := 140) (by decide +kernel))) (by decide +kernel)
theorem m1101 : (Jvm.Cond.static ({ cls := "ArchTradesModel", name := "kindBy", desc := "(J)I" } : Jvm.MethodName)) ∈ WL := wlm (in5 (List.mem_of_getElem? (i := 141) (by decide +kernel))) (by decide +kernel)
theorem m1102 : (Jvm.Cond.code ({ cls := "ArchTradesModel", name := "kindBy", desc := "(J)I" } : Jvm.MethodName) prog_10_method_21_code (2 : Nat) (Option.some Jvm.ClassFile.FieldType.int)) ∈ WL := wlm (in5 (List.mem_of_getElem? (i := 142) (by decide +kernel))) (by decide +kernel)
theorem m1103 : (Jvm.Cond.constantLong "ArchTradesModel" (144 : Nat) (422541682533 : Int64)) ∈ WL := wlm (in5 (List.mem_of_getElem? (i := 143) (by decide +kernel))) (by decide +kernel)
theorem m1104 : (Jvm.Cond.constantLong "ArchTradesModel" (146 : Nat) (6516583 : Int64)) ∈ WL := wlm (in5 (List.mem_of_getElem? (i := 144) (by decide +kernel))) (by decide +kernel)
theorem m1105 : (Jvm.Cond.constantLong "ArchTradesModel" (148 : Nat) (1918985844 : Int64)) ∈ WL := wlm (in5 (List.mem_of_getElem? (i := 145) (by decide +kernel))) (by decide +kernel)
theorem m1106 : (Jvm.Cond.constantLong "ArchTradesModel" (150 : Nat) (1667330676 : Int64)) ∈ WL := wlm (in5 (List.mem_of_getElem? (i := 146) (by decide +kernel))) (by decide +kernel)
theorem m1107 : (Jvm.Cond.constantLong "ArchTradesModel" (152 : Nat) (2002872686 : Int64)) ∈ WL := wlm (in5 (List.mem_of_getElem? (i := 147) (by decide +kernel))) (by decide +kernel)
theorem m1108 : (Jvm.Cond.constant "ArchTradesModel" (194 : Nat) (-1000100 : Int32)) ∈ WL := wlm (in5 (List.mem_of_getElem? (i := 148) (by decide +kernel))) (by decide +kernel)
theorem m1109 : (Jvm.Cond.methodLink "ArchTradesLaw" (47 : Nat) ({ cls := "ArchTradesModel", name := "fault", desc := "()I" } : Jvm.MethodName)) ∈ WL := wlm (in5 (List.mem_of_getElem? (i := 149) (by decide +kernel))) (by decide +kernel)
theorem m1110 : (Jvm.Cond.instanceMethod ({ cls := "ArchTradesModel", name := "fault", desc := "()I" } : Jvm.MethodName)) ∈ WL := wlm (in5 (List.mem_of_getElem? (i := 150) (by decide +kernel))) (by decide +kernel)
theorem m1111 : (Jvm.Cond.selects "ArchTradesModel" ({ cls := "ArchTradesModel", name := "fault", desc := "()I" } : Jvm.MethodName) ({ cls := "ArchTradesModel", name := "fault", desc := "()I" } : Jvm.MethodName)) ∈ WL := wlm (in5 (List.mem_of_getElem? (i := 151) (by decide +kernel))) (by decide +kernel)
theorem m1112 : (Jvm.Cond.code ({ cls := "ArchTradesModel", name := "fault", desc := "()I" } : Jvm.MethodName) prog_10_method_28_code (1 : Nat) (Option.some Jvm.ClassFile.FieldType.int)) ∈ WL := wlm (in5 (List.mem_of_getElem? (i := 152) (by decide +kernel))) (by decide +kernel)
theorem m1113 : (Jvm.Cond.methodLink "ArchTradesLaw" (51 : Nat) ({ cls := "ArchTradesModel", name := "lend", desc := "(III)I" } : Jvm.MethodName)) ∈ WL := wlm (in5 (List.mem_of_getElem? (i := 153) (by decide +kernel))) (by decide +kernel)
theorem m1114 : (Jvm.Cond.instanceMethod ({ cls := "ArchTradesModel", name := "lend", desc := "(III)I" } : Jvm.MethodName)) ∈ WL := wlm (in5 (List.mem_of_getElem? (i := 154) (by decide +kernel))) (by decide +kernel)
theorem m1115 : (Jvm.Cond.selects "ArchTradesModel" ({ cls := "ArchTradesModel", name := "lend", desc := "(III)I" } : Jvm.MethodName) ({ cls := "ArchTradesModel", name := "lend", desc := "(III)I" } : Jvm.MethodName)) ∈ WL := wlm (in5 (List.mem_of_getElem? (i := 155) (by decide +kernel))) (by decide +kernel)
theorem m1116 : (Jvm.Cond.code ({ cls := "ArchTradesModel", name := "lend", desc := "(III)I" } : Jvm.MethodName) prog_10_method_44_code (4 : Nat) (Option.some Jvm.ClassFile.FieldType.int)) ∈ WL := wlm (in5 (List.mem_of_getElem? (i := 156) (by decide +kernel))) (by decide +kernel)
theorem m1117 : (Jvm.Cond.methodLink "ArchTradesModel" (229 : Nat) ({ cls := "ArchTradesModel", name := "isArch", desc := "(I)Z" } : Jvm.MethodName)) ∈ WL := wlm (in5 (List.mem_of_getElem? (i := 157) (by decide +kernel))) (by decide +kernel)
theorem m1119 : (Jvm.Cond.instanceMethod ({ cls := "ArchTradesModel", name := "isArch", desc := "(I)Z" } : Jvm.MethodName)) ∈ WL := wlm (in5 (List.mem_of_getElem? (i := 159) (by decide +kernel))) (by decide +kernel)
theorem m1120 : (Jvm.Cond.code ({ cls := "ArchTradesModel", name := "isArch", desc := "(I)Z" } : Jvm.MethodName) prog_10_method_29_code (2 : Nat) (Option.some Jvm.ClassFile.FieldType.boolean)) ∈ WL := wlm (in5 (List.mem_of_getElem? (i := 160) (by decide +kernel))) (by decide +kernel)
theorem m1121 : (Jvm.Cond.constantLong "ArchTradesModel" (232 : Nat) (4 : Int64)) ∈ WL := wlm (in5 (List.mem_of_getElem? (i := 161) (by decide +kernel))) (by decide +kernel)
theorem m1122 : (Jvm.Cond.methodLink "ArchTradesModel" (234 : Nat) ({ cls := "ArchTradesModel", name := "becomes", desc := "(II)I" } : Jvm.MethodName)) ∈ WL := wlm (in5 (List.mem_of_getElem? (i := 162) (by decide +kernel))) (by decide +kernel)
theorem m1124 : (Jvm.Cond.instanceMethod ({ cls := "ArchTradesModel", name := "becomes", desc := "(II)I" } : Jvm.MethodName)) ∈ WL := wlm (in5 (List.mem_of_getElem? (i := 164) (by decide +kernel))) (by decide +kernel)
theorem m1125 : (Jvm.Cond.code ({ cls := "ArchTradesModel", name := "becomes", desc := "(II)I" } : Jvm.MethodName) prog_10_method_43_code (4 : Nat) (Option.some Jvm.ClassFile.FieldType.int)) ∈ WL := wlm (in5 (List.mem_of_getElem? (i := 165) (by decide +kernel))) (by decide +kernel)
theorem m1126 : (Jvm.Cond.methodLink "ArchTradesModel" (226 : Nat) ({ cls := "ArchTradesModel", name := "keep", desc := "()V" } : Jvm.MethodName)) ∈ WL := wlm (in5 (List.mem_of_getElem? (i := 166) (by decide +kernel))) (by decide +kernel)
theorem m1128 : (Jvm.Cond.instanceMethod ({ cls := "ArchTradesModel", name := "keep", desc := "()V" } : Jvm.MethodName)) ∈ WL := wlm (in5 (List.mem_of_getElem? (i := 168) (by decide +kernel))) (by decide +kernel)
theorem m1129 : (Jvm.Cond.code ({ cls := "ArchTradesModel", name := "keep", desc := "()V" } : Jvm.MethodName) prog_10_method_42_code (2 : Nat) (Option.none : Option Jvm.ClassFile.FieldType)) ∈ WL := wlm (in5 (List.mem_of_getElem? (i := 169) (by decide +kernel))) (by decide +kernel)
theorem m1130 : (Jvm.Cond.methodLink "ArchTradesLaw" (56 : Nat) ({ cls := "ArchTradesModel", name := "shut", desc := "(II)I" } : Jvm.MethodName)) ∈ WL := wlm (in5 (List.mem_of_getElem? (i := 170) (by decide +kernel))) (by decide +kernel)
theorem m1131 : (Jvm.Cond.instanceMethod ({ cls := "ArchTradesModel", name := "shut", desc := "(II)I" } : Jvm.MethodName)) ∈ WL := wlm (in5 (List.mem_of_getElem? (i := 171) (by decide +kernel))) (by decide +kernel)
theorem m1132 : (Jvm.Cond.selects "ArchTradesModel" ({ cls := "ArchTradesModel", name := "shut", desc := "(II)I" } : Jvm.MethodName) ({ cls := "ArchTradesModel", name := "shut", desc := "(II)I" } : Jvm.MethodName)) ∈ WL := wlm (in5 (List.mem_of_getElem? (i := 172) (by decide +kernel))) (by decide +kernel)
theorem m1133 : (Jvm.Cond.code ({ cls := "ArchTradesModel", name := "shut", desc := "(II)I" } : Jvm.MethodName) prog_10_method_45_code (3 : Nat) (Option.some Jvm.ClassFile.FieldType.int)) ∈ WL := wlm (in5 (List.mem_of_getElem? (i := 173) (by decide +kernel))) (by decide +kernel)
theorem m1134 : (Jvm.Cond.methodLink "ArchTradesLaw" (60 : Nat) ({ cls := "ArchTradesModel", name := "pass", desc := "(II)I" } : Jvm.MethodName)) ∈ WL := wlm (in5 (List.mem_of_getElem? (i := 174) (by decide +kernel))) (by decide +kernel)
theorem m1135 : (Jvm.Cond.instanceMethod ({ cls := "ArchTradesModel", name := "pass", desc := "(II)I" } : Jvm.MethodName)) ∈ WL := wlm (in5 (List.mem_of_getElem? (i := 175) (by decide +kernel))) (by decide +kernel)
theorem m1136 : (Jvm.Cond.selects "ArchTradesModel" ({ cls := "ArchTradesModel", name := "pass", desc := "(II)I" } : Jvm.MethodName) ({ cls := "ArchTradesModel", name := "pass", desc := "(II)I" } : Jvm.MethodName)) ∈ WL := wlm (in5 (List.mem_of_getElem? (i := 176) (by decide +kernel))) (by decide +kernel)
theorem m1137 : (Jvm.Cond.code ({ cls := "ArchTradesModel", name := "pass", desc := "(II)I" } : Jvm.MethodName) prog_10_method_46_code (5 : Nat) (Option.some Jvm.ClassFile.FieldType.int)) ∈ WL := wlm (in5 (List.mem_of_getElem? (i := 177) (by decide +kernel))) (by decide +kernel)
theorem m1138 : (Jvm.Cond.methodLink "ArchTradesModel" (237 : Nat) ({ cls := "ArchTradesModel", name := "isBoat", desc := "(I)Z" } : Jvm.MethodName)) ∈ WL := wlm (in5 (List.mem_of_getElem? (i := 178) (by decide +kernel))) (by decide +kernel)
theorem m1140 : (Jvm.Cond.instanceMethod ({ cls := "ArchTradesModel", name := "isBoat", desc := "(I)Z" } : Jvm.MethodName)) ∈ WL := wlm (in5 (List.mem_of_getElem? (i := 180) (by decide +kernel))) (by decide +kernel)
theorem m1141 : (Jvm.Cond.code ({ cls := "ArchTradesModel", name := "isBoat", desc := "(I)Z" } : Jvm.MethodName) prog_10_method_30_code (2 : Nat) (Option.some Jvm.ClassFile.FieldType.boolean)) ∈ WL := wlm (in5 (List.mem_of_getElem? (i := 181) (by decide +kernel))) (by decide +kernel)
theorem m1142 : (Jvm.Cond.methodLink "ArchTradesModel" (219 : Nat) ({ cls := "ArchTradesModel", name := "sideOf", desc := "(I)I" } : Jvm.MethodName)) ∈ WL := wlm (in5 (List.mem_of_getElem? (i := 182) (by decide +kernel))) (by decide +kernel)
theorem m1144 : (Jvm.Cond.instanceMethod ({ cls := "ArchTradesModel", name := "sideOf", desc := "(I)I" } : Jvm.MethodName)) ∈ WL := wlm (in5 (List.mem_of_getElem? (i := 184) (by decide +kernel))) (by decide +kernel)
theorem m1145 : (Jvm.Cond.code ({ cls := "ArchTradesModel", name := "sideOf", desc := "(I)I" } : Jvm.MethodName) prog_10_method_38_code (2 : Nat) (Option.some Jvm.ClassFile.FieldType.int)) ∈ WL := wlm (in5 (List.mem_of_getElem? (i := 185) (by decide +kernel))) (by decide +kernel)
theorem m1146 : (Jvm.Cond.methodLink "ArchTradesModel" (206 : Nat) ({ cls := "ArchTradesModel", name := "of", desc := "(II)I" } : Jvm.MethodName)) ∈ WL := wlm (in5 (List.mem_of_getElem? (i := 186) (by decide +kernel))) (by decide +kernel)
theorem m1148 : (Jvm.Cond.instanceMethod ({ cls := "ArchTradesModel", name := "of", desc := "(II)I" } : Jvm.MethodName)) ∈ WL := wlm (in5 (List.mem_of_getElem? (i := 188) (by decide +kernel))) (by decide +kernel)
theorem m1149 : (Jvm.Cond.code ({ cls := "ArchTradesModel", name := "of", desc := "(II)I" } : Jvm.MethodName) prog_10_method_34_code (3 : Nat) (Option.some Jvm.ClassFile.FieldType.int)) ∈ WL := wlm (in5 (List.mem_of_getElem? (i := 189) (by decide +kernel))) (by decide +kernel)
theorem m1150 : (Jvm.Cond.methodLink "ArchTradesModel" (240 : Nat) ({ cls := "ArchTradesModel", name := "mayGo", desc := "(III)Z" } : Jvm.MethodName)) ∈ WL := wlm (in5 (List.mem_of_getElem? (i := 190) (by decide +kernel))) (by decide +kernel)
theorem m1152 : (Jvm.Cond.instanceMethod ({ cls := "ArchTradesModel", name := "mayGo", desc := "(III)Z" } : Jvm.MethodName)) ∈ WL := wlm (in5 (List.mem_of_getElem? (i := 192) (by decide +kernel))) (by decide +kernel)
theorem m1153 : (Jvm.Cond.code ({ cls := "ArchTradesModel", name := "mayGo", desc := "(III)Z" } : Jvm.MethodName) prog_10_method_41_code (4 : Nat) (Option.some Jvm.ClassFile.FieldType.boolean)) ∈ WL := wlm (in5 (List.mem_of_getElem? (i := 193) (by decide +kernel))) (by decide +kernel)
theorem m1154 : (Jvm.Cond.methodLink "ArchTradesModel" (212 : Nat) ({ cls := "ArchTradesModel", name := "archOf", desc := "(II)I" } : Jvm.MethodName)) ∈ WL := wlm (in5 (List.mem_of_getElem? (i := 194) (by decide +kernel))) (by decide +kernel)
theorem m1156 : (Jvm.Cond.instanceMethod ({ cls := "ArchTradesModel", name := "archOf", desc := "(II)I" } : Jvm.MethodName)) ∈ WL := wlm (in5 (List.mem_of_getElem? (i := 196) (by decide +kernel))) (by decide +kernel)
theorem m1157 : (Jvm.Cond.code ({ cls := "ArchTradesModel", name := "archOf", desc := "(II)I" } : Jvm.MethodName) prog_10_method_33_code (3 : Nat) (Option.some Jvm.ClassFile.FieldType.int)) ∈ WL := wlm (in5 (List.mem_of_getElem? (i := 197) (by decide +kernel))) (by decide +kernel)
theorem m1158 : (Jvm.Cond.methodLink "ArchTradesModel" (222 : Nat) ({ cls := "ArchTradesModel", name := "mayBy", desc := "(IIII)Z" } : Jvm.MethodName)) ∈ WL := wlm (in5 (List.mem_of_getElem? (i := 198) (by decide +kernel))) (by decide +kernel)
theorem m1160 : (Jvm.Cond.instanceMethod ({ cls := "ArchTradesModel", name := "mayBy", desc := "(IIII)Z" } : Jvm.MethodName)) ∈ WL := wlm (in5 (List.mem_of_getElem? (i := 200) (by decide +kernel))) (by decide +kernel)
theorem m1161 : (Jvm.Cond.code ({ cls := "ArchTradesModel", name := "mayBy", desc := "(IIII)Z" } : Jvm.MethodName) prog_10_method_40_code (6 : Nat) (Option.some Jvm.ClassFile.FieldType.boolean)) ∈ WL := wlm (in5 (List.mem_of_getElem? (i := 201) (by decide +kernel))) (by decide +kernel)
theorem m1162 : (Jvm.Cond.methodLink "ArchTradesModel" (209 : Nat) ({ cls := "ArchTradesModel", name := "tradesOf", desc := "(I)I" } : Jvm.MethodName)) ∈ WL := wlm (in5 (List.mem_of_getElem? (i := 202) (by decide +kernel))) (by decide +kernel)
theorem m1164 : (Jvm.Cond.instanceMethod ({ cls := "ArchTradesModel", name := "tradesOf", desc := "(I)I" } : Jvm.MethodName)) ∈ WL := wlm (in5 (List.mem_of_getElem? (i := 204) (by decide +kernel))) (by decide +kernel)
theorem m1165 : (Jvm.Cond.code ({ cls := "ArchTradesModel", name := "tradesOf", desc := "(I)I" } : Jvm.MethodName) prog_10_method_36_code (4 : Nat) (Option.some Jvm.ClassFile.FieldType.int)) ∈ WL := wlm (in5 (List.mem_of_getElem? (i := 205) (by decide +kernel))) (by decide +kernel)
theorem m1166 : (Jvm.Cond.methodLink "ArchTradesModel" (215 : Nat) ({ cls := "ArchTradesModel", name := "letsBy", desc := "(II)Z" } : Jvm.MethodName)) ∈ WL := wlm (in5 (List.mem_of_getElem? (i := 206) (by decide +kernel))) (by decide +kernel)
theorem m1167 : (Jvm.Cond.static ({ cls := "ArchTradesModel", name := "letsBy", desc := "(II)Z" } : Jvm.MethodName)) ∈ WL := wlm (in5 (List.mem_of_getElem? (i := 207) (by decide +kernel))) (by decide +kernel)
theorem m1168 : (Jvm.Cond.code ({ cls := "ArchTradesModel", name := "letsBy", desc := "(II)Z" } : Jvm.MethodName) prog_10_method_39_code (2 : Nat) (Option.some Jvm.ClassFile.FieldType.boolean)) ∈ WL := wlm (in5 (List.mem_of_getElem? (i := 208) (by decide +kernel))) (by decide +kernel)
theorem m1169 : (Jvm.Cond.constant "ArchTradesModel" (244 : Nat) (-1000002 : Int32)) ∈ WL := wlm (in5 (List.mem_of_getElem? (i := 209) (by decide +kernel))) (by decide +kernel)
theorem m1170 : (Jvm.Cond.methodLink "ArchTradesModel" (245 : Nat) ({ cls := "ArchTradesModel", name := "allOf", desc := "(I)I" } : Jvm.MethodName)) ∈ WL := wlm (in5 (List.mem_of_getElem? (i := 210) (by decide +kernel))) (by decide +kernel)
theorem m1172 : (Jvm.Cond.instanceMethod ({ cls := "ArchTradesModel", name := "allOf", desc := "(I)I" } : Jvm.MethodName)) ∈ WL := wlm (in5 (List.mem_of_getElem? (i := 212) (by decide +kernel))) (by decide +kernel)
theorem m1173 : (Jvm.Cond.code ({ cls := "ArchTradesModel", name := "allOf", desc := "(I)I" } : Jvm.MethodName) prog_10_method_35_code (4 : Nat) (Option.some Jvm.ClassFile.FieldType.int)) ∈ WL := wlm (in5 (List.mem_of_getElem? (i := 213) (by decide +kernel))) (by decide +kernel)
theorem m1174 : (Jvm.Cond.methodLink "ArchTradesModel" (248 : Nat) ({ cls := "ArchTradesModel", name := "isMixed", desc := "(I)Z" } : Jvm.MethodName)) ∈ WL := wlm (in5 (List.mem_of_getElem? (i := 214) (by decide +kernel))) (by decide +kernel)
theorem m1176 : (Jvm.Cond.instanceMethod ({ cls := "ArchTradesModel", name := "isMixed", desc := "(I)Z" } : Jvm.MethodName)) ∈ WL := wlm (in5 (List.mem_of_getElem? (i := 216) (by decide +kernel))) (by decide +kernel)
theorem m1177 : (Jvm.Cond.code ({ cls := "ArchTradesModel", name := "isMixed", desc := "(I)Z" } : Jvm.MethodName) prog_10_method_37_code (3 : Nat) (Option.some Jvm.ClassFile.FieldType.boolean)) ∈ WL := wlm (in5 (List.mem_of_getElem? (i := 217) (by decide +kernel))) (by decide +kernel)
theorem m1178 : (Jvm.Cond.methodLink "ArchTradesLaw" (64 : Nat) ({ cls := "ArchTradesModel", name := "split", desc := "(II)I" } : Jvm.MethodName)) ∈ WL := wlm (in5 (List.mem_of_getElem? (i := 218) (by decide +kernel))) (by decide +kernel)
theorem m1179 : (Jvm.Cond.instanceMethod ({ cls := "ArchTradesModel", name := "split", desc := "(II)I" } : Jvm.MethodName)) ∈ WL := wlm (in5 (List.mem_of_getElem? (i := 219) (by decide +kernel))) (by decide +kernel)
theorem m1180 : (Jvm.Cond.selects "ArchTradesModel" ({ cls := "ArchTradesModel", name := "split", desc := "(II)I" } : Jvm.MethodName) ({ cls := "ArchTradesModel", name := "split", desc := "(II)I" } : Jvm.MethodName)) ∈ WL := wlm (in5 (List.mem_of_getElem? (i := 220) (by decide +kernel))) (by decide +kernel)
theorem m1181 : (Jvm.Cond.code ({ cls := "ArchTradesModel", name := "split", desc := "(II)I" } : Jvm.MethodName) prog_10_method_47_code (6 : Nat) (Option.some Jvm.ClassFile.FieldType.int)) ∈ WL := wlm (in5 (List.mem_of_getElem? (i := 221) (by decide +kernel))) (by decide +kernel)
theorem m1182 : (Jvm.Cond.methodLink "ArchTradesModel" (251 : Nat) ({ cls := "ArchTradesModel", name := "isTrade", desc := "(I)Z" } : Jvm.MethodName)) ∈ WL := wlm (in5 (List.mem_of_getElem? (i := 222) (by decide +kernel))) (by decide +kernel)
theorem m1183 : (Jvm.Cond.static ({ cls := "ArchTradesModel", name := "isTrade", desc := "(I)Z" } : Jvm.MethodName)) ∈ WL := wlm (in5 (List.mem_of_getElem? (i := 223) (by decide +kernel))) (by decide +kernel)
theorem m1184 : (Jvm.Cond.code ({ cls := "ArchTradesModel", name := "isTrade", desc := "(I)Z" } : Jvm.MethodName) prog_10_method_32_code (1 : Nat) (Option.some Jvm.ClassFile.FieldType.boolean)) ∈ WL := wlm (in5 (List.mem_of_getElem? (i := 224) (by decide +kernel))) (by decide +kernel)
theorem m1185 : (Jvm.Cond.constantLong "ArchTradesModel" (204 : Nat) (3 : Int64)) ∈ WL := wlm (in5 (List.mem_of_getElem? (i := 225) (by decide +kernel))) (by decide +kernel)
theorem m1186 : (Jvm.Cond.methodLink "ArchTradesLaw" (68 : Nat) ({ cls := "ArchTradesModel", name := "hour", desc := "()I" } : Jvm.MethodName)) ∈ WL := wlm (in5 (List.mem_of_getElem? (i := 226) (by decide +kernel))) (by decide +kernel)
theorem m1187 : (Jvm.Cond.instanceMethod ({ cls := "ArchTradesModel", name := "hour", desc := "()I" } : Jvm.MethodName)) ∈ WL := wlm (in5 (List.mem_of_getElem? (i := 227) (by decide +kernel))) (by decide +kernel)
theorem m1188 : (Jvm.Cond.selects "ArchTradesModel" ({ cls := "ArchTradesModel", name := "hour", desc := "()I" } : Jvm.MethodName) ({ cls := "ArchTradesModel", name := "hour", desc := "()I" } : Jvm.MethodName)) ∈ WL := wlm (in5 (List.mem_of_getElem? (i := 228) (by decide +kernel))) (by decide +kernel)
theorem m1189 : (Jvm.Cond.code ({ cls := "ArchTradesModel", name := "hour", desc := "()I" } : Jvm.MethodName) prog_10_method_48_code (2 : Nat) (Option.some Jvm.ClassFile.FieldType.int)) ∈ WL := wlm (in5 (List.mem_of_getElem? (i := 229) (by decide +kernel))) (by decide +kernel)
theorem m1190 : (Jvm.Cond.methodLink "ArchTradesLaw" (72 : Nat) ({ cls := "ArchTradesModel", name := "undo", desc := "()I" } : Jvm.MethodName)) ∈ WL := wlm (in5 (List.mem_of_getElem? (i := 230) (by decide +kernel))) (by decide +kernel)
theorem m1191 : (Jvm.Cond.instanceMethod ({ cls := "ArchTradesModel", name := "undo", desc := "()I" } : Jvm.MethodName)) ∈ WL := wlm (in5 (List.mem_of_getElem? (i := 231) (by decide +kernel))) (by decide +kernel)
theorem m1192 : (Jvm.Cond.selects "ArchTradesModel" ({ cls := "ArchTradesModel", name := "undo", desc := "()I" } : Jvm.MethodName) ({ cls := "ArchTradesModel", name := "undo", desc := "()I" } : Jvm.MethodName)) ∈ WL := wlm (in5 (List.mem_of_getElem? (i := 232) (by decide +kernel))) (by decide +kernel)
theorem m1193 : (Jvm.Cond.code ({ cls := "ArchTradesModel", name := "undo", desc := "()I" } : Jvm.MethodName) prog_10_method_49_code (2 : Nat) (Option.some Jvm.ClassFile.FieldType.int)) ∈ WL := wlm (in5 (List.mem_of_getElem? (i := 233) (by decide +kernel))) (by decide +kernel)
theorem m1194 : (Jvm.Cond.methodLink "ArchTradesLaw" (76 : Nat) ({ cls := "ArchTradesModel", name := "arch", desc := "(II)I" } : Jvm.MethodName)) ∈ WL := wlm (in5 (List.mem_of_getElem? (i := 234) (by decide +kernel))) (by decide +kernel)
theorem m1195 : (Jvm.Cond.instanceMethod ({ cls := "ArchTradesModel", name := "arch", desc := "(II)I" } : Jvm.MethodName)) ∈ WL := wlm (in5 (List.mem_of_getElem? (i := 235) (by decide +kernel))) (by decide +kernel)
theorem m1196 : (Jvm.Cond.selects "ArchTradesModel" ({ cls := "ArchTradesModel", name := "arch", desc := "(II)I" } : Jvm.MethodName) ({ cls := "ArchTradesModel", name := "arch", desc := "(II)I" } : Jvm.MethodName)) ∈ WL := wlm (in5 (List.mem_of_getElem? (i := 236) (by decide +kernel))) (by decide +kernel)
theorem m1197 : (Jvm.Cond.code ({ cls := "ArchTradesModel", name := "arch", desc := "(II)I" } : Jvm.MethodName) prog_10_method_50_code (3 : Nat) (Option.some Jvm.ClassFile.FieldType.int)) ∈ WL := wlm (in5 (List.mem_of_getElem? (i := 237) (by decide +kernel))) (by decide +kernel)
theorem m1198 : (Jvm.Cond.constantLong "ArchTradesModel" (254 : Nat) (6 : Int64)) ∈ WL := wlm (in5 (List.mem_of_getElem? (i := 238) (by decide +kernel))) (by decide +kernel)
theorem m1199 : (Jvm.Cond.methodLink "ArchTradesLaw" (80 : Nat) ({ cls := "ArchTradesModel", name := "boat", desc := "(II)I" } : Jvm.MethodName)) ∈ WL := wlm (in5 (List.mem_of_getElem? (i := 239) (by decide +kernel))) (by decide +kernel)
theorem m1200 : (Jvm.Cond.instanceMethod ({ cls := "ArchTradesModel", name := "boat", desc := "(II)I" } : Jvm.MethodName)) ∈ WL := wlm (in6 (List.mem_of_getElem? (i := 0) (by decide +kernel))) (by decide +kernel)
theorem m1201 : (Jvm.Cond.selects "ArchTradesModel" ({ cls := "ArchTradesModel", name := "boat", desc := "(II)I" } : Jvm.MethodName) ({ cls := "ArchTradesModel", name := "boat", desc := "(II)I" } : Jvm.MethodName)) ∈ WL := wlm (in6 (List.mem_of_getElem? (i := 1) (by decide +kernel))) (by decide +kernel)
theorem m1202 : (Jvm.Cond.code ({ cls := "ArchTradesModel", name := "boat", desc := "(II)I" } : Jvm.MethodName) prog_10_method_52_code (3 : Nat) (Option.some Jvm.ClassFile.FieldType.int)) ∈ WL := wlm (in6 (List.mem_of_getElem? (i := 2) (by decide +kernel))) (by decide +kernel)
theorem m1203 : (Jvm.Cond.methodLink "ArchTradesModel" (256 : Nat) ({ cls := "ArchTradesModel", name := "portersOf", desc := "(I)I" } : Jvm.MethodName)) ∈ WL := wlm (in6 (List.mem_of_getElem? (i := 3) (by decide +kernel))) (by decide +kernel)
theorem m1205 : (Jvm.Cond.instanceMethod ({ cls := "ArchTradesModel", name := "portersOf", desc := "(I)I" } : Jvm.MethodName)) ∈ WL := wlm (in6 (List.mem_of_getElem? (i := 5) (by decide +kernel))) (by decide +kernel)
theorem m1206 : (Jvm.Cond.code ({ cls := "ArchTradesModel", name := "portersOf", desc := "(I)I" } : Jvm.MethodName) prog_10_method_51_code (4 : Nat) (Option.some Jvm.ClassFile.FieldType.int)) ∈ WL := wlm (in6 (List.mem_of_getElem? (i := 6) (by decide +kernel))) (by decide +kernel)
theorem m1207 : (Jvm.Cond.methodLink "ArchTradesLaw" (84 : Nat) ({ cls := "ArchTradesModel", name := "may", desc := "(II)I" } : Jvm.MethodName)) ∈ WL := wlm (in6 (List.mem_of_getElem? (i := 7) (by decide +kernel))) (by decide +kernel)
theorem m1208 : (Jvm.Cond.instanceMethod ({ cls := "ArchTradesModel", name := "may", desc := "(II)I" } : Jvm.MethodName)) ∈ WL := wlm (in6 (List.mem_of_getElem? (i := 8) (by decide +kernel))) (by decide +kernel)
theorem m1209 : (Jvm.Cond.selects "ArchTradesModel" ({ cls := "ArchTradesModel", name := "may", desc := "(II)I" } : Jvm.MethodName) ({ cls := "ArchTradesModel", name := "may", desc := "(II)I" } : Jvm.MethodName)) ∈ WL := wlm (in6 (List.mem_of_getElem? (i := 9) (by decide +kernel))) (by decide +kernel)
theorem m1210 : (Jvm.Cond.code ({ cls := "ArchTradesModel", name := "may", desc := "(II)I" } : Jvm.MethodName) prog_10_method_53_code (5 : Nat) (Option.some Jvm.ClassFile.FieldType.int)) ∈ WL := wlm (in6 (List.mem_of_getElem? (i := 10) (by decide +kernel))) (by decide +kernel)
theorem m1211 : (Jvm.Cond.methodLink "ArchTradesModel" (259 : Nat) ({ cls := "ArchTradesModel", name := "isHour", desc := "(I)Z" } : Jvm.MethodName)) ∈ WL := wlm (in6 (List.mem_of_getElem? (i := 11) (by decide +kernel))) (by decide +kernel)
theorem m1212 : (Jvm.Cond.static ({ cls := "ArchTradesModel", name := "isHour", desc := "(I)Z" } : Jvm.MethodName)) ∈ WL := wlm (in6 (List.mem_of_getElem? (i := 12) (by decide +kernel))) (by decide +kernel)
theorem m1213 : (Jvm.Cond.code ({ cls := "ArchTradesModel", name := "isHour", desc := "(I)Z" } : Jvm.MethodName) prog_10_method_31_code (1 : Nat) (Option.some Jvm.ClassFile.FieldType.boolean)) ∈ WL := wlm (in6 (List.mem_of_getElem? (i := 13) (by decide +kernel))) (by decide +kernel)
theorem m1214 : (Jvm.Cond.constantLong "ArchTradesModel" (202 : Nat) (11 : Int64)) ∈ WL := wlm (in6 (List.mem_of_getElem? (i := 14) (by decide +kernel))) (by decide +kernel)
theorem m1215 : (Jvm.Cond.methodLink "ArchTradesLaw" (88 : Nat) ({ cls := "ArchTradesModel", name := "most", desc := "(III)I" } : Jvm.MethodName)) ∈ WL := wlm (in6 (List.mem_of_getElem? (i := 15) (by decide +kernel))) (by decide +kernel)
theorem m1216 : (Jvm.Cond.instanceMethod ({ cls := "ArchTradesModel", name := "most", desc := "(III)I" } : Jvm.MethodName)) ∈ WL := wlm (in6 (List.mem_of_getElem? (i := 16) (by decide +kernel))) (by decide +kernel)
theorem m1217 : (Jvm.Cond.selects "ArchTradesModel" ({ cls := "ArchTradesModel", name := "most", desc := "(III)I" } : Jvm.MethodName) ({ cls := "ArchTradesModel", name := "most", desc := "(III)I" } : Jvm.MethodName)) ∈ WL := wlm (in6 (List.mem_of_getElem? (i := 17) (by decide +kernel))) (by decide +kernel)
theorem m1218 : (Jvm.Cond.code ({ cls := "ArchTradesModel", name := "most", desc := "(III)I" } : Jvm.MethodName) prog_10_method_62_code (7 : Nat) (Option.some Jvm.ClassFile.FieldType.int)) ∈ WL := wlm (in6 (List.mem_of_getElem? (i := 18) (by decide +kernel))) (by decide +kernel)
theorem m1219 : (Jvm.Cond.methodLink "ArchTradesModel" (280 : Nat) ({ cls := "ArchTradesModel", name := "areHours", desc := "(II)Z" } : Jvm.MethodName)) ∈ WL := wlm (in6 (List.mem_of_getElem? (i := 19) (by decide +kernel))) (by decide +kernel)
theorem m1220 : (Jvm.Cond.static ({ cls := "ArchTradesModel", name := "areHours", desc := "(II)Z" } : Jvm.MethodName)) ∈ WL := wlm (in6 (List.mem_of_getElem? (i := 20) (by decide +kernel))) (by decide +kernel)
theorem m1221 : (Jvm.Cond.code ({ cls := "ArchTradesModel", name := "areHours", desc := "(II)Z" } : Jvm.MethodName) prog_10_method_61_code (2 : Nat) (Option.some Jvm.ClassFile.FieldType.boolean)) ∈ WL := wlm (in6 (List.mem_of_getElem? (i := 21) (by decide +kernel))) (by decide +kernel)
theorem m1222 : (Jvm.Cond.constantLong "ArchTradesModel" (283 : Nat) (-1 : Int64)) ∈ WL := wlm (in6 (List.mem_of_getElem? (i := 22) (by decide +kernel))) (by decide +kernel)
theorem m1223 : (Jvm.Cond.methodLink "ArchTradesModel" (285 : Nat) ({ cls := "ArchTradesModel", name := "layCharters", desc := "()V" } : Jvm.MethodName)) ∈ WL := wlm (in6 (List.mem_of_getElem? (i := 23) (by decide +kernel))) (by decide +kernel)
theorem m1225 : (Jvm.Cond.instanceMethod ({ cls := "ArchTradesModel", name := "layCharters", desc := "()V" } : Jvm.MethodName)) ∈ WL := wlm (in6 (List.mem_of_getElem? (i := 25) (by decide +kernel))) (by decide +kernel)
theorem m1226 : (Jvm.Cond.code ({ cls := "ArchTradesModel", name := "layCharters", desc := "()V" } : Jvm.MethodName) prog_10_method_54_code (2 : Nat) (Option.none : Option Jvm.ClassFile.FieldType)) ∈ WL := wlm (in6 (List.mem_of_getElem? (i := 26) (by decide +kernel))) (by decide +kernel)
theorem m1227 : (Jvm.Cond.methodLink "ArchTradesModel" (288 : Nat) ({ cls := "ArchTradesModel", name := "noneTaken", desc := "()V" } : Jvm.MethodName)) ∈ WL := wlm (in6 (List.mem_of_getElem? (i := 27) (by decide +kernel))) (by decide +kernel)
theorem m1229 : (Jvm.Cond.instanceMethod ({ cls := "ArchTradesModel", name := "noneTaken", desc := "()V" } : Jvm.MethodName)) ∈ WL := wlm (in6 (List.mem_of_getElem? (i := 29) (by decide +kernel))) (by decide +kernel)
theorem m1230 : (Jvm.Cond.code ({ cls := "ArchTradesModel", name := "noneTaken", desc := "()V" } : Jvm.MethodName) prog_10_method_59_code (2 : Nat) (Option.none : Option Jvm.ClassFile.FieldType)) ∈ WL := wlm (in6 (List.mem_of_getElem? (i := 30) (by decide +kernel))) (by decide +kernel)
theorem m1231 : (Jvm.Cond.methodLink "ArchTradesModel" (277 : Nat) ({ cls := "ArchTradesModel", name := "mostFrom", desc := "(I)I" } : Jvm.MethodName)) ∈ WL := wlm (in6 (List.mem_of_getElem? (i := 31) (by decide +kernel))) (by decide +kernel)
theorem m1233 : (Jvm.Cond.instanceMethod ({ cls := "ArchTradesModel", name := "mostFrom", desc := "(I)I" } : Jvm.MethodName)) ∈ WL := wlm (in6 (List.mem_of_getElem? (i := 33) (by decide +kernel))) (by decide +kernel)
theorem m1234 : (Jvm.Cond.code ({ cls := "ArchTradesModel", name := "mostFrom", desc := "(I)I" } : Jvm.MethodName) prog_10_method_58_code (4 : Nat) (Option.some Jvm.ClassFile.FieldType.int)) ∈ WL := wlm (in6 (List.mem_of_getElem? (i := 34) (by decide +kernel))) (by decide +kernel)
theorem m1235 : (Jvm.Cond.methodLink "ArchTradesModel" (274 : Nat) ({ cls := "ArchTradesModel", name := "putsOne", desc := "(I)Z" } : Jvm.MethodName)) ∈ WL := wlm (in6 (List.mem_of_getElem? (i := 35) (by decide +kernel))) (by decide +kernel)
theorem m1237 : (Jvm.Cond.instanceMethod ({ cls := "ArchTradesModel", name := "putsOne", desc := "(I)Z" } : Jvm.MethodName)) ∈ WL := wlm (in6 (List.mem_of_getElem? (i := 37) (by decide +kernel))) (by decide +kernel)
theorem m1238 : (Jvm.Cond.code ({ cls := "ArchTradesModel", name := "putsOne", desc := "(I)Z" } : Jvm.MethodName) prog_10_method_57_code (5 : Nat) (Option.some Jvm.ClassFile.FieldType.boolean)) ∈ WL := wlm (in6 (List.mem_of_getElem? (i := 38) (by decide +kernel))) (by decide +kernel)
theorem m1239 : (Jvm.Cond.methodLink "ArchTradesModel" (268 : Nat) ({ cls := "ArchTradesModel", name := "canBe", desc := "(II)Z" } : Jvm.MethodName)) ∈ WL := wlm (in6 (List.mem_of_getElem? (i := 39) (by decide +kernel))) (by decide +kernel)
theorem m1241 : (Jvm.Cond.instanceMethod ({ cls := "ArchTradesModel", name := "canBe", desc := "(II)Z" } : Jvm.MethodName)) ∈ WL := wlm (in6 (List.mem_of_getElem? (i := 41) (by decide +kernel))) (by decide +kernel)
theorem m1242 : (Jvm.Cond.code ({ cls := "ArchTradesModel", name := "canBe", desc := "(II)Z" } : Jvm.MethodName) prog_10_method_55_code (5 : Nat) (Option.some Jvm.ClassFile.FieldType.boolean)) ∈ WL := wlm (in6 (List.mem_of_getElem? (i := 42) (by decide +kernel))) (by decide +kernel)
theorem m1243 : (Jvm.Cond.methodLink "ArchTradesModel" (271 : Nat) ({ cls := "ArchTradesModel", name := "shift", desc := "(I)V" } : Jvm.MethodName)) ∈ WL := wlm (in6 (List.mem_of_getElem? (i := 43) (by decide +kernel))) (by decide +kernel)
theorem m1245 : (Jvm.Cond.instanceMethod ({ cls := "ArchTradesModel", name := "shift", desc := "(I)V" } : Jvm.MethodName)) ∈ WL := wlm (in6 (List.mem_of_getElem? (i := 45) (by decide +kernel))) (by decide +kernel)
theorem m1246 : (Jvm.Cond.code ({ cls := "ArchTradesModel", name := "shift", desc := "(I)V" } : Jvm.MethodName) prog_10_method_56_code (5 : Nat) (Option.none : Option Jvm.ClassFile.FieldType)) ∈ WL := wlm (in6 (List.mem_of_getElem? (i := 46) (by decide +kernel))) (by decide +kernel)
theorem m1247 : (Jvm.Cond.methodLink "ArchTradesModel" (291 : Nat) ({ cls := "ArchTradesModel", name := "firstOf", desc := "(II)I" } : Jvm.MethodName)) ∈ WL := wlm (in6 (List.mem_of_getElem? (i := 47) (by decide +kernel))) (by decide +kernel)
theorem m1249 : (Jvm.Cond.instanceMethod ({ cls := "ArchTradesModel", name := "firstOf", desc := "(II)I" } : Jvm.MethodName)) ∈ WL := wlm (in6 (List.mem_of_getElem? (i := 49) (by decide +kernel))) (by decide +kernel)
theorem m1250 : (Jvm.Cond.code ({ cls := "ArchTradesModel", name := "firstOf", desc := "(II)I" } : Jvm.MethodName) prog_10_method_60_code (5 : Nat) (Option.some Jvm.ClassFile.FieldType.int)) ∈ WL := wlm (in6 (List.mem_of_getElem? (i := 50) (by decide +kernel))) (by decide +kernel)
theorem m1251 : (Jvm.Cond.methodLink "ArchTradesLaw" (92 : Nat) ({ cls := "ArchTradesModel", name := "anew", desc := "(III)I" } : Jvm.MethodName)) ∈ WL := wlm (in6 (List.mem_of_getElem? (i := 51) (by decide +kernel))) (by decide +kernel)
theorem m1252 : (Jvm.Cond.instanceMethod ({ cls := "ArchTradesModel", name := "anew", desc := "(III)I" } : Jvm.MethodName)) ∈ WL := wlm (in6 (List.mem_of_getElem? (i := 52) (by decide +kernel))) (by decide +kernel)
theorem m1253 : (Jvm.Cond.selects "ArchTradesModel" ({ cls := "ArchTradesModel", name := "anew", desc := "(III)I" } : Jvm.MethodName) ({ cls := "ArchTradesModel", name := "anew", desc := "(III)I" } : Jvm.MethodName)) ∈ WL := wlm (in6 (List.mem_of_getElem? (i := 53) (by decide +kernel))) (by decide +kernel)
theorem m1254 : (Jvm.Cond.code ({ cls := "ArchTradesModel", name := "anew", desc := "(III)I" } : Jvm.MethodName) prog_10_method_66_code (8 : Nat) (Option.some Jvm.ClassFile.FieldType.int)) ∈ WL := wlm (in6 (List.mem_of_getElem? (i := 54) (by decide +kernel))) (by decide +kernel)
theorem m1255 : (Jvm.Cond.methodLink "ArchTradesModel" (297 : Nat) ({ cls := "ArchTradesModel", name := "sortCharters", desc := "()V" } : Jvm.MethodName)) ∈ WL := wlm (in6 (List.mem_of_getElem? (i := 55) (by decide +kernel))) (by decide +kernel)
theorem m1257 : (Jvm.Cond.instanceMethod ({ cls := "ArchTradesModel", name := "sortCharters", desc := "()V" } : Jvm.MethodName)) ∈ WL := wlm (in6 (List.mem_of_getElem? (i := 57) (by decide +kernel))) (by decide +kernel)
theorem m1258 : (Jvm.Cond.code ({ cls := "ArchTradesModel", name := "sortCharters", desc := "()V" } : Jvm.MethodName) prog_10_method_65_code (3 : Nat) (Option.none : Option Jvm.ClassFile.FieldType)) ∈ WL := wlm (in6 (List.mem_of_getElem? (i := 58) (by decide +kernel))) (by decide +kernel)
theorem m1259 : (Jvm.Cond.methodLink "ArchTradesModel" (294 : Nat) ({ cls := "ArchTradesModel", name := "swap", desc := "(II)V" } : Jvm.MethodName)) ∈ WL := wlm (in6 (List.mem_of_getElem? (i := 59) (by decide +kernel))) (by decide +kernel)
theorem m1261 : (Jvm.Cond.instanceMethod ({ cls := "ArchTradesModel", name := "swap", desc := "(II)V" } : Jvm.MethodName)) ∈ WL := wlm (in6 (List.mem_of_getElem? (i := 61) (by decide +kernel))) (by decide +kernel)
theorem m1262 : (Jvm.Cond.code ({ cls := "ArchTradesModel", name := "swap", desc := "(II)V" } : Jvm.MethodName) prog_10_method_64_code (4 : Nat) (Option.none : Option Jvm.ClassFile.FieldType)) ∈ WL := wlm (in6 (List.mem_of_getElem? (i := 62) (by decide +kernel))) (by decide +kernel)
theorem m1263 : (Jvm.Cond.methodLink "ArchTradesModel" (300 : Nat) ({ cls := "ArchTradesModel", name := "nextCharters", desc := "()Z" } : Jvm.MethodName)) ∈ WL := wlm (in6 (List.mem_of_getElem? (i := 63) (by decide +kernel))) (by decide +kernel)
theorem m1265 : (Jvm.Cond.instanceMethod ({ cls := "ArchTradesModel", name := "nextCharters", desc := "()Z" } : Jvm.MethodName)) ∈ WL := wlm (in6 (List.mem_of_getElem? (i := 65) (by decide +kernel))) (by decide +kernel)
theorem m1266 : (Jvm.Cond.code ({ cls := "ArchTradesModel", name := "nextCharters", desc := "()Z" } : Jvm.MethodName) prog_10_method_63_code (6 : Nat) (Option.some Jvm.ClassFile.FieldType.boolean)) ∈ WL := wlm (in6 (List.mem_of_getElem? (i := 66) (by decide +kernel))) (by decide +kernel)
theorem m1267 : (Jvm.Cond.methodLink "ArchTradesLaw" (96 : Nat) ({ cls := "ArchTradesModel", name := "cut", desc := "(II)I" } : Jvm.MethodName)) ∈ WL := wlm (in6 (List.mem_of_getElem? (i := 67) (by decide +kernel))) (by decide +kernel)
theorem m1268 : (Jvm.Cond.instanceMethod ({ cls := "ArchTradesModel", name := "cut", desc := "(II)I" } : Jvm.MethodName)) ∈ WL := wlm (in6 (List.mem_of_getElem? (i := 68) (by decide +kernel))) (by decide +kernel)
theorem m1269 : (Jvm.Cond.selects "ArchTradesModel" ({ cls := "ArchTradesModel", name := "cut", desc := "(II)I" } : Jvm.MethodName) ({ cls := "ArchTradesModel", name := "cut", desc := "(II)I" } : Jvm.MethodName)) ∈ WL := wlm (in6 (List.mem_of_getElem? (i := 69) (by decide +kernel))) (by decide +kernel)
theorem m1270 : (Jvm.Cond.code ({ cls := "ArchTradesModel", name := "cut", desc := "(II)I" } : Jvm.MethodName) prog_10_method_67_code (6 : Nat) (Option.some Jvm.ClassFile.FieldType.int)) ∈ WL := wlm (in6 (List.mem_of_getElem? (i := 70) (by decide +kernel))) (by decide +kernel)
theorem m1271 : (Jvm.Cond.constantLong "ArchTradesModel" (304 : Nat) (30 : Int64)) ∈ WL := wlm (in6 (List.mem_of_getElem? (i := 71) (by decide +kernel))) (by decide +kernel)
theorem m1272 : (Jvm.Cond.constantLong "ArchTradesModel" (306 : Nat) (20 : Int64)) ∈ WL := wlm (in6 (List.mem_of_getElem? (i := 72) (by decide +kernel))) (by decide +kernel)
theorem m1273 : (Jvm.Cond.methodLink "ArchTradesLaw" (100 : Nat) ({ cls := "ArchTradesModel", name := "weighed", desc := "(II)I" } : Jvm.MethodName)) ∈ WL := wlm (in6 (List.mem_of_getElem? (i := 73) (by decide +kernel))) (by decide +kernel)
theorem m1274 : (Jvm.Cond.instanceMethod ({ cls := "ArchTradesModel", name := "weighed", desc := "(II)I" } : Jvm.MethodName)) ∈ WL := wlm (in6 (List.mem_of_getElem? (i := 74) (by decide +kernel))) (by decide +kernel)
theorem m1275 : (Jvm.Cond.selects "ArchTradesModel" ({ cls := "ArchTradesModel", name := "weighed", desc := "(II)I" } : Jvm.MethodName) ({ cls := "ArchTradesModel", name := "weighed", desc := "(II)I" } : Jvm.MethodName)) ∈ WL := wlm (in6 (List.mem_of_getElem? (i := 75) (by decide +kernel))) (by decide +kernel)
theorem m1276 : (Jvm.Cond.code ({ cls := "ArchTradesModel", name := "weighed", desc := "(II)I" } : Jvm.MethodName) prog_10_method_69_code (7 : Nat) (Option.some Jvm.ClassFile.FieldType.int)) ∈ WL := wlm (in6 (List.mem_of_getElem? (i := 76) (by decide +kernel))) (by decide +kernel)
theorem m1277 : (Jvm.Cond.methodLink "ArchTradesModel" (308 : Nat) ({ cls := "ArchTradesModel", name := "weightOf", desc := "(I)I" } : Jvm.MethodName)) ∈ WL := wlm (in6 (List.mem_of_getElem? (i := 77) (by decide +kernel))) (by decide +kernel)
theorem m1278 : (Jvm.Cond.static ({ cls := "ArchTradesModel", name := "weightOf", desc := "(I)I" } : Jvm.MethodName)) ∈ WL := wlm (in6 (List.mem_of_getElem? (i := 78) (by decide +kernel))) (by decide +kernel)
theorem m1279 : (Jvm.Cond.code ({ cls := "ArchTradesModel", name := "weightOf", desc := "(I)I" } : Jvm.MethodName) prog_10_method_68_code (1 : Nat) (Option.some Jvm.ClassFile.FieldType.int)) ∈ WL := wlm (in6 (List.mem_of_getElem? (i := 79) (by decide +kernel))) (by decide +kernel)
theorem m1280 : (Jvm.Cond.methodLink "ArchTradesLaw" (104 : Nat) ({ cls := "ArchTradesModel", name := "image", desc := "(I)I" } : Jvm.MethodName)) ∈ WL := wlm (in6 (List.mem_of_getElem? (i := 80) (by decide +kernel))) (by decide +kernel)
theorem m1281 : (Jvm.Cond.instanceMethod ({ cls := "ArchTradesModel", name := "image", desc := "(I)I" } : Jvm.MethodName)) ∈ WL := wlm (in6 (List.mem_of_getElem? (i := 81) (by decide +kernel))) (by decide +kernel)
theorem m1282 : (Jvm.Cond.selects "ArchTradesModel" ({ cls := "ArchTradesModel", name := "image", desc := "(I)I" } : Jvm.MethodName) ({ cls := "ArchTradesModel", name := "image", desc := "(I)I" } : Jvm.MethodName)) ∈ WL := wlm (in6 (List.mem_of_getElem? (i := 82) (by decide +kernel))) (by decide +kernel)
theorem m1283 : (Jvm.Cond.code ({ cls := "ArchTradesModel", name := "image", desc := "(I)I" } : Jvm.MethodName) prog_10_method_70_code (3 : Nat) (Option.some Jvm.ClassFile.FieldType.int)) ∈ WL := wlm (in6 (List.mem_of_getElem? (i := 83) (by decide +kernel))) (by decide +kernel)
theorem m1284 : (Jvm.Cond.methodLink "ArchTradesLaw" (108 : Nat) ({ cls := "ArchTradesModel", name := "restore", desc := "(I)I" } : Jvm.MethodName)) ∈ WL := wlm (in6 (List.mem_of_getElem? (i := 84) (by decide +kernel))) (by decide +kernel)
theorem m1285 : (Jvm.Cond.instanceMethod ({ cls := "ArchTradesModel", name := "restore", desc := "(I)I" } : Jvm.MethodName)) ∈ WL := wlm (in6 (List.mem_of_getElem? (i := 85) (by decide +kernel))) (by decide +kernel)
theorem m1286 : (Jvm.Cond.selects "ArchTradesModel" ({ cls := "ArchTradesModel", name := "restore", desc := "(I)I" } : Jvm.MethodName) ({ cls := "ArchTradesModel", name := "restore", desc := "(I)I" } : Jvm.MethodName)) ∈ WL := wlm (in6 (List.mem_of_getElem? (i := 86) (by decide +kernel))) (by decide +kernel)
theorem m1287 : (Jvm.Cond.code ({ cls := "ArchTradesModel", name := "restore", desc := "(I)I" } : Jvm.MethodName) prog_10_method_71_code (3 : Nat) (Option.some Jvm.ClassFile.FieldType.int)) ∈ WL := wlm (in6 (List.mem_of_getElem? (i := 87) (by decide +kernel))) (by decide +kernel)
theorem m1288 : (Jvm.Cond.methodLink "ArchTradesLaw" (112 : Nat) ({ cls := "ArchTradesModel", name := "kind", desc := "(I)I" } : Jvm.MethodName)) ∈ WL := wlm (in6 (List.mem_of_getElem? (i := 88) (by decide +kernel))) (by decide +kernel)
theorem m1289 : (Jvm.Cond.instanceMethod ({ cls := "ArchTradesModel", name := "kind", desc := "(I)I" } : Jvm.MethodName)) ∈ WL := wlm (in6 (List.mem_of_getElem? (i := 89) (by decide +kernel))) (by decide +kernel)
theorem m1290 : (Jvm.Cond.selects "ArchTradesModel" ({ cls := "ArchTradesModel", name := "kind", desc := "(I)I" } : Jvm.MethodName) ({ cls := "ArchTradesModel", name := "kind", desc := "(I)I" } : Jvm.MethodName)) ∈ WL := wlm (in6 (List.mem_of_getElem? (i := 90) (by decide +kernel))) (by decide +kernel)
theorem m1291 : (Jvm.Cond.code ({ cls := "ArchTradesModel", name := "kind", desc := "(I)I" } : Jvm.MethodName) prog_10_method_73_code (2 : Nat) (Option.some Jvm.ClassFile.FieldType.int)) ∈ WL := wlm (in6 (List.mem_of_getElem? (i := 91) (by decide +kernel))) (by decide +kernel)
theorem m1292 : (Jvm.Cond.methodLink "ArchTradesLaw" (116 : Nat) ({ cls := "ArchTradesModel", name := "as", desc := "(II)I" } : Jvm.MethodName)) ∈ WL := wlm (in6 (List.mem_of_getElem? (i := 92) (by decide +kernel))) (by decide +kernel)
theorem m1293 : (Jvm.Cond.instanceMethod ({ cls := "ArchTradesModel", name := "as", desc := "(II)I" } : Jvm.MethodName)) ∈ WL := wlm (in6 (List.mem_of_getElem? (i := 93) (by decide +kernel))) (by decide +kernel)
theorem m1294 : (Jvm.Cond.selects "ArchTradesModel" ({ cls := "ArchTradesModel", name := "as", desc := "(II)I" } : Jvm.MethodName) ({ cls := "ArchTradesModel", name := "as", desc := "(II)I" } : Jvm.MethodName)) ∈ WL := wlm (in6 (List.mem_of_getElem? (i := 94) (by decide +kernel))) (by decide +kernel)
theorem m1295 : (Jvm.Cond.code ({ cls := "ArchTradesModel", name := "as", desc := "(II)I" } : Jvm.MethodName) prog_10_method_74_code (3 : Nat) (Option.some Jvm.ClassFile.FieldType.int)) ∈ WL := wlm (in6 (List.mem_of_getElem? (i := 95) (by decide +kernel))) (by decide +kernel)
theorem m1296 : (Jvm.Cond.constantLong "ArchTradesModel" (311 : Nat) (5 : Int64)) ∈ WL := wlm (in6 (List.mem_of_getElem? (i := 96) (by decide +kernel))) (by decide +kernel)
theorem m1297 : (Jvm.Cond.methodLink "ArchTradesModel" (313 : Nat) ({ cls := "ArchTradesModel", name := "isOf", desc := "(II)Z" } : Jvm.MethodName)) ∈ WL := wlm (in6 (List.mem_of_getElem? (i := 97) (by decide +kernel))) (by decide +kernel)
theorem m1298 : (Jvm.Cond.static ({ cls := "ArchTradesModel", name := "isOf", desc := "(II)Z" } : Jvm.MethodName)) ∈ WL := wlm (in6 (List.mem_of_getElem? (i := 98) (by decide +kernel))) (by decide +kernel)
theorem m1299 : (Jvm.Cond.code ({ cls := "ArchTradesModel", name := "isOf", desc := "(II)Z" } : Jvm.MethodName) prog_10_method_72_code (2 : Nat) (Option.some Jvm.ClassFile.FieldType.boolean)) ∈ WL := wlm (in6 (List.mem_of_getElem? (i := 99) (by decide +kernel))) (by decide +kernel)
theorem m1300 : (Jvm.Cond.methodLink "ArchTradesLaw" (120 : Nat) ({ cls := "ArchTradesModel", name := "ask", desc := "(II)I" } : Jvm.MethodName)) ∈ WL := wlm (in6 (List.mem_of_getElem? (i := 100) (by decide +kernel))) (by decide +kernel)
theorem m1301 : (Jvm.Cond.instanceMethod ({ cls := "ArchTradesModel", name := "ask", desc := "(II)I" } : Jvm.MethodName)) ∈ WL := wlm (in6 (List.mem_of_getElem? (i := 101) (by decide +kernel))) (by decide +kernel)
theorem m1302 : (Jvm.Cond.selects "ArchTradesModel" ({ cls := "ArchTradesModel", name := "ask", desc := "(II)I" } : Jvm.MethodName) ({ cls := "ArchTradesModel", name := "ask", desc := "(II)I" } : Jvm.MethodName)) ∈ WL := wlm (in6 (List.mem_of_getElem? (i := 102) (by decide +kernel))) (by decide +kernel)
theorem m1303 : (Jvm.Cond.code ({ cls := "ArchTradesModel", name := "ask", desc := "(II)I" } : Jvm.MethodName) prog_10_method_80_code (3 : Nat) (Option.some Jvm.ClassFile.FieldType.int)) ∈ WL := wlm (in6 (List.mem_of_getElem? (i := 103) (by decide +kernel))) (by decide +kernel)
theorem m1304 : (Jvm.Cond.methodLink "ArchTradesModel" (331 : Nat) ({ cls := "ArchTradesModel", name := "sizeOf", desc := "(I)I" } : Jvm.MethodName)) ∈ WL := wlm (in6 (List.mem_of_getElem? (i := 104) (by decide +kernel))) (by decide +kernel)
theorem m1306 : (Jvm.Cond.instanceMethod ({ cls := "ArchTradesModel", name := "sizeOf", desc := "(I)I" } : Jvm.MethodName)) ∈ WL := wlm (in6 (List.mem_of_getElem? (i := 106) (by decide +kernel))) (by decide +kernel)
theorem m1307 : (Jvm.Cond.code ({ cls := "ArchTradesModel", name := "sizeOf", desc := "(I)I" } : Jvm.MethodName) prog_10_method_79_code (4 : Nat) (Option.some Jvm.ClassFile.FieldType.int)) ∈ WL := wlm (in6 (List.mem_of_getElem? (i := 107) (by decide +kernel))) (by decide +kernel)
theorem m1308 : (Jvm.Cond.methodLink "ArchTradesModel" (325 : Nat) ({ cls := "ArchTradesModel", name := "cartSize", desc := "(I)I" } : Jvm.MethodName)) ∈ WL := wlm (in6 (List.mem_of_getElem? (i := 108) (by decide +kernel))) (by decide +kernel)
theorem m1310 : (Jvm.Cond.instanceMethod ({ cls := "ArchTradesModel", name := "cartSize", desc := "(I)I" } : Jvm.MethodName)) ∈ WL := wlm (in6 (List.mem_of_getElem? (i := 110) (by decide +kernel))) (by decide +kernel)
theorem m1311 : (Jvm.Cond.code ({ cls := "ArchTradesModel", name := "cartSize", desc := "(I)I" } : Jvm.MethodName) prog_10_method_77_code (3 : Nat) (Option.some Jvm.ClassFile.FieldType.int)) ∈ WL := wlm (in6 (List.mem_of_getElem? (i := 111) (by decide +kernel))) (by decide +kernel)
theorem m1312 : (Jvm.Cond.methodLink "ArchTradesModel" (319 : Nat) ({ cls := "ArchTradesModel", name := "began", desc := "(I)V" } : Jvm.MethodName)) ∈ WL := wlm (in6 (List.mem_of_getElem? (i := 112) (by decide +kernel))) (by decide +kernel)
theorem m1314 : (Jvm.Cond.instanceMethod ({ cls := "ArchTradesModel", name := "began", desc := "(I)V" } : Jvm.MethodName)) ∈ WL := wlm (in6 (List.mem_of_getElem? (i := 114) (by decide +kernel))) (by decide +kernel)
theorem m1315 : (Jvm.Cond.code ({ cls := "ArchTradesModel", name := "began", desc := "(I)V" } : Jvm.MethodName) prog_10_method_75_code (2 : Nat) (Option.none : Option Jvm.ClassFile.FieldType)) ∈ WL := wlm (in6 (List.mem_of_getElem? (i := 115) (by decide +kernel))) (by decide +kernel)
theorem m1316 : (Jvm.Cond.methodLink "ArchTradesModel" (322 : Nat) ({ cls := "ArchTradesModel", name := "plainSize", desc := "(I)I" } : Jvm.MethodName)) ∈ WL := wlm (in6 (List.mem_of_getElem? (i := 116) (by decide +kernel))) (by decide +kernel)
theorem m1318 : (Jvm.Cond.instanceMethod ({ cls := "ArchTradesModel", name := "plainSize", desc := "(I)I" } : Jvm.MethodName)) ∈ WL := wlm (in6 (List.mem_of_getElem? (i := 118) (by decide +kernel))) (by decide +kernel)
theorem m1319 : (Jvm.Cond.code ({ cls := "ArchTradesModel", name := "plainSize", desc := "(I)I" } : Jvm.MethodName) prog_10_method_76_code (2 : Nat) (Option.some Jvm.ClassFile.FieldType.int)) ∈ WL := wlm (in6 (List.mem_of_getElem? (i := 119) (by decide +kernel))) (by decide +kernel)
theorem m1320 : (Jvm.Cond.methodLink "ArchTradesModel" (328 : Nat) ({ cls := "ArchTradesModel", name := "markOf", desc := "(I)I" } : Jvm.MethodName)) ∈ WL := wlm (in6 (List.mem_of_getElem? (i := 120) (by decide +kernel))) (by decide +kernel)
theorem m1322 : (Jvm.Cond.instanceMethod ({ cls := "ArchTradesModel", name := "markOf", desc := "(I)I" } : Jvm.MethodName)) ∈ WL := wlm (in6 (List.mem_of_getElem? (i := 122) (by decide +kernel))) (by decide +kernel)
theorem m1323 : (Jvm.Cond.code ({ cls := "ArchTradesModel", name := "markOf", desc := "(I)I" } : Jvm.MethodName) prog_10_method_78_code (4 : Nat) (Option.some Jvm.ClassFile.FieldType.int)) ∈ WL := wlm (in6 (List.mem_of_getElem? (i := 123) (by decide +kernel))) (by decide +kernel)
theorem m1324 : (Jvm.Cond.methodLink "ArchTradesLaw" (124 : Nat) ({ cls := "ArchTradesModel", name := "trace", desc := "(I)I" } : Jvm.MethodName)) ∈ WL := wlm (in6 (List.mem_of_getElem? (i := 124) (by decide +kernel))) (by decide +kernel)
theorem m1325 : (Jvm.Cond.instanceMethod ({ cls := "ArchTradesModel", name := "trace", desc := "(I)I" } : Jvm.MethodName)) ∈ WL := wlm (in6 (List.mem_of_getElem? (i := 125) (by decide +kernel))) (by decide +kernel)
theorem m1326 : (Jvm.Cond.selects "ArchTradesModel" ({ cls := "ArchTradesModel", name := "trace", desc := "(I)I" } : Jvm.MethodName) ({ cls := "ArchTradesModel", name := "trace", desc := "(I)I" } : Jvm.MethodName)) ∈ WL := wlm (in6 (List.mem_of_getElem? (i := 126) (by decide +kernel))) (by decide +kernel)
theorem m1327 : (Jvm.Cond.code ({ cls := "ArchTradesModel", name := "trace", desc := "(I)I" } : Jvm.MethodName) prog_10_method_81_code (2 : Nat) (Option.some Jvm.ClassFile.FieldType.int)) ∈ WL := wlm (in6 (List.mem_of_getElem? (i := 127) (by decide +kernel))) (by decide +kernel)
theorem m1328 : (Jvm.Cond.methodLink "ArchTradesLaw" (128 : Nat) ({ cls := "ArchTradesModel", name := "count", desc := "(I)I" } : Jvm.MethodName)) ∈ WL := wlm (in6 (List.mem_of_getElem? (i := 128) (by decide +kernel))) (by decide +kernel)
theorem m1329 : (Jvm.Cond.instanceMethod ({ cls := "ArchTradesModel", name := "count", desc := "(I)I" } : Jvm.MethodName)) ∈ WL := wlm (in6 (List.mem_of_getElem? (i := 129) (by decide +kernel))) (by decide +kernel)
theorem m1330 : (Jvm.Cond.selects "ArchTradesModel" ({ cls := "ArchTradesModel", name := "count", desc := "(I)I" } : Jvm.MethodName) ({ cls := "ArchTradesModel", name := "count", desc := "(I)I" } : Jvm.MethodName)) ∈ WL := wlm (in6 (List.mem_of_getElem? (i := 130) (by decide +kernel))) (by decide +kernel)
theorem m1331 : (Jvm.Cond.code ({ cls := "ArchTradesModel", name := "count", desc := "(I)I" } : Jvm.MethodName) prog_10_method_82_code (4 : Nat) (Option.some Jvm.ClassFile.FieldType.int)) ∈ WL := wlm (in6 (List.mem_of_getElem? (i := 131) (by decide +kernel))) (by decide +kernel)
theorem m1332 : (Jvm.Cond.methodLink "ArchTradesLaw" (132 : Nat) ({ cls := "ArchTradesModel", name := "status", desc := "()I" } : Jvm.MethodName)) ∈ WL := wlm (in6 (List.mem_of_getElem? (i := 132) (by decide +kernel))) (by decide +kernel)
theorem m1333 : (Jvm.Cond.instanceMethod ({ cls := "ArchTradesModel", name := "status", desc := "()I" } : Jvm.MethodName)) ∈ WL := wlm (in6 (List.mem_of_getElem? (i := 133) (by decide +kernel))) (by decide +kernel)
theorem m1334 : (Jvm.Cond.selects "ArchTradesModel" ({ cls := "ArchTradesModel", name := "status", desc := "()I" } : Jvm.MethodName) ({ cls := "ArchTradesModel", name := "status", desc := "()I" } : Jvm.MethodName)) ∈ WL := wlm (in6 (List.mem_of_getElem? (i := 134) (by decide +kernel))) (by decide +kernel)
theorem m1335 : (Jvm.Cond.code ({ cls := "ArchTradesModel", name := "status", desc := "()I" } : Jvm.MethodName) prog_10_method_83_code (1 : Nat) (Option.some Jvm.ClassFile.FieldType.int)) ∈ WL := wlm (in6 (List.mem_of_getElem? (i := 135) (by decide +kernel))) (by decide +kernel)
theorem m1336 : (Jvm.Cond.constantLong "ArchTradesLaw" (32 : Nat) (4294967295 : Int64)) ∈ WL := wlm (in6 (List.mem_of_getElem? (i := 136) (by decide +kernel))) (by decide +kernel)
theorem m1337 : (Jvm.Cond.fieldLink "java/lang/String" (9 : Nat) "java/lang/String" "value" "[B") ∈ WL := wlm (in6 (List.mem_of_getElem? (i := 137) (by decide +kernel))) (by decide +kernel)
theorem m1338 : (Jvm.Cond.fieldLink "java/lang/String" (15 : Nat) "java/lang/String" "coder" "B") ∈ WL := wlm (in6 (List.mem_of_getElem? (i := 138) (by decide +kernel))) (by decide +kernel)
theorem ms0 : Cond.selects "ArchTrades" ⟨"ArchTrades", "found", "(I)I"⟩ ⟨"ArchTrades", "found", "(I)I"⟩ ∈ WL := wlm (in0 (List.mem_of_getElem? (i := 0) (by decide +kernel))) (by decide +kernel)
theorem ms1 : Cond.selects "ArchTrades" ⟨"ArchTrades", "unfound", "(I)I"⟩ ⟨"ArchTrades", "unfound", "(I)I"⟩ ∈ WL := wlm (in0 (List.mem_of_getElem? (i := 1) (by decide +kernel))) (by decide +kernel)
theorem ms2 : Cond.selects "ArchTrades$Reader" ⟨"ArchTrades$Reader", "readTide", "(LArchTrades$Tape;)Z"⟩ ⟨"ArchTrades$Reader", "readTide", "(LArchTrades$Tape;)Z"⟩ ∈ WL := wlm (in0 (List.mem_of_getElem? (i := 2) (by decide +kernel))) (by decide +kernel)
theorem ms3 : Cond.selects "ArchTrades$Reader" ⟨"ArchTrades$Reader", "faulty", "(I)Z"⟩ ⟨"ArchTrades$Reader", "faulty", "(I)Z"⟩ ∈ WL := wlm (in0 (List.mem_of_getElem? (i := 3) (by decide +kernel))) (by decide +kernel)
theorem ms4 : Cond.selects "ArchTrades$Reader" ⟨"ArchTrades$Reader", "readNumber", "(LArchTrades$Tape;II[II)Z"⟩ ⟨"ArchTrades$Reader", "readNumber", "(LArchTrades$Tape;II[II)Z"⟩ ∈ WL := wlm (in0 (List.mem_of_getElem? (i := 4) (by decide +kernel))) (by decide +kernel)
theorem ms5 : Cond.selects "ArchTrades$Reader" ⟨"ArchTrades$Reader", "readSign", "(LArchTrades$Tape;)Z"⟩ ⟨"ArchTrades$Reader", "readSign", "(LArchTrades$Tape;)Z"⟩ ∈ WL := wlm (in0 (List.mem_of_getElem? (i := 5) (by decide +kernel))) (by decide +kernel)
theorem ms6 : Cond.selects "ArchTrades$Reader" ⟨"ArchTrades$Reader", "readArches", "(LArchTrades$Tape;)Z"⟩ ⟨"ArchTrades$Reader", "readArches", "(LArchTrades$Tape;)Z"⟩ ∈ WL := wlm (in0 (List.mem_of_getElem? (i := 6) (by decide +kernel))) (by decide +kernel)
theorem ms7 : Cond.selects "ArchTrades$Reader" ⟨"ArchTrades$Reader", "readArch", "(LArchTrades$Tape;I)Z"⟩ ⟨"ArchTrades$Reader", "readArch", "(LArchTrades$Tape;I)Z"⟩ ∈ WL := wlm (in0 (List.mem_of_getElem? (i := 7) (by decide +kernel))) (by decide +kernel)
theorem ms8 : Cond.selects "ArchTrades$Reader" ⟨"ArchTrades$Reader", "readBoats", "(LArchTrades$Tape;)Z"⟩ ⟨"ArchTrades$Reader", "readBoats", "(LArchTrades$Tape;)Z"⟩ ∈ WL := wlm (in0 (List.mem_of_getElem? (i := 8) (by decide +kernel))) (by decide +kernel)
theorem ms9 : Cond.selects "ArchTrades$Reader" ⟨"ArchTrades$Reader", "readBoat", "(LArchTrades$Tape;I)Z"⟩ ⟨"ArchTrades$Reader", "readBoat", "(LArchTrades$Tape;I)Z"⟩ ∈ WL := wlm (in0 (List.mem_of_getElem? (i := 9) (by decide +kernel))) (by decide +kernel)
theorem ms10 : Cond.selects "ArchTrades$Reader" ⟨"ArchTrades$Reader", "sortTold", "(LArchTrades$Tape;)I"⟩ ⟨"ArchTrades$Reader", "sortTold", "(LArchTrades$Tape;)I"⟩ ∈ WL := wlm (in0 (List.mem_of_getElem? (i := 10) (by decide +kernel))) (by decide +kernel)
theorem ms11 : Cond.selects "ArchTrades$Bridge" ⟨"ArchTrades$Bridge", "tradesOf", "(I)I"⟩ ⟨"ArchTrades$Bridge", "tradesOf", "(I)I"⟩ ∈ WL := wlm (in0 (List.mem_of_getElem? (i := 11) (by decide +kernel))) (by decide +kernel)
theorem ms12 : Cond.selects "ArchTrades$Bridge" ⟨"ArchTrades$Bridge", "markWent", "(III)V"⟩ ⟨"ArchTrades$Bridge", "markWent", "(III)V"⟩ ∈ WL := wlm (in0 (List.mem_of_getElem? (i := 12) (by decide +kernel))) (by decide +kernel)
theorem ms13 : Cond.selects "ArchTrades$Foretold" ⟨"ArchTrades$Foretold", "greatestOf", "(LArchTrades$Bridge;III)I"⟩ ⟨"ArchTrades$Foretold", "greatestOf", "(LArchTrades$Bridge;III)I"⟩ ∈ WL := wlm (in0 (List.mem_of_getElem? (i := 13) (by decide +kernel))) (by decide +kernel)
theorem ms14 : Cond.selects "ArchTrades$Foretold" ⟨"ArchTrades$Foretold", "prepare", "(LArchTrades$Bridge;III)V"⟩ ⟨"ArchTrades$Foretold", "prepare", "(LArchTrades$Bridge;III)V"⟩ ∈ WL := wlm (in0 (List.mem_of_getElem? (i := 14) (by decide +kernel))) (by decide +kernel)
theorem ms15 : Cond.selects "ArchTrades$Foretold" ⟨"ArchTrades$Foretold", "placedFrom", "(I)I"⟩ ⟨"ArchTrades$Foretold", "placedFrom", "(I)I"⟩ ∈ WL := wlm (in0 (List.mem_of_getElem? (i := 15) (by decide +kernel))) (by decide +kernel)
theorem ms16 : Cond.selects "ArchTrades$Foretold" ⟨"ArchTrades$Foretold", "findPlace", "(II)Z"⟩ ⟨"ArchTrades$Foretold", "findPlace", "(II)Z"⟩ ∈ WL := wlm (in0 (List.mem_of_getElem? (i := 16) (by decide +kernel))) (by decide +kernel)
theorem ms17 : Cond.selects "ArchTrades$Foretold" ⟨"ArchTrades$Foretold", "openHours", "(II)I"⟩ ⟨"ArchTrades$Foretold", "openHours", "(II)I"⟩ ∈ WL := wlm (in0 (List.mem_of_getElem? (i := 17) (by decide +kernel))) (by decide +kernel)
theorem ms18 : Cond.selects "ArchTrades$Foretold" ⟨"ArchTrades$Foretold", "givePlace", "(III)V"⟩ ⟨"ArchTrades$Foretold", "givePlace", "(III)V"⟩ ∈ WL := wlm (in0 (List.mem_of_getElem? (i := 18) (by decide +kernel))) (by decide +kernel)
theorem ms19 : Cond.selects "ArchTrades$Foretold" ⟨"ArchTrades$Foretold", "settleFirst", "(IIII)I"⟩ ⟨"ArchTrades$Foretold", "settleFirst", "(IIII)I"⟩ ∈ WL := wlm (in0 (List.mem_of_getElem? (i := 19) (by decide +kernel))) (by decide +kernel)
theorem ms20 : Cond.selects "ArchTrades$Foretold" ⟨"ArchTrades$Foretold", "countHopeful", "()I"⟩ ⟨"ArchTrades$Foretold", "countHopeful", "()I"⟩ ∈ WL := wlm (in0 (List.mem_of_getElem? (i := 20) (by decide +kernel))) (by decide +kernel)
theorem ms21 : Cond.selects "ArchTrades$Foretold" ⟨"ArchTrades$Foretold", "sortCharters", "()V"⟩ ⟨"ArchTrades$Foretold", "sortCharters", "()V"⟩ ∈ WL := wlm (in0 (List.mem_of_getElem? (i := 21) (by decide +kernel))) (by decide +kernel)
theorem ms22 : Cond.selects "ArchTrades$Foretold" ⟨"ArchTrades$Foretold", "swapCharters", "(II)V"⟩ ⟨"ArchTrades$Foretold", "swapCharters", "(II)V"⟩ ∈ WL := wlm (in0 (List.mem_of_getElem? (i := 22) (by decide +kernel))) (by decide +kernel)
theorem ms23 : Cond.selects "ArchTrades$Foretold" ⟨"ArchTrades$Foretold", "dealNext", "()Z"⟩ ⟨"ArchTrades$Foretold", "dealNext", "()Z"⟩ ∈ WL := wlm (in0 (List.mem_of_getElem? (i := 23) (by decide +kernel))) (by decide +kernel)
theorem ms24 : Cond.selects "ArchTrades" ⟨"ArchTrades", "areTrades", "(II)Z"⟩ ⟨"ArchTrades", "areTrades", "(II)Z"⟩ ∈ WL := wlm (in0 (List.mem_of_getElem? (i := 24) (by decide +kernel))) (by decide +kernel)
theorem ms25 : Cond.selects "ArchTrades" ⟨"ArchTrades", "falselyDeclared", "(II)I"⟩ ⟨"ArchTrades", "falselyDeclared", "(II)I"⟩ ∈ WL := wlm (in0 (List.mem_of_getElem? (i := 25) (by decide +kernel))) (by decide +kernel)
theorem ms26 : Cond.selects "ArchTrades" ⟨"ArchTrades", "imageOf", "(I)LArchTrades$Bridge;"⟩ ⟨"ArchTrades", "imageOf", "(I)LArchTrades$Bridge;"⟩ ∈ WL := wlm (in0 (List.mem_of_getElem? (i := 26) (by decide +kernel))) (by decide +kernel)
theorem ms27 : Cond.selects "ArchTrades$Asks" ⟨"ArchTrades$Asks", "gives", "(ILArchTrades$Bridge;II)I"⟩ ⟨"ArchTrades$Asks", "gives", "(ILArchTrades$Bridge;II)I"⟩ ∈ WL := wlm (in0 (List.mem_of_getElem? (i := 27) (by decide +kernel))) (by decide +kernel)
theorem ms28 : Cond.selects "ArchTrades$Asks" ⟨"ArchTrades$Asks", "leaveTrace", "(I)V"⟩ ⟨"ArchTrades$Asks", "leaveTrace", "(I)V"⟩ ∈ WL := wlm (in0 (List.mem_of_getElem? (i := 28) (by decide +kernel))) (by decide +kernel)
theorem ms29 : Cond.selects "ArchTradesModel" ⟨"ArchTradesModel", "finding", "(I)I"⟩ ⟨"ArchTradesModel", "finding", "(I)I"⟩ ∈ WL := wlm (in0 (List.mem_of_getElem? (i := 29) (by decide +kernel))) (by decide +kernel)
theorem ms30 : Cond.selects "ArchTradesModel" ⟨"ArchTradesModel", "begin", "()V"⟩ ⟨"ArchTradesModel", "begin", "()V"⟩ ∈ WL := wlm (in0 (List.mem_of_getElem? (i := 30) (by decide +kernel))) (by decide +kernel)
theorem ms31 : Cond.selects "ArchTradesModel" ⟨"ArchTradesModel", "next", "()V"⟩ ⟨"ArchTradesModel", "next", "()V"⟩ ∈ WL := wlm (in0 (List.mem_of_getElem? (i := 31) (by decide +kernel))) (by decide +kernel)
theorem ms32 : Cond.selects "ArchTradesModel" ⟨"ArchTradesModel", "byteAt", "(I)I"⟩ ⟨"ArchTradesModel", "byteAt", "(I)I"⟩ ∈ WL := wlm (in0 (List.mem_of_getElem? (i := 32) (by decide +kernel))) (by decide +kernel)
theorem ms33 : Cond.selects "ArchTradesModel" ⟨"ArchTradesModel", "readTide", "()V"⟩ ⟨"ArchTradesModel", "readTide", "()V"⟩ ∈ WL := wlm (in0 (List.mem_of_getElem? (i := 33) (by decide +kernel))) (by decide +kernel)
theorem ms34 : Cond.selects "ArchTradesModel" ⟨"ArchTradesModel", "name", "()J"⟩ ⟨"ArchTradesModel", "name", "()J"⟩ ∈ WL := wlm (in0 (List.mem_of_getElem? (i := 34) (by decide +kernel))) (by decide +kernel)
theorem ms35 : Cond.selects "ArchTradesModel" ⟨"ArchTradesModel", "must", "(Z)V"⟩ ⟨"ArchTradesModel", "must", "(Z)V"⟩ ∈ WL := wlm (in0 (List.mem_of_getElem? (i := 35) (by decide +kernel))) (by decide +kernel)
theorem ms36 : Cond.selects "ArchTradesModel" ⟨"ArchTradesModel", "bad", "(I)V"⟩ ⟨"ArchTradesModel", "bad", "(I)V"⟩ ∈ WL := wlm (in0 (List.mem_of_getElem? (i := 36) (by decide +kernel))) (by decide +kernel)
theorem ms37 : Cond.selects "ArchTradesModel" ⟨"ArchTradesModel", "number", "(II)I"⟩ ⟨"ArchTradesModel", "number", "(II)I"⟩ ∈ WL := wlm (in0 (List.mem_of_getElem? (i := 37) (by decide +kernel))) (by decide +kernel)
theorem ms38 : Cond.selects "ArchTradesModel" ⟨"ArchTradesModel", "figures", "()I"⟩ ⟨"ArchTradesModel", "figures", "()I"⟩ ∈ WL := wlm (in0 (List.mem_of_getElem? (i := 38) (by decide +kernel))) (by decide +kernel)
theorem ms39 : Cond.selects "ArchTradesModel" ⟨"ArchTradesModel", "mustEnd", "()V"⟩ ⟨"ArchTradesModel", "mustEnd", "()V"⟩ ∈ WL := wlm (in0 (List.mem_of_getElem? (i := 39) (by decide +kernel))) (by decide +kernel)
theorem ms40 : Cond.selects "ArchTradesModel" ⟨"ArchTradesModel", "readArch", "()V"⟩ ⟨"ArchTradesModel", "readArch", "()V"⟩ ∈ WL := wlm (in0 (List.mem_of_getElem? (i := 40) (by decide +kernel))) (by decide +kernel)
theorem ms41 : Cond.selects "ArchTradesModel" ⟨"ArchTradesModel", "begins", "(II)V"⟩ ⟨"ArchTradesModel", "begins", "(II)V"⟩ ∈ WL := wlm (in0 (List.mem_of_getElem? (i := 41) (by decide +kernel))) (by decide +kernel)
theorem ms42 : Cond.selects "ArchTradesModel" ⟨"ArchTradesModel", "readBoat", "()V"⟩ ⟨"ArchTradesModel", "readBoat", "()V"⟩ ∈ WL := wlm (in0 (List.mem_of_getElem? (i := 42) (by decide +kernel))) (by decide +kernel)
theorem ms43 : Cond.selects "ArchTradesModel" ⟨"ArchTradesModel", "isArch", "(I)Z"⟩ ⟨"ArchTradesModel", "isArch", "(I)Z"⟩ ∈ WL := wlm (in0 (List.mem_of_getElem? (i := 43) (by decide +kernel))) (by decide +kernel)
theorem ms44 : Cond.selects "ArchTradesModel" ⟨"ArchTradesModel", "becomes", "(II)I"⟩ ⟨"ArchTradesModel", "becomes", "(II)I"⟩ ∈ WL := wlm (in0 (List.mem_of_getElem? (i := 44) (by decide +kernel))) (by decide +kernel)
theorem ms45 : Cond.selects "ArchTradesModel" ⟨"ArchTradesModel", "keep", "()V"⟩ ⟨"ArchTradesModel", "keep", "()V"⟩ ∈ WL := wlm (in0 (List.mem_of_getElem? (i := 45) (by decide +kernel))) (by decide +kernel)
theorem ms46 : Cond.selects "ArchTradesModel" ⟨"ArchTradesModel", "isBoat", "(I)Z"⟩ ⟨"ArchTradesModel", "isBoat", "(I)Z"⟩ ∈ WL := wlm (in0 (List.mem_of_getElem? (i := 46) (by decide +kernel))) (by decide +kernel)
theorem ms47 : Cond.selects "ArchTradesModel" ⟨"ArchTradesModel", "sideOf", "(I)I"⟩ ⟨"ArchTradesModel", "sideOf", "(I)I"⟩ ∈ WL := wlm (in0 (List.mem_of_getElem? (i := 47) (by decide +kernel))) (by decide +kernel)
theorem ms48 : Cond.selects "ArchTradesModel" ⟨"ArchTradesModel", "of", "(II)I"⟩ ⟨"ArchTradesModel", "of", "(II)I"⟩ ∈ WL := wlm (in0 (List.mem_of_getElem? (i := 48) (by decide +kernel))) (by decide +kernel)
theorem ms49 : Cond.selects "ArchTradesModel" ⟨"ArchTradesModel", "mayGo", "(III)Z"⟩ ⟨"ArchTradesModel", "mayGo", "(III)Z"⟩ ∈ WL := wlm (in0 (List.mem_of_getElem? (i := 49) (by decide +kernel))) (by decide +kernel)
theorem ms50 : Cond.selects "ArchTradesModel" ⟨"ArchTradesModel", "archOf", "(II)I"⟩ ⟨"ArchTradesModel", "archOf", "(II)I"⟩ ∈ WL := wlm (in0 (List.mem_of_getElem? (i := 50) (by decide +kernel))) (by decide +kernel)
theorem ms51 : Cond.selects "ArchTradesModel" ⟨"ArchTradesModel", "mayBy", "(IIII)Z"⟩ ⟨"ArchTradesModel", "mayBy", "(IIII)Z"⟩ ∈ WL := wlm (in0 (List.mem_of_getElem? (i := 51) (by decide +kernel))) (by decide +kernel)
theorem ms52 : Cond.selects "ArchTradesModel" ⟨"ArchTradesModel", "tradesOf", "(I)I"⟩ ⟨"ArchTradesModel", "tradesOf", "(I)I"⟩ ∈ WL := wlm (in0 (List.mem_of_getElem? (i := 52) (by decide +kernel))) (by decide +kernel)
theorem ms53 : Cond.selects "ArchTradesModel" ⟨"ArchTradesModel", "allOf", "(I)I"⟩ ⟨"ArchTradesModel", "allOf", "(I)I"⟩ ∈ WL := wlm (in0 (List.mem_of_getElem? (i := 53) (by decide +kernel))) (by decide +kernel)
theorem ms54 : Cond.selects "ArchTradesModel" ⟨"ArchTradesModel", "isMixed", "(I)Z"⟩ ⟨"ArchTradesModel", "isMixed", "(I)Z"⟩ ∈ WL := wlm (in0 (List.mem_of_getElem? (i := 54) (by decide +kernel))) (by decide +kernel)
theorem ms55 : Cond.selects "ArchTradesModel" ⟨"ArchTradesModel", "portersOf", "(I)I"⟩ ⟨"ArchTradesModel", "portersOf", "(I)I"⟩ ∈ WL := wlm (in0 (List.mem_of_getElem? (i := 55) (by decide +kernel))) (by decide +kernel)
theorem ms56 : Cond.selects "ArchTradesModel" ⟨"ArchTradesModel", "layCharters", "()V"⟩ ⟨"ArchTradesModel", "layCharters", "()V"⟩ ∈ WL := wlm (in0 (List.mem_of_getElem? (i := 56) (by decide +kernel))) (by decide +kernel)
theorem ms57 : Cond.selects "ArchTradesModel" ⟨"ArchTradesModel", "noneTaken", "()V"⟩ ⟨"ArchTradesModel", "noneTaken", "()V"⟩ ∈ WL := wlm (in0 (List.mem_of_getElem? (i := 57) (by decide +kernel))) (by decide +kernel)
theorem ms58 : Cond.selects "ArchTradesModel" ⟨"ArchTradesModel", "mostFrom", "(I)I"⟩ ⟨"ArchTradesModel", "mostFrom", "(I)I"⟩ ∈ WL := wlm (in0 (List.mem_of_getElem? (i := 58) (by decide +kernel))) (by decide +kernel)
theorem ms59 : Cond.selects "ArchTradesModel" ⟨"ArchTradesModel", "putsOne", "(I)Z"⟩ ⟨"ArchTradesModel", "putsOne", "(I)Z"⟩ ∈ WL := wlm (in0 (List.mem_of_getElem? (i := 59) (by decide +kernel))) (by decide +kernel)
theorem ms60 : Cond.selects "ArchTradesModel" ⟨"ArchTradesModel", "canBe", "(II)Z"⟩ ⟨"ArchTradesModel", "canBe", "(II)Z"⟩ ∈ WL := wlm (in0 (List.mem_of_getElem? (i := 60) (by decide +kernel))) (by decide +kernel)
theorem ms61 : Cond.selects "ArchTradesModel" ⟨"ArchTradesModel", "shift", "(I)V"⟩ ⟨"ArchTradesModel", "shift", "(I)V"⟩ ∈ WL := wlm (in0 (List.mem_of_getElem? (i := 61) (by decide +kernel))) (by decide +kernel)
theorem ms62 : Cond.selects "ArchTradesModel" ⟨"ArchTradesModel", "firstOf", "(II)I"⟩ ⟨"ArchTradesModel", "firstOf", "(II)I"⟩ ∈ WL := wlm (in0 (List.mem_of_getElem? (i := 62) (by decide +kernel))) (by decide +kernel)
theorem ms63 : Cond.selects "ArchTradesModel" ⟨"ArchTradesModel", "sortCharters", "()V"⟩ ⟨"ArchTradesModel", "sortCharters", "()V"⟩ ∈ WL := wlm (in0 (List.mem_of_getElem? (i := 63) (by decide +kernel))) (by decide +kernel)
theorem ms64 : Cond.selects "ArchTradesModel" ⟨"ArchTradesModel", "swap", "(II)V"⟩ ⟨"ArchTradesModel", "swap", "(II)V"⟩ ∈ WL := wlm (in0 (List.mem_of_getElem? (i := 64) (by decide +kernel))) (by decide +kernel)
theorem ms65 : Cond.selects "ArchTradesModel" ⟨"ArchTradesModel", "nextCharters", "()Z"⟩ ⟨"ArchTradesModel", "nextCharters", "()Z"⟩ ∈ WL := wlm (in0 (List.mem_of_getElem? (i := 65) (by decide +kernel))) (by decide +kernel)
theorem ms66 : Cond.selects "ArchTradesModel" ⟨"ArchTradesModel", "sizeOf", "(I)I"⟩ ⟨"ArchTradesModel", "sizeOf", "(I)I"⟩ ∈ WL := wlm (in0 (List.mem_of_getElem? (i := 66) (by decide +kernel))) (by decide +kernel)
theorem ms67 : Cond.selects "ArchTradesModel" ⟨"ArchTradesModel", "cartSize", "(I)I"⟩ ⟨"ArchTradesModel", "cartSize", "(I)I"⟩ ∈ WL := wlm (in0 (List.mem_of_getElem? (i := 67) (by decide +kernel))) (by decide +kernel)
theorem ms68 : Cond.selects "ArchTradesModel" ⟨"ArchTradesModel", "began", "(I)V"⟩ ⟨"ArchTradesModel", "began", "(I)V"⟩ ∈ WL := wlm (in0 (List.mem_of_getElem? (i := 68) (by decide +kernel))) (by decide +kernel)
theorem ms69 : Cond.selects "ArchTradesModel" ⟨"ArchTradesModel", "plainSize", "(I)I"⟩ ⟨"ArchTradesModel", "plainSize", "(I)I"⟩ ∈ WL := wlm (in0 (List.mem_of_getElem? (i := 69) (by decide +kernel))) (by decide +kernel)
theorem ms70 : Cond.selects "ArchTradesModel" ⟨"ArchTradesModel", "markOf", "(I)I"⟩ ⟨"ArchTradesModel", "markOf", "(I)I"⟩ ∈ WL := wlm (in0 (List.mem_of_getElem? (i := 70) (by decide +kernel))) (by decide +kernel)
end
section
/-! ===== the abstract heap: cell r, place k; layouts; the cells of a world ===== -/
abbrev AH : Type := Nat → Nat → Int32
abbrev Sh : Type := Nat ⊕ (Nat × Nat)
def hput (h : AH) (r : Nat) (f : Nat → Int32) : AH := fun a => if a = r then f else h a
def hset (h : AH) (r k : Nat) (v : Int32) : AH := hput h r (upd (h r) k v)
/-- fields of class c: none is a number, some (d, sh) a reference to the cell d places behind, of shape sh -/
def cfl (c : Nat) : List (Option (Nat × Sh)) := match c with
  | 0 => [some (1, .inr (0, 24)), some (2, .inr (0, 24)), some (3, .inr (0, 24)), some (4, .inr (0, 24)), none, none]
  | 1 => [some (1, .inr (0, 16)), none]
  | 2 => [none, none, none, none, none, none, none, some (1, .inr (0, 12)), some (2, .inr (0, 12)), some (3, .inr (0, 6)), some (4, .inr (0, 6)), some (5, .inr (0, 6)), some (6, .inr (0, 6)), some (7, .inr (0, 24)), some (8, .inr (0, 24))]
  | 3 => [some (1, .inr (0, 36)), some (2, .inr (0, 6)), some (3, .inr (0, 6)), some (4, .inr (0, 6)), some (5, .inr (0, 6)), some (6, .inr (0, 6)), some (7, .inr (0, 6)), some (8, .inr (0, 6)), none, none, none]
  | 4 => [some (1, .inl 2), none]
  | 5 => [some (1, .inr (0, 8)), some (2, .inr (0, 8)), some (3, .inr (0, 320))]
  | 6 => [some (1, .inr (1, 500)), none, none, none, none]
  | 7 => [some (1, .inl 5), some (5, .inl 6), some (7, .inl 4), some (17, .inl 2), some (26, .inl 2), some (35, .inl 2), some (44, .inl 0), some (49, .inl 3), some (58, .inl 1), none, none]
  | _ => [none, none, some (1, .inr (0, 8)), some (2, .inr (0, 8)), some (3, .inr (0, 320)), some (4, .inr (0, 100)), some (5, .inr (0, 100)), none, some (6, .inr (0, 2400)), none, some (7, .inr (0, 500)), none, none, none, none, none, none, none, none, none, some (8, .inr (0, 144)), some (9, .inr (2, 144)), some (10, .inr (2, 144)), some (11, .inr (0, 144)), some (12, .inr (0, 6)), some (13, .inr (0, 6)), none, none, some (14, .inr (0, 6)), some (15, .inr (0, 6)), some (16, .inr (2, 2)), some (17, .inr (0, 200)), some (18, .inr (0, 16)), none]
def fldOf (ad : Nat → Nat) (h : AH) (r k : Nat) (o : Option (Nat × Sh)) : Value := match o with
  | none => .int (h r k)
  | some q => .ref (ad (r + q.1))
def cellOf (ad : Nat → Nat) (tc : Nat → ClassId) (h : AH) (r : Nat) (sh : Sh) : va_E := match sh with
  | .inl c => .inr (c, (cfl c).mapIdx (fun k o => fldOf ad h r k o))
  | .inr q => .inl (tc q.1, q.2, .inl (h r))
def conc (La : List Sh) (ad : Nat → Nat) (tc : Nat → ClassId) (h : AH) : va_W := La.mapIdx (fun r sh => (ad r, cellOf ad tc h r sh))
def wfL (La : List Sh) : Prop := ∀ (r c : Nat), La[r]? = some (.inl c) → ∀ (k d : Nat) (sh : Sh), (cfl c)[k]? = some (some (d, sh)) → La[r + d]? = some sh
theorem conc_get {La : List Sh} {ad : Nat → Nat} {tc : Nat → ClassId} {h : AH} {r : Nat} {sh : Sh} (hr : La[r]? = some sh) : (conc La ad tc h)[r]? = some (ad r, cellOf ad tc h r sh) := by
  simp [conc, List.getElem?_mapIdx, hr]
theorem hput_self (h : AH) (r : Nat) (f : Nat → Int32) : hput h r f r = f := by simp [hput]
theorem hput_ne (h : AH) {r a : Nat} (f : Nat → Int32) (n : a ≠ r) : hput h r f a = h a := by simp [hput, n]
theorem conc_set {La : List Sh} {ad : Nat → Nat} {tc : Nat → ClassId} {h : AH} {r : Nat} {sh : Sh} {f : Nat → Int32} {e : va_E} (hr : La[r]? = some sh) (he : cellOf ad tc (hput h r f) r sh = e) : (conc La ad tc h).set r (ad r, e) = conc La ad tc (hput h r f) := by
  apply List.ext_getElem?
  intro k
  rw [List.getElem?_set]
  by_cases hk : r = k
  · subst hk
    have hl : r < (conc La ad tc h).length := by
      have := (List.getElem?_eq_some_iff.mp hr).1
      simpa [conc] using this
    rw [if_pos rfl, if_pos hl, conc_get hr, he]
  · rw [if_neg hk]
    simp only [conc, List.getElem?_mapIdx]
    cases La[k]? with
    | none => rfl
    | some s2 =>
      have hne : k ≠ r := fun q => hk q.symm
      cases s2 with
      | inl c =>
        simp only [Option.map_some, cellOf]
        congr 5
        funext j o
        cases o <;> simp [fldOf, hput, hne]
      | inr q => simp [cellOf, hput, hne]
theorem conc_setA {La : List Sh} {ad : Nat → Nat} {tc : Nat → ClassId} {h : AH} {r t n : Nat} {f : Nat → Int32} (hr : La[r]? = some (.inr (t, n))) : (conc La ad tc h).set r (ad r, .inl (tc t, n, .inl f)) = conc La ad tc (hput h r f) :=
  conc_set hr (by simp [cellOf, hput])
theorem conc_setO {La : List Sh} {ad : Nat → Nat} {tc : Nat → ClassId} {h : AH} {r c k : Nat} {v : Int32} (hr : La[r]? = some (.inl c)) (hk : (cfl c)[k]? = some none) : (conc La ad tc h).set r (ad r, .inr (c, ((cfl c).mapIdx (fun k o => fldOf ad h r k o)).set k (.int v))) = conc La ad tc (hset h r k v) := by
  refine conc_set hr ?_
  simp only [cellOf]
  congr 2
  apply List.ext_getElem?
  intro j
  rw [List.getElem?_set]
  simp only [List.getElem?_mapIdx, List.length_mapIdx]
  by_cases hj : k = j
  · subst hj
    have hl := (List.getElem?_eq_some_iff.mp hk).1
    rw [if_pos rfl, if_pos hl, hk]
    simp [fldOf, hput, upd]
  · rw [if_neg hj]
    cases (cfl c)[j]? with
    | none => rfl
    | some o =>
      have hne : ¬ j = k := fun q => hj q.symm
      cases o <;> simp [fldOf, hput, upd, hne]
/-! ===== what never changes: static rows, String constants, the words of nest mates ===== -/
/-- classes and slots; array classes; layout; addresses; addresses of the static rows; of the String constants, of their bytes -/
abbrev GC : Type := (Nat → ClassId) × (Nat → Nat → Nat) × (Nat → ClassId) × List Sh × (Nat → Nat) × (Nat → Nat) × (Nat → Nat) × (Nat → Nat)
def gD (g : GC) : va_G := (g.1, g.2.1)
def gtc (g : GC) : Nat → ClassId := g.2.2.1
def gL (g : GC) : List Sh := g.2.2.2.1
def gad (g : GC) : Nat → Nat := g.2.2.2.2.1
def gtA (g : GC) : Nat → Nat := g.2.2.2.2.2.1
def gK (g : GC) : Nat → Nat := g.2.2.2.2.2.2.1
def gV (g : GC) : Nat → Nat := g.2.2.2.2.2.2.2
def gW (g : GC) (h : AH) : va_W := conc (gL g) (gad g) (gtc g) h
def tys (g : GC) : List (ClassId × FieldType) := [(gtc g 0, .int), (gtc g 1, .byte), (gtc g 2, .boolean)]
def gA (g : GC) (sz : Nat) : Nat → Prop := fun q => (∃ r, r < (gL g).length ∧ q = gad g r) ∨ sz ≤ q
def stc (i : Nat) : String × String := match i with
  | 0 => (RX7, "WEIGHTS")
  | 1 => (RX7, "NEAREST")
  | 2 => (RX1, "SIZE_BODIES")
  | _ => (RX1, "MARK_BODIES")
def stv (i : Nat) : List Int32 := match i with
  | 0 => [3, 5, 7, 11]
  | 1 => [-1, 0, 1, 1, 0, 4]
  | 2 => [10, 11, 11, 12, 13, 14]
  | _ => [20, 21, 22, 24, 23, 23]
def ksi (i : Nat) : Nat × String := match i with
  | 0 => (44, "tide")
  | 1 => (68, "arch")
  | 2 => (90, "boat")
  | 3 => (118, "barge")
  | 4 => (120, "cog")
  | 5 => (122, "raft")
  | 6 => (124, "cart")
  | _ => (126, "wain")
def ksb : List (List Int32) := [[116, 105, 100, 101], [97, 114, 99, 104], [98, 111, 97, 116], [98, 97, 114, 103, 101], [99, 111, 103], [114, 97, 102, 116], [99, 97, 114, 116], [119, 97, 105, 110]]
def ksl : List Nat := [4, 4, 4, 5, 3, 4, 4, 4]
def nestM : List (String × Nat × MethodName) := [(RX0, 38, yX7_withBit), (RX2, 71, yX7_bitOf), (RX2, 87, yX7_withBit), (RX3, 108, yX7_withBit), (RX3, 112, yX7_bitOf), (RX7, 9, yX5_init), (RX7, 18, yX6_init), (RX7, 25, yX4_init), (RX4, 11, yX2_init), (RX7, 32, yX2_init), (RX7, 45, yX0_init), (RX7, 52, yX3_init), (RX7, 59, yX1_init)]
def nestF : List (String × Nat × String × String × String) := [("ArchTrades", 139, "ArchTrades$Bridge", "arches", "I"), ("ArchTrades", 156, "ArchTrades$Bridge", "shutArches", "I"), ("ArchTrades", 171, "ArchTrades$Bridge", "hourNow", "I"), ("ArchTrades", 199, "ArchTrades$Bridge", "boats", "I"), ("ArchTrades", 205, "ArchTrades$Bridge", "stands", "Z"), ("ArchTrades", 215, "ArchTrades$Bridge", "heights", "[I"), ("ArchTrades", 219, "ArchTrades$Bridge", "tolls", "[I"), ("ArchTrades", 222, "ArchTrades$Bridge", "masts", "[I"), ("ArchTrades", 225, "ArchTrades$Bridge", "goneBoats", "I"), ("ArchTrades", 268, "ArchTrades$Bridge", "sorts", "[I"), ("ArchTrades", 291, "ArchTrades$Bridge", "tollHad", "I"), ("ArchTrades$Acts", 35, "ArchTrades$Bridge", "shutArches", "I"), ("ArchTrades$Acts", 51, "ArchTrades$Bridge", "hourNow", "I"), ("ArchTrades$Asks", 19, "ArchTrades$Bridge", "sorts", "[I"), ("ArchTrades$Asks", 47, "ArchTrades$Bridge", "masts", "[I"), ("ArchTrades$Bridge", 84, "ArchTrades", "WEIGHTS", "[I"), ("ArchTrades$Foretold", 101, "ArchTrades$Bridge", "tides", "[I"), ("ArchTrades$Foretold", 75, "ArchTrades$Bridge", "arches", "I"), ("ArchTrades$Foretold", 80, "ArchTrades$Bridge", "boats", "I"), ("ArchTrades$Reader", 106, "ArchTrades$Bridge", "sorts", "[I"), ("ArchTrades$Reader", 109, "ArchTrades$Bridge", "masts", "[I"), ("ArchTrades$Reader", 112, "ArchTrades$Bridge", "loads", "[I"), ("ArchTrades$Reader", 40, "ArchTrades$Bridge", "stands", "Z"), ("ArchTrades$Reader", 57, "ArchTrades$Bridge", "tides", "[I"), ("ArchTrades$Reader", 70, "ArchTrades$Bridge", "arches", "I"), ("ArchTrades$Reader", 77, "ArchTrades$Bridge", "charters", "[I"), ("ArchTrades$Reader", 84, "ArchTrades$Bridge", "heights", "[I"), ("ArchTrades$Reader", 87, "ArchTrades$Bridge", "tolls", "[I"), ("ArchTrades$Reader", 92, "ArchTrades$Bridge", "boats", "I")]
def EV (g : GC) (A : Nat → Prop) (U : State) : Prop :=
  (∀ q ∈ nestM, va_Nw (.methodLinkNest q.1 q.2.1 q.2.2 "ArchTrades") U) ∧ (∀ q ∈ nestF, va_Nw (.fieldLinkNest q.1 q.2.1 q.2.2.1 q.2.2.2.1 q.2.2.2.2 "ArchTrades") U) ∧
  (∀ i, i < 4 → va_Z (stc i).1 (stc i).2 "[I" (.ref (gtA g i)) A U U.heap ∧ va_T .int (gtA g i) (stv i).length (fun j => .int ((stv i).getD j 0)) A U U.heap) ∧
  vk_S 8 ksl ksb (gK g) (gV g) A U U.heap ∧ (∀ i, i < 8 → vk_R RX4 (ksi i).1 (ksi i).2 (gK g i) U) ∧ va_Z "java/lang/String" "COMPACT_STRINGS" "Z" (.int 1) A U U.heap
theorem EV.call {g : GC} {A B : Nat → Prop} {s U : State} {H : Heap} {locs : List Loc} (h : EV g A s) (hS : va_S A s.heap H locs) (hU : U.heap = H) (hW : s.WarmedH U.vm) (hB : ∀ q, B q → A q) : EV g B U := by
  obtain ⟨h1, h2, h3, h4, h5, h6⟩ := h
  have hk := hS.2.1
  refine ⟨fun q hq => (h1 q hq).warmM hW, fun q hq => (h2 q hq).warmF hW, fun i hi => ⟨?_, ?_⟩, ?_, fun i hi => (h5 i hi).warm hW, ?_⟩
  · rw [hU]; exact (((h3 i hi).1.moved hW.alike).kept hk).narrow hB
  · rw [hU]; exact (((h3 i hi).2.moved hW.alike).kept hk).narrow hB
  · rw [hU]; exact ((h4.moved hW.alike).kept hk).narrow hB
  · rw [hU]; exact ((h6.moved hW.alike).kept hk).narrow hB
theorem EV.frame {g : GC} {A : Nat → Prop} {U : State} {a : Array Value} {f : JFrame} {mk : MethodId} (h : EV g A U) : EV g A (U.calling f mk a) := by
  obtain ⟨h1, h2, h3, h4, h5, h6⟩ := h
  exact ⟨fun q hq => (h1 q hq).same rfl rfl, fun q hq => (h2 q hq).same rfl rfl, fun i hi => ⟨(h3 i hi).1.moved (Vm.Alike.refl U.vm), (h3 i hi).2.moved (Vm.Alike.refl U.vm)⟩, h4.moved (Vm.Alike.refl U.vm), fun i hi => (h5 i hi).same rfl, h6.moved (Vm.Alike.refl U.vm)⟩
theorem EV.self {g : GC} {A B : Nat → Prop} {U : State} (h : EV g A U) (hB : ∀ q, B q → A q) : EV g B U := by
  obtain ⟨h1, h2, h3, h4, h5, h6⟩ := h
  exact ⟨h1, h2, fun i hi => ⟨(h3 i hi).1.narrow hB, (h3 i hi).2.narrow hB⟩, h4.narrow hB, h5, h6.narrow hB⟩
/-! ===== the judgement: from here the machine ends as the partial function says ===== -/
abbrev MC : Type := Program × Launch × Env × Room × State × MethodId × Array Value × List Frame × Method × Code
abbrev zR (z : MC) : Room := z.2.2.2.1
abbrev zs (z : MC) : State := z.2.2.2.2.1
abbrev zm (z : MC) : MethodId := z.2.2.2.2.2.1
abbrev za (z : MC) : Array Value := z.2.2.2.2.2.2.1
abbrev zb (z : MC) : List Frame := z.2.2.2.2.2.2.2.1
abbrev zme (z : MC) : Method := z.2.2.2.2.2.2.2.2.1
abbrev zc (z : MC) : Code := z.2.2.2.2.2.2.2.2.2
abbrev WW (z : MC) (H : Heap) (locs : List Loc) (Q : State → Prop) (f : JFrame) : Prop := W z.1 z.2.1 z.2.2.1 (zR z) (zs z) (zm z) (za z) (zb z) (zme z) (zc z) H locs 0 0 Q f
def rmL (d : Nat) : Room := { frames := d, cells := 0, slots := 0, locals := 64 * d }
def Wd (g : GC) (A : Nat → Prop) (s : State) (h : AH) (H : Heap) (locs : List Loc) : Prop := va_P (gD g) vwCl (gW g h) H ∧ va_D A (gW g h) ∧ va_S A s.heap H locs
def Fx (z : MC) (cc : ByteArray) (nL : Nat) (own : String) (rt : Option FieldType) (lev : Nat) (g : GC) (A : Nat → Prop) : Prop :=
  z.1.tables.exec = Jvm.exec ∧ (zc z).code = cc ∧ (zc z).maxLocals = nL ∧ (zs z).vm.findClass own = some (zm z).cls ∧ (∀ w ∈ WL, w.before (za z) (zs z) = true) ∧ va_K (gD g) vwCl (tys g) (zs z) ∧ wfL (gL g) ∧ EV g A (zs z) ∧ (∀ q, (zs z).heap.size ≤ q → A q) ∧ (zme z).sig.returnType = rt ∧ (zme z).locks = false ∧ zR z = rmL lev ∧ (∀ r, r < (gL g).length → A (gad g r))
def Snd (z : MC) (nL : Nat) (g : GC) (A : Nat → Prop) {α : Type} (Qf : α → State → Prop) (pc : Nat) (lv : List (Nat × Value)) (st : List Value) (h : AH) (res : Option α) : Prop :=
  ∀ a : α, res = some a → ∀ (ls : Array Slot) (H : Heap) (locs : List Loc), lv_has ls nL lv → Wd g A (zs z) h H locs → WW z H locs (Qf a) (F0 (zm z) pc ls st)
def lt {α : Type} {β : Type} (v : α) (K : α → β) : β := K v
def bd {ρ α : Type} (o : Option (ρ × AH)) (K : ρ → AH → Option α) : Option α := match o with
  | some a => K a.1 a.2
  | none => none
def ck {α : Type} (i : Int32) (n : Nat) (K : Option α) : Option α := if i < 0 ∨ n ≤ i.toNatClampNeg then none else K
def gz {α : Type} (v : Int32) (K : Option α) : Option α := if v = 0 ∨ v = 1 then K else none
def dv {α : Type} (v : Int32) (K : Option α) : Option α := if v = 0 then none else K
def rq (g : GC) (A : Nat → Prop) {ρ : Type} (mk : ρ → Option Value) (a : ρ × AH) : Array Value → State → Outcome → State → Prop := fun _ st oc t => (oc = .returned (mk a.1) ∧ va_P (gD g) vwCl (gW g a.2) t.heap ∧ va_D A (gW g a.2)) ∧ va_F A st t
def QF (z : MC) (g : GC) (A : Nat → Prop) {ρ : Type} (mk : ρ → Option Value) (a : ρ × AH) : State → Prop := MQ (zb z) (rq g A mk a) (za z) (zs z) 0 0 A
def mkI (v : Int32) : Option Value := some (.int v)
def mkL (v : Int64) : Option Value := some (.long v)
def mkR (g : GC) (r : Nat) : Option Value := some (.ref (gad g r))
def mkU (_ : Unit) : Option Value := none
section MS
variable {z : MC} {cc : ByteArray} {nL : Nat} {own : String} {rt : Option FieldType} {lev : Nat} {g : GC} {A : Nat → Prop} {α : Type} {Qf : α → State → Prop} {pc : Nat} {lv : List (Nat × Value)} {st : List Value} {h : AH} {res : Option α}
theorem s_none : Snd z nL g A Qf pc lv st h none := fun _ ha => by cases ha
theorem s_sub {lv' : List (Nat × Value)} (ks : List Nat) (hl : lv_pick lv ks = lv') (k : Snd z nL g A Qf pc lv' st h res) : Snd z nL g A Qf pc lv st h res := fun a ha ls H locs hl2 hw => k a ha ls H locs (lv_sub hl2 ks hl) hw
theorem s_let {β : Type} {v : β} {K : β → Option α} (stf : β → List Value) (lvf : β → List (Nat × Value)) (k : ∀ x : β, Snd z nL g A Qf pc (lvf x) (stf x) h (K x)) : Snd z nL g A Qf pc (lvf v) (stf v) h (lt v K) := k v
theorem s_letH {v : AH} {K : AH → Option α} (k : ∀ x : AH, Snd z nL g A Qf pc lv st x (K x)) : Snd z nL g A Qf pc lv st v (lt v K) := k v
theorem s_iconst (F : Fx z cc nL own rt lev g A) {n : Int} {v : Int32} (d : decode cc pc = .ok (.iconst n, 1)) (hv : Int32.ofInt n = v) (k : Snd z nL g A Qf (pc + 1) lv (.int v :: st) h res) : Snd z nL g A Qf pc lv st h res := fun a ha ls H locs hl hw => lv_iconst F.1 F.2.1 d hv (k a ha ls H locs hl hw)
theorem s_bipush (F : Fx z cc nL own rt lev g A) {n : Int} {v : Int32} (d : decode cc pc = .ok (.bipush n, 2)) (hv : (Int8.ofInt n).toInt32 = v) (k : Snd z nL g A Qf (pc + 2) lv (.int v :: st) h res) : Snd z nL g A Qf pc lv st h res := fun a ha ls H locs hl hw => lv_bipush F.1 F.2.1 d hv (k a ha ls H locs hl hw)
theorem s_sipush (F : Fx z cc nL own rt lev g A) {n : Int} {v : Int32} (d : decode cc pc = .ok (.sipush n, 3)) (hv : (Int16.ofInt n).toInt32 = v) (k : Snd z nL g A Qf (pc + 3) lv (.int v :: st) h res) : Snd z nL g A Qf pc lv st h res := fun a ha ls H locs hl hw => lv_sipush F.1 F.2.1 d hv (k a ha ls H locs hl hw)
theorem s_lconst (F : Fx z cc nL own rt lev g A) {n : Fin 2} {v : Int64} (d : decode cc pc = .ok (.lconst n, 1)) (hv : Int64.ofNat (n : Nat) = v) (k : Snd z nL g A Qf (pc + 1) lv (.long v :: st) h res) : Snd z nL g A Qf pc lv st h res := fun a ha ls H locs hl hw => lv_lconst F.1 F.2.1 d hv (k a ha ls H locs hl hw)
theorem s_ldc (F : Fx z cc nL own rt lev g A) {index : Nat} {v : Int32} (d : decode cc pc = .ok (.ldc index, 2)) (hc : Cond.constant own index v ∈ WL) (k : Snd z nL g A Qf (pc + 2) lv (.int v :: st) h res) : Snd z nL g A Qf pc lv st h res := fun a ha ls H locs hl hw => lv_ldc F.1 F.2.1 F.2.2.2.1 (F.2.2.2.2.1 _ hc) d (k a ha ls H locs hl hw)
theorem s_ldcw (F : Fx z cc nL own rt lev g A) {index : Nat} {v : Int32} (d : decode cc pc = .ok (.ldc_w index, 3)) (hc : Cond.constant own index v ∈ WL) (k : Snd z nL g A Qf (pc + 3) lv (.int v :: st) h res) : Snd z nL g A Qf pc lv st h res := fun a ha ls H locs hl hw => lv_ldcw F.1 F.2.1 F.2.2.2.1 (F.2.2.2.2.1 _ hc) d (k a ha ls H locs hl hw)
theorem s_ldc2 (F : Fx z cc nL own rt lev g A) {index : Nat} {v : Int64} (d : decode cc pc = .ok (.ldc2_w index, 3)) (hc : Cond.constantLong own index v ∈ WL) (k : Snd z nL g A Qf (pc + 3) lv (.long v :: st) h res) : Snd z nL g A Qf pc lv st h res := fun a ha ls H locs hl hw => lv_ldc2 F.1 F.2.1 F.2.2.2.1 (F.2.2.2.2.1 _ hc) d (k a ha ls H locs hl hw)
theorem s_iload_n (F : Fx z cc nL own rt lev g A) {kf : Fin 4} {i : Nat} {x : Int32} (d : decode cc pc = .ok (.iload_n kf, 1)) (hi : (kf : Nat) = i) (j : Nat) (hj : lv[j]? = some (i, .int x)) (k : Snd z nL g A Qf (pc + 1) lv (.int x :: st) h res) : Snd z nL g A Qf pc lv st h res := fun a ha ls H locs hl hw => lv_iload_n F.1 F.2.1 d hi (lv_at hl j hj) (k a ha ls H locs hl hw)
theorem s_iload (F : Fx z cc nL own rt lev g A) {i : Nat} {x : Int32} (d : decode cc pc = .ok (.iload i, 2)) (j : Nat) (hj : lv[j]? = some (i, .int x)) (k : Snd z nL g A Qf (pc + 2) lv (.int x :: st) h res) : Snd z nL g A Qf pc lv st h res := fun a ha ls H locs hl hw => lv_iload F.1 F.2.1 d (lv_at hl j hj) (k a ha ls H locs hl hw)
theorem s_lload_n (F : Fx z cc nL own rt lev g A) {kf : Fin 4} {i : Nat} {x : Int64} (d : decode cc pc = .ok (.lload_n kf, 1)) (hi : (kf : Nat) = i) (j : Nat) (hj : lv[j]? = some (i, .long x)) (k : Snd z nL g A Qf (pc + 1) lv (.long x :: st) h res) : Snd z nL g A Qf pc lv st h res := fun a ha ls H locs hl hw => lv_lload_n F.1 F.2.1 d hi (lv_at hl j hj) (k a ha ls H locs hl hw)
theorem s_lload (F : Fx z cc nL own rt lev g A) {i : Nat} {x : Int64} (d : decode cc pc = .ok (.lload i, 2)) (j : Nat) (hj : lv[j]? = some (i, .long x)) (k : Snd z nL g A Qf (pc + 2) lv (.long x :: st) h res) : Snd z nL g A Qf pc lv st h res := fun a ha ls H locs hl hw => lv_lload F.1 F.2.1 d (lv_at hl j hj) (k a ha ls H locs hl hw)
theorem s_aload_n (F : Fx z cc nL own rt lev g A) {kf : Fin 4} {i x : Nat} (d : decode cc pc = .ok (.aload_n kf, 1)) (hi : (kf : Nat) = i) (j : Nat) (hj : lv[j]? = some (i, .ref x)) (k : Snd z nL g A Qf (pc + 1) lv (.ref x :: st) h res) : Snd z nL g A Qf pc lv st h res := fun a ha ls H locs hl hw => lv_aload_n F.1 F.2.1 d hi (lv_at hl j hj) (k a ha ls H locs hl hw)
theorem s_aload (F : Fx z cc nL own rt lev g A) {i x : Nat} (d : decode cc pc = .ok (.aload i, 2)) (j : Nat) (hj : lv[j]? = some (i, .ref x)) (k : Snd z nL g A Qf (pc + 2) lv (.ref x :: st) h res) : Snd z nL g A Qf pc lv st h res := fun a ha ls H locs hl hw => lv_aload F.1 F.2.1 d (lv_at hl j hj) (k a ha ls H locs hl hw)
theorem s_istore_n (F : Fx z cc nL own rt lev g A) {kf : Fin 4} {i : Nat} {x : Int32} {lv' : List (Nat × Value)} (d : decode cc pc = .ok (.istore_n kf, 1)) (hi : (kf : Nat) = i) (hn : i < nL) (he : (i, Value.int x) :: lv.filter (fun q => !(q.1 == i) && !(q.1 + 1 == i && q.2.category == 2)) = lv') (k : Snd z nL g A Qf (pc + 1) lv' st h res) : Snd z nL g A Qf pc lv (.int x :: st) h res := fun a ha _ H locs hl hw => lv_istore_n F.1 F.2.1 d hi hl hn he (fun ls' hl' => k a ha ls' H locs hl' hw)
theorem s_istore (F : Fx z cc nL own rt lev g A) {i : Nat} {x : Int32} {lv' : List (Nat × Value)} (d : decode cc pc = .ok (.istore i, 2)) (hn : i < nL) (he : (i, Value.int x) :: lv.filter (fun q => !(q.1 == i) && !(q.1 + 1 == i && q.2.category == 2)) = lv') (k : Snd z nL g A Qf (pc + 2) lv' st h res) : Snd z nL g A Qf pc lv (.int x :: st) h res := fun a ha _ H locs hl hw => lv_istore F.1 F.2.1 d hl hn he (fun ls' hl' => k a ha ls' H locs hl' hw)
theorem s_lstore_n (F : Fx z cc nL own rt lev g A) {kf : Fin 4} {i : Nat} {x : Int64} {lv' : List (Nat × Value)} (d : decode cc pc = .ok (.lstore_n kf, 1)) (hi : (kf : Nat) = i) (hn : i + 1 < nL) (he : (i, Value.long x) :: lv.filter (fun q => !(q.1 == i) && (!(q.1 == i + 1) && !(q.1 + 1 == i && q.2.category == 2))) = lv') (k : Snd z nL g A Qf (pc + 1) lv' st h res) : Snd z nL g A Qf pc lv (.long x :: st) h res := fun a ha _ H locs hl hw => lv_lstore_n F.1 F.2.1 d hi hl hn he (fun ls' hl' => k a ha ls' H locs hl' hw)
theorem s_astore_n (F : Fx z cc nL own rt lev g A) {kf : Fin 4} {i x : Nat} {lv' : List (Nat × Value)} (d : decode cc pc = .ok (.astore_n kf, 1)) (hi : (kf : Nat) = i) (hn : i < nL) (he : (i, Value.ref x) :: lv.filter (fun q => !(q.1 == i) && !(q.1 + 1 == i && q.2.category == 2)) = lv') (k : Snd z nL g A Qf (pc + 1) lv' st h res) : Snd z nL g A Qf pc lv (.ref x :: st) h res := fun a ha _ H locs hl hw => lv_astore_n F.1 F.2.1 d hi hl hn he (fun ls' hl' => k a ha ls' H locs hl' hw)
theorem s_iinc (F : Fx z cc nL own rt lev g A) {i : Nat} {n : Int} {x v : Int32} {lv' : List (Nat × Value)} (d : decode cc pc = .ok (.iinc i n, 3)) (j : Nat) (hj : lv[j]? = some (i, .int x)) (hv : x + Int32.ofInt n = v) (hn : i < nL) (he : (i, Value.int v) :: lv.filter (fun q => !(q.1 == i) && !(q.1 + 1 == i && q.2.category == 2)) = lv') (k : Snd z nL g A Qf (pc + 3) lv' st h res) : Snd z nL g A Qf pc lv st h res := fun a ha _ H locs hl hw => lv_iinc F.1 F.2.1 d hl hj hv hn he (fun ls' hl' => k a ha ls' H locs hl' hw)
theorem s_iadd (F : Fx z cc nL own rt lev g A) {x y : Int32} (d : decode cc pc = .ok (.iadd, 1)) (k : Snd z nL g A Qf (pc + 1) lv (.int (x + y) :: st) h res) : Snd z nL g A Qf pc lv (.int y :: .int x :: st) h res := fun a ha ls H locs hl hw => lv_iadd F.1 F.2.1 d (k a ha ls H locs hl hw)
theorem s_isub (F : Fx z cc nL own rt lev g A) {x y : Int32} (d : decode cc pc = .ok (.isub, 1)) (k : Snd z nL g A Qf (pc + 1) lv (.int (x - y) :: st) h res) : Snd z nL g A Qf pc lv (.int y :: .int x :: st) h res := fun a ha ls H locs hl hw => lv_isub F.1 F.2.1 d (k a ha ls H locs hl hw)
theorem s_imul (F : Fx z cc nL own rt lev g A) {x y : Int32} (d : decode cc pc = .ok (.imul, 1)) (k : Snd z nL g A Qf (pc + 1) lv (.int (x * y) :: st) h res) : Snd z nL g A Qf pc lv (.int y :: .int x :: st) h res := fun a ha ls H locs hl hw => lv_imul F.1 F.2.1 d (k a ha ls H locs hl hw)
theorem s_iand (F : Fx z cc nL own rt lev g A) {x y : Int32} (d : decode cc pc = .ok (.iand, 1)) (k : Snd z nL g A Qf (pc + 1) lv (.int (x &&& y) :: st) h res) : Snd z nL g A Qf pc lv (.int y :: .int x :: st) h res := fun a ha ls H locs hl hw => lv_iand F.1 F.2.1 d (k a ha ls H locs hl hw)
theorem s_ior (F : Fx z cc nL own rt lev g A) {x y : Int32} (d : decode cc pc = .ok (.ior, 1)) (k : Snd z nL g A Qf (pc + 1) lv (.int (x ||| y) :: st) h res) : Snd z nL g A Qf pc lv (.int y :: .int x :: st) h res := fun a ha ls H locs hl hw => lv_ior F.1 F.2.1 d (k a ha ls H locs hl hw)
theorem s_ixor (F : Fx z cc nL own rt lev g A) {x y : Int32} (d : decode cc pc = .ok (.ixor, 1)) (k : Snd z nL g A Qf (pc + 1) lv (.int (x ^^^ y) :: st) h res) : Snd z nL g A Qf pc lv (.int y :: .int x :: st) h res := fun a ha ls H locs hl hw => lv_ixor F.1 F.2.1 d (k a ha ls H locs hl hw)
theorem s_ishl (F : Fx z cc nL own rt lev g A) {x y : Int32} (d : decode cc pc = .ok (.ishl, 1)) (k : Snd z nL g A Qf (pc + 1) lv (.int (x <<< (y &&& 31)) :: st) h res) : Snd z nL g A Qf pc lv (.int y :: .int x :: st) h res := fun a ha ls H locs hl hw => lv_ishl F.1 F.2.1 d (k a ha ls H locs hl hw)
theorem s_ishr (F : Fx z cc nL own rt lev g A) {x y : Int32} (d : decode cc pc = .ok (.ishr, 1)) (k : Snd z nL g A Qf (pc + 1) lv (.int (x >>> (y &&& 31)) :: st) h res) : Snd z nL g A Qf pc lv (.int y :: .int x :: st) h res := fun a ha ls H locs hl hw => lv_ishr F.1 F.2.1 d (k a ha ls H locs hl hw)
theorem s_ladd (F : Fx z cc nL own rt lev g A) {x y : Int64} (d : decode cc pc = .ok (.ladd, 1)) (k : Snd z nL g A Qf (pc + 1) lv (.long (x + y) :: st) h res) : Snd z nL g A Qf pc lv (.long y :: .long x :: st) h res := fun a ha ls H locs hl hw => lv_ladd F.1 F.2.1 d (k a ha ls H locs hl hw)
theorem s_lsub (F : Fx z cc nL own rt lev g A) {x y : Int64} (d : decode cc pc = .ok (.lsub, 1)) (k : Snd z nL g A Qf (pc + 1) lv (.long (x - y) :: st) h res) : Snd z nL g A Qf pc lv (.long y :: .long x :: st) h res := fun a ha ls H locs hl hw => lv_lsub F.1 F.2.1 d (k a ha ls H locs hl hw)
theorem s_land (F : Fx z cc nL own rt lev g A) {x y : Int64} (d : decode cc pc = .ok (.land, 1)) (k : Snd z nL g A Qf (pc + 1) lv (.long (x &&& y) :: st) h res) : Snd z nL g A Qf pc lv (.long y :: .long x :: st) h res := fun a ha ls H locs hl hw => lv_land F.1 F.2.1 d (k a ha ls H locs hl hw)
theorem s_lor (F : Fx z cc nL own rt lev g A) {x y : Int64} (d : decode cc pc = .ok (.lor, 1)) (k : Snd z nL g A Qf (pc + 1) lv (.long (x ||| y) :: st) h res) : Snd z nL g A Qf pc lv (.long y :: .long x :: st) h res := fun a ha ls H locs hl hw => lv_lor F.1 F.2.1 d (k a ha ls H locs hl hw)
theorem s_ineg (F : Fx z cc nL own rt lev g A) {x : Int32} (d : decode cc pc = .ok (.ineg, 1)) (k : Snd z nL g A Qf (pc + 1) lv (.int (-x) :: st) h res) : Snd z nL g A Qf pc lv (.int x :: st) h res := fun a ha ls H locs hl hw => lv_ineg F.1 F.2.1 d (k a ha ls H locs hl hw)
theorem s_idiv (F : Fx z cc nL own rt lev g A) {x y : Int32} (d : decode cc pc = .ok (.idiv, 1)) (k : Snd z nL g A Qf (pc + 1) lv (.int (x / y) :: st) h res) : Snd z nL g A Qf pc lv (.int y :: .int x :: st) h (dv y res) := by
  intro a ha ls H locs hl hw
  unfold dv at ha
  split at ha
  · cases ha
  · next hy => exact lv_idiv F.1 F.2.1 d hy (k a ha ls H locs hl hw)
theorem s_irem (F : Fx z cc nL own rt lev g A) {x y : Int32} (d : decode cc pc = .ok (.irem, 1)) (k : Snd z nL g A Qf (pc + 1) lv (.int (x - x / y * y) :: st) h res) : Snd z nL g A Qf pc lv (.int y :: .int x :: st) h (dv y res) := by
  intro a ha ls H locs hl hw
  unfold dv at ha
  split at ha
  · cases ha
  · next hy => exact lv_irem F.1 F.2.1 d hy (k a ha ls H locs hl hw)
theorem s_idivN (F : Fx z cc nL own rt lev g A) {x y : Int32} (d : decode cc pc = .ok (.idiv, 1)) (hy : ¬ y = 0) (k : Snd z nL g A Qf (pc + 1) lv (.int (x / y) :: st) h res) : Snd z nL g A Qf pc lv (.int y :: .int x :: st) h res := fun a ha ls H locs hl hw => lv_idiv F.1 F.2.1 d hy (k a ha ls H locs hl hw)
theorem s_iremN (F : Fx z cc nL own rt lev g A) {x y : Int32} (d : decode cc pc = .ok (.irem, 1)) (hy : ¬ y = 0) (k : Snd z nL g A Qf (pc + 1) lv (.int (x - x / y * y) :: st) h res) : Snd z nL g A Qf pc lv (.int y :: .int x :: st) h res := fun a ha ls H locs hl hw => lv_irem F.1 F.2.1 d hy (k a ha ls H locs hl hw)
theorem s_i2l (F : Fx z cc nL own rt lev g A) {x : Int32} (d : decode cc pc = .ok (.i2l, 1)) (k : Snd z nL g A Qf (pc + 1) lv (.long x.toInt64 :: st) h res) : Snd z nL g A Qf pc lv (.int x :: st) h res := fun a ha ls H locs hl hw => lv_i2l F.1 F.2.1 d rfl (k a ha ls H locs hl hw)
theorem s_l2i (F : Fx z cc nL own rt lev g A) {x : Int64} (d : decode cc pc = .ok (.l2i, 1)) (k : Snd z nL g A Qf (pc + 1) lv (.int x.toInt32 :: st) h res) : Snd z nL g A Qf pc lv (.long x :: st) h res := fun a ha ls H locs hl hw => lv_l2i F.1 F.2.1 d rfl (k a ha ls H locs hl hw)
theorem s_i2b (F : Fx z cc nL own rt lev g A) {x : Int32} (d : decode cc pc = .ok (.i2b, 1)) (k : Snd z nL g A Qf (pc + 1) lv (.int x.toInt8.toInt32 :: st) h res) : Snd z nL g A Qf pc lv (.int x :: st) h res := fun a ha ls H locs hl hw => lv_i2b F.1 F.2.1 d rfl (k a ha ls H locs hl hw)
theorem s_i2s (F : Fx z cc nL own rt lev g A) {x : Int32} (d : decode cc pc = .ok (.i2s, 1)) (k : Snd z nL g A Qf (pc + 1) lv (.int x.toInt16.toInt32 :: st) h res) : Snd z nL g A Qf pc lv (.int x :: st) h res := fun a ha ls H locs hl hw => lv_i2s F.1 F.2.1 d rfl (k a ha ls H locs hl hw)
theorem s_iushr (F : Fx z cc nL own rt lev g A) {x y : Int32} (d : decode cc pc = .ok (.iushr, 1)) (k : Snd z nL g A Qf (pc + 1) lv (.int (x.toUInt32 >>> (y.toUInt32 &&& Int32.toUInt32 31)).toInt32 :: st) h res) : Snd z nL g A Qf pc lv (.int y :: .int x :: st) h res := fun a ha ls H locs hl hw => lv_iushr F.1 F.2.1 d rfl (k a ha ls H locs hl hw)
theorem s_lshl (F : Fx z cc nL own rt lev g A) {x : Int64} {y : Int32} (d : decode cc pc = .ok (.lshl, 1)) (k : Snd z nL g A Qf (pc + 1) lv (.long (x <<< (y.toInt64 &&& 63)) :: st) h res) : Snd z nL g A Qf pc lv (.int y :: .long x :: st) h res := fun a ha ls H locs hl hw => lv_lshl F.1 F.2.1 d rfl (k a ha ls H locs hl hw)
theorem s_lshr (F : Fx z cc nL own rt lev g A) {x : Int64} {y : Int32} (d : decode cc pc = .ok (.lshr, 1)) (k : Snd z nL g A Qf (pc + 1) lv (.long (x >>> (y.toInt64 &&& 63)) :: st) h res) : Snd z nL g A Qf pc lv (.int y :: .long x :: st) h res := fun a ha ls H locs hl hw => lv_lshr F.1 F.2.1 d rfl (k a ha ls H locs hl hw)
theorem s_lcmp (F : Fx z cc nL own rt lev g A) {x y : Int64} (d : decode cc pc = .ok (.lcmp, 1)) (k : Snd z nL g A Qf (pc + 1) lv (.int (lg_cmp x y) :: st) h res) : Snd z nL g A Qf pc lv (.long y :: .long x :: st) h res := fun a ha ls H locs hl hw => W.lcmp F.1 F.2.1 d (k a ha ls H locs hl hw)
theorem s_dup (F : Fx z cc nL own rt lev g A) {v : Value} (d : decode cc pc = .ok (.dup, 1)) (hv : v.category = 1) (k : Snd z nL g A Qf (pc + 1) lv (v :: v :: st) h res) : Snd z nL g A Qf pc lv (v :: st) h res := fun a ha ls H locs hl hw => lv_dup F.1 F.2.1 d hv (k a ha ls H locs hl hw)
theorem s_dup2 (F : Fx z cc nL own rt lev g A) {v w : Value} (d : decode cc pc = .ok (.dup2, 1)) (hv : v.category = 1) (hw2 : w.category = 1) (k : Snd z nL g A Qf (pc + 1) lv (v :: w :: v :: w :: st) h res) : Snd z nL g A Qf pc lv (v :: w :: st) h res := fun a ha ls H locs hl hw => lv_dup2_11 F.1 F.2.1 d hv hw2 (k a ha ls H locs hl hw)
theorem s_pop (F : Fx z cc nL own rt lev g A) {v : Value} (d : decode cc pc = .ok (.pop, 1)) (hv : v.category = 1) (k : Snd z nL g A Qf (pc + 1) lv st h res) : Snd z nL g A Qf pc lv (v :: st) h res := fun a ha ls H locs hl hw => lv_pop F.1 F.2.1 d hv (k a ha ls H locs hl hw)
theorem s_goto (F : Fx z cc nL own rt lev g A) {off : Int} (tgt : Nat) (d : decode cc pc = .ok (.goto off, 3)) (ht : (pc : Int) + off = (tgt : Int)) (k : Snd z nL g A Qf tgt lv st h res) : Snd z nL g A Qf pc lv st h res := fun a ha ls H locs hl hw => lv_goto F.1 F.2.1 d ht (k a ha ls H locs hl hw)
theorem s_if_eq (F : Fx z cc nL own rt lev g A) {x : Int32} {off : Int} {B C : Option α} (tgt : Nat) (d : decode cc pc = .ok (.ifCond .eq off, 3)) (ht : (pc : Int) + off = (tgt : Int)) (kt : x = 0 → Snd z nL g A Qf tgt lv st h B) (kf : ¬ x = 0 → Snd z nL g A Qf (pc + 3) lv st h C) : Snd z nL g A Qf pc lv (.int x :: st) h (if x = 0 then B else C) := by
  intro a ha ls H locs hl hw
  refine lv_if_eq F.1 F.2.1 d ht (fun hc => ?_) (fun hc => ?_)
  · rw [if_pos hc] at ha; exact kt hc a ha ls H locs hl hw
  · rw [if_neg hc] at ha; exact kf hc a ha ls H locs hl hw
theorem s_icmp_eq (F : Fx z cc nL own rt lev g A) {x y : Int32} {off : Int} {B C : Option α} (tgt : Nat) (d : decode cc pc = .ok (.if_icmp .eq off, 3)) (ht : (pc : Int) + off = (tgt : Int)) (kt : x = y → Snd z nL g A Qf tgt lv st h B) (kf : ¬ x = y → Snd z nL g A Qf (pc + 3) lv st h C) : Snd z nL g A Qf pc lv (.int y :: .int x :: st) h (if x = y then B else C) := by
  intro a ha ls H locs hl hw
  refine lv_icmp_eq F.1 F.2.1 d ht (fun hc => ?_) (fun hc => ?_)
  · rw [if_pos hc] at ha; exact kt hc a ha ls H locs hl hw
  · rw [if_neg hc] at ha; exact kf hc a ha ls H locs hl hw
theorem s_if_ne (F : Fx z cc nL own rt lev g A) {x : Int32} {off : Int} {B C : Option α} (tgt : Nat) (d : decode cc pc = .ok (.ifCond .ne off, 3)) (ht : (pc : Int) + off = (tgt : Int)) (kt : ¬ x = 0 → Snd z nL g A Qf tgt lv st h C) (kf : x = 0 → Snd z nL g A Qf (pc + 3) lv st h B) : Snd z nL g A Qf pc lv (.int x :: st) h (if x = 0 then B else C) := by
  intro a ha ls H locs hl hw
  refine lv_if_ne F.1 F.2.1 d ht (fun hc => ?_) (fun hc => ?_)
  · rw [if_neg hc] at ha; exact kt hc a ha ls H locs hl hw
  · rw [if_pos hc] at ha; exact kf hc a ha ls H locs hl hw
theorem s_icmp_ne (F : Fx z cc nL own rt lev g A) {x y : Int32} {off : Int} {B C : Option α} (tgt : Nat) (d : decode cc pc = .ok (.if_icmp .ne off, 3)) (ht : (pc : Int) + off = (tgt : Int)) (kt : ¬ x = y → Snd z nL g A Qf tgt lv st h C) (kf : x = y → Snd z nL g A Qf (pc + 3) lv st h B) : Snd z nL g A Qf pc lv (.int y :: .int x :: st) h (if x = y then B else C) := by
  intro a ha ls H locs hl hw
  refine lv_icmp_ne F.1 F.2.1 d ht (fun hc => ?_) (fun hc => ?_)
  · rw [if_neg hc] at ha; exact kt hc a ha ls H locs hl hw
  · rw [if_pos hc] at ha; exact kf hc a ha ls H locs hl hw
theorem s_if_lt (F : Fx z cc nL own rt lev g A) {x : Int32} {off : Int} {B C : Option α} (tgt : Nat) (d : decode cc pc = .ok (.ifCond .lt off, 3)) (ht : (pc : Int) + off = (tgt : Int)) (kt : x < 0 → Snd z nL g A Qf tgt lv st h B) (kf : ¬ x < 0 → Snd z nL g A Qf (pc + 3) lv st h C) : Snd z nL g A Qf pc lv (.int x :: st) h (if x < 0 then B else C) := by
  intro a ha ls H locs hl hw
  refine lv_if_lt F.1 F.2.1 d ht (fun hc => ?_) (fun hc => ?_)
  · rw [if_pos hc] at ha; exact kt hc a ha ls H locs hl hw
  · rw [if_neg hc] at ha; exact kf hc a ha ls H locs hl hw
theorem s_icmp_lt (F : Fx z cc nL own rt lev g A) {x y : Int32} {off : Int} {B C : Option α} (tgt : Nat) (d : decode cc pc = .ok (.if_icmp .lt off, 3)) (ht : (pc : Int) + off = (tgt : Int)) (kt : x < y → Snd z nL g A Qf tgt lv st h B) (kf : ¬ x < y → Snd z nL g A Qf (pc + 3) lv st h C) : Snd z nL g A Qf pc lv (.int y :: .int x :: st) h (if x < y then B else C) := by
  intro a ha ls H locs hl hw
  refine lv_icmp_lt F.1 F.2.1 d ht (fun hc => ?_) (fun hc => ?_)
  · rw [if_pos hc] at ha; exact kt hc a ha ls H locs hl hw
  · rw [if_neg hc] at ha; exact kf hc a ha ls H locs hl hw
theorem s_if_ge (F : Fx z cc nL own rt lev g A) {x : Int32} {off : Int} {B C : Option α} (tgt : Nat) (d : decode cc pc = .ok (.ifCond .ge off, 3)) (ht : (pc : Int) + off = (tgt : Int)) (kt : 0 ≤ x → Snd z nL g A Qf tgt lv st h B) (kf : ¬ 0 ≤ x → Snd z nL g A Qf (pc + 3) lv st h C) : Snd z nL g A Qf pc lv (.int x :: st) h (if 0 ≤ x then B else C) := by
  intro a ha ls H locs hl hw
  refine lv_if_ge F.1 F.2.1 d ht (fun hc => ?_) (fun hc => ?_)
  · rw [if_pos hc] at ha; exact kt hc a ha ls H locs hl hw
  · rw [if_neg hc] at ha; exact kf hc a ha ls H locs hl hw
theorem s_icmp_ge (F : Fx z cc nL own rt lev g A) {x y : Int32} {off : Int} {B C : Option α} (tgt : Nat) (d : decode cc pc = .ok (.if_icmp .ge off, 3)) (ht : (pc : Int) + off = (tgt : Int)) (kt : y ≤ x → Snd z nL g A Qf tgt lv st h B) (kf : ¬ y ≤ x → Snd z nL g A Qf (pc + 3) lv st h C) : Snd z nL g A Qf pc lv (.int y :: .int x :: st) h (if y ≤ x then B else C) := by
  intro a ha ls H locs hl hw
  refine lv_icmp_ge F.1 F.2.1 d ht (fun hc => ?_) (fun hc => ?_)
  · rw [if_pos hc] at ha; exact kt hc a ha ls H locs hl hw
  · rw [if_neg hc] at ha; exact kf hc a ha ls H locs hl hw
theorem s_if_gt (F : Fx z cc nL own rt lev g A) {x : Int32} {off : Int} {B C : Option α} (tgt : Nat) (d : decode cc pc = .ok (.ifCond .gt off, 3)) (ht : (pc : Int) + off = (tgt : Int)) (kt : 0 < x → Snd z nL g A Qf tgt lv st h B) (kf : ¬ 0 < x → Snd z nL g A Qf (pc + 3) lv st h C) : Snd z nL g A Qf pc lv (.int x :: st) h (if 0 < x then B else C) := by
  intro a ha ls H locs hl hw
  refine lv_if_gt F.1 F.2.1 d ht (fun hc => ?_) (fun hc => ?_)
  · rw [if_pos hc] at ha; exact kt hc a ha ls H locs hl hw
  · rw [if_neg hc] at ha; exact kf hc a ha ls H locs hl hw
theorem s_icmp_gt (F : Fx z cc nL own rt lev g A) {x y : Int32} {off : Int} {B C : Option α} (tgt : Nat) (d : decode cc pc = .ok (.if_icmp .gt off, 3)) (ht : (pc : Int) + off = (tgt : Int)) (kt : y < x → Snd z nL g A Qf tgt lv st h B) (kf : ¬ y < x → Snd z nL g A Qf (pc + 3) lv st h C) : Snd z nL g A Qf pc lv (.int y :: .int x :: st) h (if y < x then B else C) := by
  intro a ha ls H locs hl hw
  refine lv_icmp_gt F.1 F.2.1 d ht (fun hc => ?_) (fun hc => ?_)
  · rw [if_pos hc] at ha; exact kt hc a ha ls H locs hl hw
  · rw [if_neg hc] at ha; exact kf hc a ha ls H locs hl hw
theorem s_if_le (F : Fx z cc nL own rt lev g A) {x : Int32} {off : Int} {B C : Option α} (tgt : Nat) (d : decode cc pc = .ok (.ifCond .le off, 3)) (ht : (pc : Int) + off = (tgt : Int)) (kt : x ≤ 0 → Snd z nL g A Qf tgt lv st h B) (kf : ¬ x ≤ 0 → Snd z nL g A Qf (pc + 3) lv st h C) : Snd z nL g A Qf pc lv (.int x :: st) h (if x ≤ 0 then B else C) := by
  intro a ha ls H locs hl hw
  refine lv_if_le F.1 F.2.1 d ht (fun hc => ?_) (fun hc => ?_)
  · rw [if_pos hc] at ha; exact kt hc a ha ls H locs hl hw
  · rw [if_neg hc] at ha; exact kf hc a ha ls H locs hl hw
theorem s_icmp_le (F : Fx z cc nL own rt lev g A) {x y : Int32} {off : Int} {B C : Option α} (tgt : Nat) (d : decode cc pc = .ok (.if_icmp .le off, 3)) (ht : (pc : Int) + off = (tgt : Int)) (kt : x ≤ y → Snd z nL g A Qf tgt lv st h B) (kf : ¬ x ≤ y → Snd z nL g A Qf (pc + 3) lv st h C) : Snd z nL g A Qf pc lv (.int y :: .int x :: st) h (if x ≤ y then B else C) := by
  intro a ha ls H locs hl hw
  refine lv_icmp_le F.1 F.2.1 d ht (fun hc => ?_) (fun hc => ?_)
  · rw [if_pos hc] at ha; exact kt hc a ha ls H locs hl hw
  · rw [if_neg hc] at ha; exact kf hc a ha ls H locs hl hw
theorem s_tabOut (F : Fx z cc nL own rt lev g A) {dflt lo hi : Int} {offs : Array Int} {len : Nat} {x : Int32} {B : Option α} (tgt : Nat) (d : decode cc pc = .ok (.tableswitch dflt lo hi offs, len)) (ht : (pc : Int) + dflt = (tgt : Int)) (hh : x.toInt < lo ∨ hi < x.toInt) (k : Snd z nL g A Qf tgt lv st h B) : Snd z nL g A Qf pc lv (.int x :: st) h B := fun a ha ls H locs hl hw => lv_tableOut F.1 F.2.1 d hh ht (k a ha ls H locs hl hw)
theorem s_tabIn (F : Fx z cc nL own rt lev g A) {dflt lo hi : Int} {offs : Array Int} {len : Nat} {x : Int32} {off : Int} {B : Option α} (tgt : Nat) (d : decode cc pc = .ok (.tableswitch dflt lo hi offs, len)) (h1 : ¬ x.toInt < lo) (h2 : ¬ hi < x.toInt) (ho : offs[(x.toInt - lo).toNat]? = some off) (ht : (pc : Int) + off = (tgt : Int)) (k : Snd z nL g A Qf tgt lv st h B) : Snd z nL g A Qf pc lv (.int x :: st) h B := fun a ha ls H locs hl hw => lv_tableIn F.1 F.2.1 d h1 h2 ho ht (k a ha ls H locs hl hw)
/-- a case of a switch, by the number's value -/
theorem s_case {x : Int32} (v : Int32) {B C : Option α} (kt : Snd z nL g A Qf pc lv (.int v :: st) h B) (kf : ¬ x = v → Snd z nL g A Qf pc lv (.int x :: st) h C) : Snd z nL g A Qf pc lv (.int x :: st) h (if x = v then B else C) := by
  by_cases hx : x = v
  · rw [if_pos hx, hx]; exact kt
  · rw [if_neg hx]; exact kf hx
theorem s_out {x : Int32} (lo hi : Int) (n : Nat) (h1 : (-1000 : Int) ≤ lo) (h2 : hi ≤ 1000) (hn : lo + n = hi + 1) (hh : ∀ j : Nat, j < n → ¬ x = Int32.ofInt (lo + j)) : x.toInt < lo ∨ hi < x.toInt := by
  rcases Int.lt_or_le x.toInt lo with q | q
  · exact Or.inl q
  · rcases Int.lt_or_le hi x.toInt with w | w
    · exact Or.inr w
    · exfalso
      refine hh (x.toInt - lo).toNat (by omega) ?_
      have e : lo + ((x.toInt - lo).toNat : Int) = x.toInt := by omega
      rw [e, Int32.ofInt_toInt]
end MS
/-! ===== fields, rows, answers, calls ===== -/
theorem wf_ref {La : List Sh} (w : wfL La) {r c : Nat} (h : La[r]? = some (.inl c)) (k d : Nat) (sh : Sh) (hk : (cfl c)[k]? = some (some (d, sh))) : La[r + d]? = some sh := w r c h k d sh hk
theorem ad_lt {g : GC} {A : Nat → Prop} (hA : ∀ r, r < (gL g).length → A (gad g r)) {r : Nat} {sh : Sh} (h : (gL g)[r]? = some sh) : A (gad g r) := hA r (List.getElem?_eq_some_iff.mp h).1
/-- what the tables say of a class of ours, by its number -/
def CI (ci : Nat) (C : String) (T : u_T) (N : Nat) (ty : Nat → FieldType) : Prop := vwCl[ci]? = some (C, T, N) ∧ (∀ w ∈ u_ws C T N, w ∈ WL) ∧ (∀ k, k < N → parseFieldDescriptor (T k).2.2.1 = some (ty k)) ∧ (∀ a, a < N → ∀ b, b < N → a ≠ b → (T a).2.1 ≠ (T b).2.1)
section MH
variable {z : MC} {cc : ByteArray} {nL : Nat} {own : String} {rt : Option FieldType} {lev : Nat} {g : GC} {A : Nat → Prop} {α : Type} {Qf : α → State → Prop} {pc : Nat} {lv : List (Nat × Value)} {st : List Value} {h : AH} {res : Option α}
variable {ci : Nat} {C : String} {T : u_T} {N : Nat} {ty : Nat → FieldType}
theorem s_get (F : Fx z cc nL own rt lev g A) (I : CI ci C T N ty) {r index k : Nat} {o : Option (Nat × Sh)} (ho : (gL g)[r]? = some (.inl ci)) (hk : k < N) (hf : (cfl ci)[k]? = some o) (hC : (T k).1 = C) (hl : Cond.fieldLink own index C (T k).2.1 (T k).2.2.1 ∈ WL) (d : decode cc pc = .ok (.getfield index, 3))
    (kk : Snd z nL g A Qf (pc + 3) lv (fldOf (gad g) h r k o :: st) h res) : Snd z nL g A Qf pc lv (.ref (gad g r) :: st) h res := by
  intro a ha ls H locs hlv hw
  obtain ⟨hx, hb, hml, hown, hts, hK, -⟩ := id F
  exact va_get (D := gD g) (ci := ci) (v := fldOf (gad g) h r k o) (C := C) (T := T) (N := N) hx hb hts I.2.1 hown hK hw.1 r (conc_get ho) I.1 k hk (hts _ hl) (fun x hx9 => by rw [← hC]; exact hx9) (by simp only [List.getElem?_mapIdx, hf, Option.map_some]) d (kk a ha ls H locs hlv hw)
theorem s_getN (F : Fx z cc nL own rt lev g A) (I : CI ci C T N ty) {r index k : Nat} {o : Option (Nat × Sh)} (ho : (gL g)[r]? = some (.inl ci)) (hk : k < N) (hf : (cfl ci)[k]? = some o) (hC : (T k).1 = C) (hl : (own, index, C, (T k).2.1, (T k).2.2.1) ∈ nestF) (d : decode cc pc = .ok (.getfield index, 3))
    (kk : Snd z nL g A Qf (pc + 3) lv (fldOf (gad g) h r k o :: st) h res) : Snd z nL g A Qf pc lv (.ref (gad g r) :: st) h res := by
  intro a ha ls H locs hlv hw
  obtain ⟨hx, hb, hml, hown, hts, hK, -, hE, -⟩ := id F
  exact va_getN (D := gD g) (ci := ci) (v := fldOf (gad g) h r k o) (C := C) (T := T) (N := N) (ref := C) (host := "ArchTrades") hx hb hts I.2.1 hown hK hw.1 r (conc_get ho) I.1 k hk (va_Nw.use rfl (hE.2.1 _ hl)) (fun x hx9 => by rw [← hC]; exact hx9) (by simp only [List.getElem?_mapIdx, hf, Option.map_some]) d (kk a ha ls H locs hlv hw)
theorem s_put (F : Fx z cc nL own rt lev g A) (I : CI ci C T N ty) {r index k : Nat} {v : Int32} (ho : (gL g)[r]? = some (.inl ci)) (hk : k < N) (hf : (cfl ci)[k]? = some none) (hC : (T k).1 = C) (hfin : (T k).2.2.2 = false) (hty : ty k = .int) (hl : Cond.fieldLink own index C (T k).2.1 (T k).2.2.1 ∈ WL) (d : decode cc pc = .ok (.putfield index, 3))
    (kk : Snd z nL g A Qf (pc + 3) lv st (hset h r k v) res) : Snd z nL g A Qf pc lv (.int v :: .ref (gad g r) :: st) h res := by
  intro a ha ls H locs hlv hw
  obtain ⟨hx, hb, hml, hown, hts, hK, -⟩ := id F
  obtain ⟨hP, hD, hS⟩ := hw
  have hd := I.2.2.1 k hk
  rw [hty] at hd
  refine va_put (D := gD g) (ci := ci) (v := .int v) (ty := .int) (C := C) (T := T) (N := N) hx hb hts I.2.1 ty I.2.2.1 I.2.2.2 hown hK hP hD hS r (conc_get ho) I.1 k hk (hts _ hl) (fun x hx9 => by rw [← hC]; exact hx9) hfin hd rfl rfl (by have := (List.getElem?_eq_some_iff.mp hf).1; simpa using this) d (fun H1 locs1 hP1 hD1 hS1 => ?_)
  have e : (gW g h).set r (gad g r, .inr (ci, ((cfl ci).mapIdx (fun k o => fldOf (gad g) h r k o)).set k (.int v))) = gW g (hset h r k v) := conc_setO ho hf
  rw [e] at hP1 hD1
  exact kk a ha ls H1 locs1 hlv ⟨hP1, hD1, hS1⟩
theorem s_putN (F : Fx z cc nL own rt lev g A) (I : CI ci C T N ty) {r index k : Nat} {v : Int32} (ho : (gL g)[r]? = some (.inl ci)) (hk : k < N) (hf : (cfl ci)[k]? = some none) (hC : (T k).1 = C) (hfin : (T k).2.2.2 = false) (hty : ty k = .int) (hl : (own, index, C, (T k).2.1, (T k).2.2.1) ∈ nestF) (d : decode cc pc = .ok (.putfield index, 3))
    (kk : Snd z nL g A Qf (pc + 3) lv st (hset h r k v) res) : Snd z nL g A Qf pc lv (.int v :: .ref (gad g r) :: st) h res := by
  intro a ha ls H locs hlv hw
  obtain ⟨hx, hb, hml, hown, hts, hK, -, hE, -⟩ := id F
  obtain ⟨hP, hD, hS⟩ := hw
  have hd := I.2.2.1 k hk
  rw [hty] at hd
  refine va_putN (D := gD g) (ci := ci) (v := .int v) (ty := .int) (C := C) (T := T) (N := N) (ref := C) (host := "ArchTrades") hx hb hts I.2.1 ty I.2.2.1 I.2.2.2 hown hK hP hD hS r (conc_get ho) I.1 k hk (va_Nw.use rfl (hE.2.1 _ hl)) (fun x hx9 => by rw [← hC]; exact hx9) hfin hd rfl rfl (by have := (List.getElem?_eq_some_iff.mp hf).1; simpa using this) d (fun H1 locs1 hP1 hD1 hS1 => ?_)
  have e : (gW g h).set r (gad g r, .inr (ci, ((cfl ci).mapIdx (fun k o => fldOf (gad g) h r k o)).set k (.int v))) = gW g (hset h r k v) := conc_setO ho hf
  rw [e] at hP1 hD1
  exact kk a ha ls H1 locs1 hlv ⟨hP1, hD1, hS1⟩
theorem nz01 {v : Int32} (hv : v = 0 ∨ v = 1) : narrow .boolean (.int v) = .int v ∧ fits .boolean (.int v) = true := by
  rcases hv with rfl | rfl
  · exact ⟨rfl, rfl⟩
  · exact ⟨rfl, rfl⟩
/-- a field of truth values -/
theorem s_putZ (F : Fx z cc nL own rt lev g A) (I : CI ci C T N ty) {r index k : Nat} {v : Int32} (ho : (gL g)[r]? = some (.inl ci)) (hk : k < N) (hf : (cfl ci)[k]? = some none) (hC : (T k).1 = C) (hfin : (T k).2.2.2 = false) (hty : ty k = .boolean) (hl : Cond.fieldLink own index C (T k).2.1 (T k).2.2.1 ∈ WL) (d : decode cc pc = .ok (.putfield index, 3))
    (kk : Snd z nL g A Qf (pc + 3) lv st (hset h r k v) res) : Snd z nL g A Qf pc lv (.int v :: .ref (gad g r) :: st) h (gz v res) := by
  intro a ha ls H locs hlv hw
  unfold gz at ha
  split at ha
  case isFalse => cases ha
  case isTrue hv =>
  obtain ⟨hx, hb, hml, hown, hts, hK, -⟩ := id F
  obtain ⟨hP, hD, hS⟩ := hw
  have hd := I.2.2.1 k hk
  rw [hty] at hd
  refine va_put (D := gD g) (ci := ci) (v := .int v) (ty := .boolean) (C := C) (T := T) (N := N) hx hb hts I.2.1 ty I.2.2.1 I.2.2.2 hown hK hP hD hS r (conc_get ho) I.1 k hk (hts _ hl) (fun x hx9 => by rw [← hC]; exact hx9) hfin hd (nz01 hv).1 (nz01 hv).2 (by have := (List.getElem?_eq_some_iff.mp hf).1; simpa using this) d (fun H1 locs1 hP1 hD1 hS1 => ?_)
  have e : (gW g h).set r (gad g r, .inr (ci, ((cfl ci).mapIdx (fun k o => fldOf (gad g) h r k o)).set k (.int v))) = gW g (hset h r k v) := conc_setO ho hf
  rw [e] at hP1 hD1
  exact kk a ha ls H1 locs1 hlv ⟨hP1, hD1, hS1⟩
theorem s_putZN (F : Fx z cc nL own rt lev g A) (I : CI ci C T N ty) {r index k : Nat} {v : Int32} (ho : (gL g)[r]? = some (.inl ci)) (hk : k < N) (hf : (cfl ci)[k]? = some none) (hC : (T k).1 = C) (hfin : (T k).2.2.2 = false) (hty : ty k = .boolean) (hl : (own, index, C, (T k).2.1, (T k).2.2.1) ∈ nestF) (d : decode cc pc = .ok (.putfield index, 3))
    (kk : Snd z nL g A Qf (pc + 3) lv st (hset h r k v) res) : Snd z nL g A Qf pc lv (.int v :: .ref (gad g r) :: st) h (gz v res) := by
  intro a ha ls H locs hlv hw
  unfold gz at ha
  split at ha
  case isFalse => cases ha
  case isTrue hv =>
  obtain ⟨hx, hb, hml, hown, hts, hK, -, hE, -⟩ := id F
  obtain ⟨hP, hD, hS⟩ := hw
  have hd := I.2.2.1 k hk
  rw [hty] at hd
  refine va_putN (D := gD g) (ci := ci) (v := .int v) (ty := .boolean) (C := C) (T := T) (N := N) (ref := C) (host := "ArchTrades") hx hb hts I.2.1 ty I.2.2.1 I.2.2.2 hown hK hP hD hS r (conc_get ho) I.1 k hk (va_Nw.use rfl (hE.2.1 _ hl)) (fun x hx9 => by rw [← hC]; exact hx9) hfin hd (nz01 hv).1 (nz01 hv).2 (by have := (List.getElem?_eq_some_iff.mp hf).1; simpa using this) d (fun H1 locs1 hP1 hD1 hS1 => ?_)
  have e : (gW g h).set r (gad g r, .inr (ci, ((cfl ci).mapIdx (fun k o => fldOf (gad g) h r k o)).set k (.int v))) = gW g (hset h r k v) := conc_setO ho hf
  rw [e] at hP1 hD1
  exact kk a ha ls H1 locs1 hlv ⟨hP1, hD1, hS1⟩
theorem ck_in {i : Int32} {n : Nat} {K : Option α} {a : α} (hh : ck i n K = some a) : vp_in i n ∧ K = some a := by
  unfold ck at hh
  split at hh
  · cases hh
  · next hx => exact ⟨hx, hh⟩
theorem s_iald (F : Fx z cc nL own rt lev g A) {r n : Nat} {i : Int32} (ho : (gL g)[r]? = some (.inr (0, n))) (d : decode cc pc = .ok (.iaload, 1))
    (kk : Snd z nL g A Qf (pc + 1) lv (.int (h r i.toNatClampNeg) :: st) h res) : Snd z nL g A Qf pc lv (.int i :: .ref (gad g r) :: st) h (ck i n res) := by
  intro a ha ls H locs hlv hw
  obtain ⟨hin, ha⟩ := ck_in ha
  exact va_iald F.1 F.2.1 F.2.2.2.2.2.1 hw.1 r 0 (conc_get ho) rfl hin d (kk a ha ls H locs hlv hw)
theorem s_bald (F : Fx z cc nL own rt lev g A) {r n : Nat} {i : Int32} (ho : (gL g)[r]? = some (.inr (1, n))) (d : decode cc pc = .ok (.baload, 1))
    (kk : Snd z nL g A Qf (pc + 1) lv (.int (h r i.toNatClampNeg) :: st) h res) : Snd z nL g A Qf pc lv (.int i :: .ref (gad g r) :: st) h (ck i n res) := by
  intro a ha ls H locs hlv hw
  obtain ⟨hin, ha⟩ := ck_in ha
  exact va_bald F.1 F.2.1 F.2.2.2.2.2.1 hw.1 r 1 (conc_get ho) rfl hin d (kk a ha ls H locs hlv hw)
theorem s_zald (F : Fx z cc nL own rt lev g A) {r n : Nat} {i : Int32} (ho : (gL g)[r]? = some (.inr (2, n))) (d : decode cc pc = .ok (.baload, 1))
    (kk : Snd z nL g A Qf (pc + 1) lv (.int (h r i.toNatClampNeg) :: st) h res) : Snd z nL g A Qf pc lv (.int i :: .ref (gad g r) :: st) h (ck i n res) := by
  intro a ha ls H locs hlv hw
  obtain ⟨hin, ha⟩ := ck_in ha
  exact va_zald F.1 F.2.1 F.2.2.2.2.2.1 hw.1 r 2 (conc_get ho) rfl hin d (kk a ha ls H locs hlv hw)
theorem s_iast (F : Fx z cc nL own rt lev g A) {r n : Nat} {i v : Int32} (ho : (gL g)[r]? = some (.inr (0, n))) (d : decode cc pc = .ok (.iastore, 1))
    (kk : Snd z nL g A Qf (pc + 1) lv st (hset h r i.toNatClampNeg v) res) : Snd z nL g A Qf pc lv (.int v :: .int i :: .ref (gad g r) :: st) h (ck i n res) := by
  intro a ha ls H locs hlv hw
  obtain ⟨hin, ha⟩ := ck_in ha
  obtain ⟨hP, hD, hS⟩ := hw
  refine va_iast F.1 F.2.1 F.2.2.2.2.2.1 hP hD hS r 0 (conc_get ho) rfl hin d (fun H1 locs1 hP1 hD1 hS1 => ?_)
  have e : (gW g h).set r (gad g r, .inl (gtc g 0, n, .inl (upd (h r) i.toNatClampNeg v))) = gW g (hset h r i.toNatClampNeg v) := conc_setA ho
  rw [e] at hP1 hD1
  exact kk a ha ls H1 locs1 hlv ⟨hP1, hD1, hS1⟩
theorem s_bast (F : Fx z cc nL own rt lev g A) {r n : Nat} {i v : Int32} (ho : (gL g)[r]? = some (.inr (1, n))) (d : decode cc pc = .ok (.bastore, 1))
    (kk : Snd z nL g A Qf (pc + 1) lv st (hset h r i.toNatClampNeg (vp_nar .byte v)) res) : Snd z nL g A Qf pc lv (.int v :: .int i :: .ref (gad g r) :: st) h (ck i n res) := by
  intro a ha ls H locs hlv hw
  obtain ⟨hin, ha⟩ := ck_in ha
  obtain ⟨hP, hD, hS⟩ := hw
  refine va_bast F.1 F.2.1 F.2.2.2.2.2.1 hP hD hS r 1 (conc_get ho) rfl hin d (fun H1 locs1 hP1 hD1 hS1 => ?_)
  have e : (gW g h).set r (gad g r, .inl (gtc g 1, n, .inl (upd (h r) i.toNatClampNeg (vp_nar .byte v)))) = gW g (hset h r i.toNatClampNeg (vp_nar .byte v)) := conc_setA ho
  rw [e] at hP1 hD1
  exact kk a ha ls H1 locs1 hlv ⟨hP1, hD1, hS1⟩
theorem s_zast (F : Fx z cc nL own rt lev g A) {r n : Nat} {i v : Int32} (ho : (gL g)[r]? = some (.inr (2, n))) (d : decode cc pc = .ok (.bastore, 1))
    (kk : Snd z nL g A Qf (pc + 1) lv st (hset h r i.toNatClampNeg (vp_nar .boolean v)) res) : Snd z nL g A Qf pc lv (.int v :: .int i :: .ref (gad g r) :: st) h (ck i n res) := by
  intro a ha ls H locs hlv hw
  obtain ⟨hin, ha⟩ := ck_in ha
  obtain ⟨hP, hD, hS⟩ := hw
  refine va_zast F.1 F.2.1 F.2.2.2.2.2.1 hP hD hS r 2 (conc_get ho) rfl hin d (fun H1 locs1 hP1 hD1 hS1 => ?_)
  have e : (gW g h).set r (gad g r, .inl (gtc g 2, n, .inl (upd (h r) i.toNatClampNeg (vp_nar .boolean v)))) = gW g (hset h r i.toNatClampNeg (vp_nar .boolean v)) := conc_setA ho
  rw [e] at hP1 hD1
  exact kk a ha ls H1 locs1 hlv ⟨hP1, hD1, hS1⟩
theorem s_alen (F : Fx z cc nL own rt lev g A) {r n : Nat} {v : Int32} (ho : (gL g)[r]? = some (.inr (0, n))) (hv : Int32.ofNat n = v) (d : decode cc pc = .ok (.arraylength, 1))
    (kk : Snd z nL g A Qf (pc + 1) lv (.int v :: st) h res) : Snd z nL g A Qf pc lv (.ref (gad g r) :: st) h res :=
  fun a ha ls H locs hlv hw => va_alen F.1 F.2.1 F.2.2.2.2.2.1 hw.1 r 0 (conc_get ho) rfl hv d (kk a ha ls H locs hlv hw)
/-- a static row, and its places -/
theorem s_gets (F : Fx z cc nL own rt lev g A) {index : Nat} (i : Nat) (hi : i < 4) {ref nm : String} (h1 : (stc i).1 = ref) (h2 : (stc i).2 = nm) (hl : Cond.fieldLink own index ref nm "[I" ∈ WL) (d : decode cc pc = .ok (.getstatic index, 3))
    (kk : Snd z nL g A Qf (pc + 3) lv (.ref (gtA g i) :: st) h res) : Snd z nL g A Qf pc lv st h res := by
  intro a ha ls H locs hlv hw
  obtain ⟨hx, hb, hml, hown, hts, hK, -, hE, -⟩ := id F
  have hZ := (hE.2.2.1 i hi).1
  rw [h1, h2] at hZ
  exact va_gets hx hb hZ hw.2.2 hown (hts _ hl) (fun _ h9 => h9) d (kk a ha ls H locs hlv hw)
theorem s_getsN (F : Fx z cc nL own rt lev g A) {index : Nat} (i : Nat) (hi : i < 4) {ref nm : String} (h1 : (stc i).1 = ref) (h2 : (stc i).2 = nm) (hl : (own, index, ref, nm, "[I") ∈ nestF) (d : decode cc pc = .ok (.getstatic index, 3))
    (kk : Snd z nL g A Qf (pc + 3) lv (.ref (gtA g i) :: st) h res) : Snd z nL g A Qf pc lv st h res := by
  intro a ha ls H locs hlv hw
  obtain ⟨hx, hb, hml, hown, hts, hK, -, hE, -⟩ := id F
  have hZ := (hE.2.2.1 i hi).1
  rw [h1, h2] at hZ
  exact va_getsN hx hb hZ hw.2.2 hown (va_Nw.use rfl (hE.2.1 _ hl)) (fun _ h9 => h9) d (kk a ha ls H locs hlv hw)
theorem s_tld (F : Fx z cc nL own rt lev g A) (j : Nat) (hj : j < 4) {n : Nat} (hn : (stv j).length = n) {i : Int32} (d : decode cc pc = .ok (.iaload, 1))
    (kk : Snd z nL g A Qf (pc + 1) lv (.int ((stv j).getD i.toNatClampNeg 0) :: st) h res) : Snd z nL g A Qf pc lv (.int i :: .ref (gtA g j) :: st) h (ck i n res) := by
  subst hn
  intro a ha ls H locs hlv hw
  obtain ⟨hin, ha⟩ := ck_in ha
  obtain ⟨hx, hb, hml, hown, hts, hK, -, hE, -⟩ := id F
  exact va_ti hx hb (hE.2.2.1 j hj).2 hw.2.2 hin rfl d (kk a ha ls H locs hlv hw)
theorem s_tlen (F : Fx z cc nL own rt lev g A) (j : Nat) (hj : j < 4) {v : Int32} (hv : Int32.ofNat (stv j).length = v) (d : decode cc pc = .ok (.arraylength, 1))
    (kk : Snd z nL g A Qf (pc + 1) lv (.int v :: st) h res) : Snd z nL g A Qf pc lv (.ref (gtA g j) :: st) h res := by
  intro a ha ls H locs hlv hw
  obtain ⟨hx, hb, hml, hown, hts, hK, -, hE, -⟩ := id F
  obtain ⟨cell, h1, h2, h3, h4, h5, h6, h7⟩ := (hE.2.2.1 j hj).2
  exact W.alen (n := v) hx hb (by rw [hw.2.2.2.1 _ (Array.getElem?_eq_some_iff.mp h1).1 h7]; exact h1) h2 (h5.trans hv) rfl rfl d (kk a ha ls H locs hlv hw)
end MH
section MW
variable {z : MC} {cc : ByteArray} {nL : Nat} {own : String} {rt : Option FieldType} {lev : Nat} {g : GC} {A : Nat → Prop} {α : Type} {Qf : α → State → Prop} {pc : Nat} {lv : List (Nat × Value)} {st : List Value} {h : AH} {res : Option α}
variable {ci : Nat} {C : String} {T : u_T} {N : Nat} {ty : Nat → FieldType}
theorem s_leti {v : Int32} {K : Int32 → Option α} (k : ∀ x : Int32, Snd z nL g A Qf pc lv (.int x :: st) h (K x)) : Snd z nL g A Qf pc lv (.int v :: st) h (lt v K) := k v
theorem s_letl {v : Int64} {K : Int64 → Option α} (k : ∀ x : Int64, Snd z nL g A Qf pc lv (.long x :: st) h (K x)) : Snd z nL g A Qf pc lv (.long v :: st) h (lt v K) := k v
theorem s_leti2 {w : Value} {v : Int32} {K : Int32 → Option α} (k : ∀ x : Int32, Snd z nL g A Qf pc lv (w :: .int x :: st) h (K x)) : Snd z nL g A Qf pc lv (w :: .int v :: st) h (lt v K) := k v
theorem s_lv {lv' : List (Nat × Value)} (he : lv = lv') (k : Snd z nL g A Qf pc lv' st h res) : Snd z nL g A Qf pc lv st h res := by rw [he]; exact k
theorem s_iincv (F : Fx z cc nL own rt lev g A) {i : Nat} {n : Int} {x c : Int32} {K : Int32 → Option α} (d : decode cc pc = .ok (.iinc i n, 3)) (j : Nat) (hj : lv[j]? = some (i, .int x)) (hn : i < nL) (hc : Int32.ofInt n = c) (k : ∀ v : Int32, Snd z nL g A Qf (pc + 3) ((i, Value.int v) :: lv.filter (fun q => !(q.1 == i) && !(q.1 + 1 == i && q.2.category == 2))) st h (K v)) : Snd z nL g A Qf pc lv st h (lt (x + c) K) := by
  subst hc
  exact s_iinc F (v := x + Int32.ofInt n) d j hj rfl hn rfl (k _)
theorem s_ldcS (F : Fx z cc nL own rt lev g A) (i : Nat) (hi : i < 8) {index : Nat} (hx2 : (ksi i).1 = index) (ho : RX4 = own) (d : decode cc pc = .ok (.ldc index, 2)) (kk : Snd z nL g A Qf (pc + 2) lv (.ref (gK g i) :: st) h res) : Snd z nL g A Qf pc lv st h res := by
  subst ho
  subst hx2
  intro a ha ls H locs hlv hw
  obtain ⟨hx, hb, hml, hown, hts, hK, -, hE, -⟩ := id F
  exact va_ldcS hx hb hown (hE.2.2.2.2.1 i hi) d (kk a ha ls H locs hlv hw)
theorem s_geti (F : Fx z cc nL own rt lev g A) (I : CI ci C T N ty) {r index : Nat} (k : Nat) (ho : (gL g)[r]? = some (.inl ci)) (hk : k < N) (hf : (cfl ci)[k]? = some none) (hC : (T k).1 = C) (hl : Cond.fieldLink own index C (T k).2.1 (T k).2.2.1 ∈ WL) (d : decode cc pc = .ok (.getfield index, 3))
    (kk : Snd z nL g A Qf (pc + 3) lv (.int (h r k) :: st) h res) : Snd z nL g A Qf pc lv (.ref (gad g r) :: st) h res := s_get F I (o := none) ho hk hf hC hl d kk
theorem s_getr (F : Fx z cc nL own rt lev g A) (I : CI ci C T N ty) {r index : Nat} (k : Nat) (dl : Nat) (sh : Sh) (ho : (gL g)[r]? = some (.inl ci)) (hk : k < N) (hf : (cfl ci)[k]? = some (some (dl, sh))) (hC : (T k).1 = C) (hl : Cond.fieldLink own index C (T k).2.1 (T k).2.2.1 ∈ WL) (d : decode cc pc = .ok (.getfield index, 3))
    (kk : Snd z nL g A Qf (pc + 3) lv (.ref (gad g (r + dl)) :: st) h res) : Snd z nL g A Qf pc lv (.ref (gad g r) :: st) h res := s_get F I (o := some (dl, sh)) ho hk hf hC hl d kk
theorem s_getiN (F : Fx z cc nL own rt lev g A) (I : CI ci C T N ty) {r index : Nat} (k : Nat) (ho : (gL g)[r]? = some (.inl ci)) (hk : k < N) (hf : (cfl ci)[k]? = some none) (hC : (T k).1 = C) (hl : (own, index, C, (T k).2.1, (T k).2.2.1) ∈ nestF) (d : decode cc pc = .ok (.getfield index, 3))
    (kk : Snd z nL g A Qf (pc + 3) lv (.int (h r k) :: st) h res) : Snd z nL g A Qf pc lv (.ref (gad g r) :: st) h res := s_getN F I (o := none) ho hk hf hC hl d kk
theorem s_getrN (F : Fx z cc nL own rt lev g A) (I : CI ci C T N ty) {r index : Nat} (k : Nat) (dl : Nat) (sh : Sh) (ho : (gL g)[r]? = some (.inl ci)) (hk : k < N) (hf : (cfl ci)[k]? = some (some (dl, sh))) (hC : (T k).1 = C) (hl : (own, index, C, (T k).2.1, (T k).2.2.1) ∈ nestF) (d : decode cc pc = .ok (.getfield index, 3))
    (kk : Snd z nL g A Qf (pc + 3) lv (.ref (gad g (r + dl)) :: st) h res) : Snd z nL g A Qf pc lv (.ref (gad g r) :: st) h res := s_getN F I (o := some (dl, sh)) ho hk hf hC hl d kk
end MW
section MR
variable {z : MC} {cc : ByteArray} {nL : Nat} {own : String} {rt : Option FieldType} {lev : Nat} {g : GC} {A : Nat → Prop} {pc : Nat} {lv : List (Nat × Value)} {h : AH}
theorem s_iret (F : Fx z cc nL own (some .int) lev g A) {v : Int32} (d : decode cc pc = .ok (.ireturn, 1)) : Snd z nL g A (QF z g A mkI) pc lv [.int v] h (some (v, h)) := by
  intro a ha ls H locs hlv hw
  cases ha
  obtain ⟨hP, hD, hS⟩ := hw
  obtain ⟨hx, hb, -, -, -, -, -, -, -, hr, hlk, -⟩ := id F
  exact W.iret hx hb hr (fun t ht _ => ⟨⟨rfl, by rw [ht]; exact hP, hD⟩, hS.F ht⟩) hS.2.2 d (hlocks := hlk)
theorem s_zret (F : Fx z cc nL own (some .boolean) lev g A) {v : Int32} (d : decode cc pc = .ok (.ireturn, 1)) : Snd z nL g A (QF z g A mkI) pc lv [.int v] h (gz v (some (v, h))) := by
  intro a ha ls H locs hlv hw
  unfold gz at ha
  split at ha
  case isFalse => cases ha
  case isTrue hv =>
  cases ha
  obtain ⟨hP, hD, hS⟩ := hw
  obtain ⟨hx, hb, -, -, -, -, -, -, -, hr, hlk, -⟩ := id F
  exact W.zret hx hb hr (nz01 hv).1 (fun t ht _ => ⟨⟨rfl, by rw [ht]; exact hP, hD⟩, hS.F ht⟩) hS.2.2 d (hlocks := hlk)
theorem s_zret1 (F : Fx z cc nL own (some .boolean) lev g A) {v : Int32} (hv : v = 0 ∨ v = 1) (d : decode cc pc = .ok (.ireturn, 1)) : Snd z nL g A (QF z g A mkI) pc lv [.int v] h (some (v, h)) := by
  have k := s_zret (z := z) (g := g) (lv := lv) (h := h) (v := v) F d
  unfold gz at k
  rwa [if_pos hv] at k
theorem s_lret (F : Fx z cc nL own (some .long) lev g A) {v : Int64} (d : decode cc pc = .ok (.lreturn, 1)) : Snd z nL g A (QF z g A mkL) pc lv [.long v] h (some (v, h)) := by
  intro a ha ls H locs hlv hw
  cases ha
  obtain ⟨hP, hD, hS⟩ := hw
  obtain ⟨hx, hb, -, -, -, -, -, -, -, hr, hlk, -⟩ := id F
  exact W.lret hx hb hr (fun t ht _ => ⟨⟨rfl, by rw [ht]; exact hP, hD⟩, hS.F ht⟩) hS.2.2 d (hlocks := hlk)
theorem s_vret (F : Fx z cc nL own none lev g A) (d : decode cc pc = .ok (.return_, 1)) : Snd z nL g A (QF z g A mkU) pc lv [] h (some ((), h)) := by
  intro a ha ls H locs hlv hw
  cases ha
  obtain ⟨hP, hD, hS⟩ := hw
  obtain ⟨hx, hb, -, -, -, -, -, -, -, hr, hlk, -⟩ := id F
  exact W.vret hx hb hr (fun t ht _ => ⟨⟨rfl, by rw [ht]; exact hP, hD⟩, hS.F ht⟩) hS.2.2 d (hlocks := hlk)
theorem s_aret {cn : String} (F : Fx z cc nL own (some (.object cn)) lev g A) {r : Nat} (d : decode cc pc = .ok (.areturn, 1)) : Snd z nL g A (QF z g A (mkR g)) pc lv [.ref (gad g r)] h (some (r, h)) := by
  intro a ha ls H locs hlv hw
  cases ha
  obtain ⟨hP, hD, hS⟩ := hw
  obtain ⟨hx, hb, -, -, -, -, -, -, -, hr, hlk, -⟩ := id F
  exact W.aret hx hb hr (Or.inl ⟨_, rfl⟩) (Or.inr ⟨_, rfl⟩) (fun t ht _ => ⟨⟨rfl, by rw [ht]; exact hP, hD⟩, hS.F ht⟩) hS.2.2 d (hlocks := hlk)
end MR
/-- more turns than any loop takes -/
def fu : Nat := 100000
/-! ===== contracts: a method and its partial function; calls ===== -/
def Ct (l : Launch) (y : MethodName) (cd : ByteArray) (mL : Nat) (rt : Option FieldType) (lev : Nat) (av : List Value) (g : GC) {ρ : Type} (mk : ρ → Option Value) (f : AH → Option (ρ × AH)) : Prop :=
  ∀ (h : AH) (a : ρ × AH), f h = some a → ∀ sz : Nat, Met l y (.code y cd mL rt :: WL) (rmL lev) (va_Pc av (fun U => U.heap.size = sz ∧ va_P (gD g) vwCl (gW g h) U.heap ∧ va_K (gD g) vwCl (tys g) U ∧ va_D (fun _ => True) (gW g h) ∧ wfL (gL g) ∧ EV g (gA g sz) U)) (rq g (gA g sz) mk a) 0 0 (gA g sz)
theorem gW_len (g : GC) (h : AH) : (gW g h).length = (gL g).length := by simp [gW, conc]
theorem gA_of {g : GC} {h : AH} {sz k : Nat} {q : Nat × va_E} (hk : (gW g h)[k]? = some q) : gA g sz q.1 := by
  have hl : k < (gL g).length := by rw [← gW_len g h]; exact (List.getElem?_eq_some_iff.mp hk).1
  have he : (gL g)[k]? = some (gL g)[k] := List.getElem?_eq_getElem hl
  have e2 : (gW g h)[k]? = some (gad g k, cellOf (gad g) (gtc g) h k (gL g)[k]) := conc_get he
  rw [hk] at e2
  exact Or.inl ⟨k, hl, by rw [Option.some.inj e2]⟩
theorem gA_sub {g : GC} {A : Nat → Prop} {n sz : Nat} (h1 : ∀ r, r < (gL g).length → A (gad g r)) (h2 : ∀ q, n ≤ q → A q) (h3 : n ≤ sz) : ∀ q, gA g sz q → A q := by
  intro q hq
  rcases hq with ⟨r, hr, rfl⟩ | hq
  · exact h1 r hr
  · exact h2 q (Nat.le_trans h3 hq)
theorem Ct.of {l : Launch} {y : MethodName} {cd : ByteArray} {mL : Nat} {rt : Option FieldType} {lev : Nat} {av : List Value} {g : GC} {ρ : Type} {mk : ρ → Option Value} {f : AH → Option (ρ × AH)} (hy : plainName y.cls = true) (hav : (lg_sl av).length ≤ mL)
    (body : ∀ (z : MC) (A : Nat → Prop) (h : AH), z.2.1 = l → Fx z cd mL y.cls rt lev g A → Snd z mL g A (QF z g A mk) 0 (lv_args 0 av) [] h (f h)) : Ct l y cd mL rt lev av g mk f := by
  intro h a ha sz
  refine Met.ofW (cc := cd) (maxL := mL) (ret := rt) hy rfl ?_
  intro p e s m args below meth c s₁ B hml hv
  obtain ⟨rfl, hsz, hP, hK, hD0, hwf, hE⟩ := hv
  subst hsz
  have hD : va_D (gA g s.heap.size) (gW g h) := ⟨hD0.1, fun _ _ hk => gA_of hk⟩
  have hS : va_S (gA g s.heap.size) s.heap s.heap [] := va_S.rf
  have hts := atoms_spec (ws := .code y cd mL rt :: WL) B.pre
  have hl := lv_entry av (n := mL) hav
  rw [lg_entry_eq]
  exact body (p, l, e, _, s, m, av.toArray, below, meth, c) (gA g s.heap.size) h rfl ⟨B.exec, B.bytes, hml, findClass_of_methodNamed B.named, fun w hw => hts w (List.mem_cons_of_mem _ hw), hK, hwf, hE, fun q hq => Or.inr hq, B.returns, B.notSynchronized, rfl, fun r hr => Or.inl ⟨r, hr, rfl⟩⟩ a ha _ _ _ hl ⟨hP, hD, hS⟩
/-- what the words say of a method that is called on an object, or of a static one -/
def YV (y : MethodName) (cd : ByteArray) (mL : Nat) (rt : Option FieldType) (n : Nat) : Prop := Cond.instanceMethod y ∈ WL ∧ Cond.selects y.cls y y ∈ WL ∧ Cond.initialized y.cls ∈ WL ∧ Cond.code y cd mL rt ∈ WL ∧ (y.cls ≠ "java/lang/invoke/MethodHandle" ∧ y.cls ≠ "java/lang/invoke/VarHandle" ∧ (parseMethodDescriptor y.desc).map (fun d => d.parameters.length) = some n) ∧ mL ≤ 45
def YS (y : MethodName) (cd : ByteArray) (mL : Nat) (rt : Option FieldType) (n : Nat) : Prop := Cond.static y ∈ WL ∧ Cond.initialized y.cls ∈ WL ∧ Cond.code y cd mL rt ∈ WL ∧ (y.cls ≠ "java/lang/invoke/MethodHandle" ∧ y.cls ≠ "java/lang/invoke/VarHandle" ∧ (parseMethodDescriptor y.desc).map (fun d => d.parameters.length) = some n) ∧ mL ≤ 45
theorem wl_goodIn {y : MethodName} {cd : ByteArray} {mL : Nat} {rt : Option FieldType} (hc : Cond.code y cd mL rt ∈ WL) : GoodIn WL (Cond.code y cd mL rt :: WL) := by
  intro w hw
  rcases List.mem_cons.mp hw with rfl | h
  · exact ⟨hc, wl_good hc⟩
  · exact ⟨h, wl_good h⟩
section MC1
variable {z : MC} {cc : ByteArray} {nL : Nat} {own : String} {rt : Option FieldType} {lev : Nat} {g : GC} {A : Nat → Prop} {α : Type} {Qf : α → State → Prop} {pc : Nat} {lv : List (Nat × Value)} {st : List Value} {h : AH}
variable {y : MethodName} {cd : ByteArray} {mL : Nat} {rty : Option FieldType} {lev' n index : Nat} {As : List Value} {ρ : Type} {mk : ρ → Option Value} {f : AH → Option (ρ × AH)} {K : ρ → AH → Option α}
theorem bd_some {o : Option (ρ × AH)} {K : ρ → AH → Option α} {a : α} (hh : bd o K = some a) : ∃ r h', o = some (r, h') ∧ K r h' = some a := by
  unfold bd at hh
  split at hh
  · next b => exact ⟨b.1, b.2, rfl, hh⟩
  · cases hh
/-- behind a call: its world joins; what it answered stands on the stack -/
theorem s_back {av : Array Value} {r : ρ} {h' : AH} {st0 : List Value} {res : Option α} {a : α} {ls : Array Slot} {H : Heap} {locs : List Loc}
    (hr : va_Run z.1 z.2.1 z.2.2.1 (zR z) (zs z) (zm z) (za z) (zb z) (zme z) (zc z) H locs 0 0 0 0 (F0 (zm z) pc ls st0) st (rq g (gA g H.size) mk (r, h') av) (gA g H.size)) (F : Fx z cc nL own rt lev g A) (hw : Wd g A (zs z) h H locs) (hl : lv_has ls nL lv) (ha : res = some a)
    (kk : Snd z nL g A Qf (pc + 3) lv ((mk r).toList ++ st) h' res) : WW z H locs (Qf a) (F0 (zm z) pc ls st0) := by
  obtain ⟨hP, hD, hS⟩ := hw
  intro T hT X
  obtain ⟨v, st₀, t, T', L, e0, X', hL, e1, e2, ⟨⟨hv, hP1, hD1⟩, hz, hk⟩, go⟩ := hr T hT X
  cases hv
  rw [e0] at hz hk
  have hsub : ∀ q, gA g H.size q → A q := gA_sub F.2.2.2.2.2.2.2.2.2.2.2.2 F.2.2.2.2.2.2.2.2.1 hS.1
  have hS1 : va_S A (zs z).heap T'.heap (locs ++ L) := ⟨Nat.le_trans hS.1 (by rw [e1]; exact hz), fun q h1 h2 => by
      rw [e1, hk q (Nat.lt_of_lt_of_le h1 hS.1) (fun w => h2 (hsub q w))]
      exact hS.2.1 q h1 h2, fun q hq => by
      rcases List.mem_append.mp hq with h | h
      · exact hS.2.2 q h
      · exact hsub _ (hL q h)⟩
  obtain ⟨t2, a1, b1⟩ := kk a ha ls T'.heap (locs ++ L) hl ⟨by rw [e1]; exact hP1, hD1.weaken (fun _ q _ w => hsub q.1 w), hS1⟩ T' rfl X'
  exact ⟨t2, go t2 a1, b1⟩
theorem fx_pre (F : Fx z cc nL own rt lev g A) {H : Heap} {locs : List Loc} (hw : Wd g A (zs z) h H locs) {av : List Value} :
    FrameBlind (va_Pc av (fun U => U.heap.size = H.size ∧ va_P (gD g) vwCl (gW g h) U.heap ∧ va_K (gD g) vwCl (tys g) U ∧ va_D (fun _ => True) (gW g h) ∧ wfL (gL g) ∧ EV g (gA g H.size) U)) ∧ ∀ U : State, U.heap = H → (zs z).WarmedH U.vm → va_Pc av (fun U => U.heap.size = H.size ∧ va_P (gD g) vwCl (gW g h) U.heap ∧ va_K (gD g) vwCl (tys g) U ∧ va_D (fun _ => True) (gW g h) ∧ wfL (gL g) ∧ EV g (gA g H.size) U) av.toArray U := by
  obtain ⟨hP, hD, hS⟩ := hw
  obtain ⟨hx, hb, hml, hown, hts, hK, hwf, hE, hAn, -, -, -, hAr⟩ := id F
  have hsub : ∀ q, gA g H.size q → A q := gA_sub hAr hAn hS.1
  refine ⟨fun a U f mk q => ?_, fun U hU hW => ⟨rfl, by rw [hU], by rw [hU]; exact hP, va_K.moved hW.alike hK, hD.weaken (fun _ _ _ _ => trivial), hwf, hE.call hS hU hW hsub⟩⟩
  obtain ⟨q0, q1, qP, qK, qD, qw, qE⟩ := q
  exact ⟨q0, q1, qP, va_K.moved (u := U) (U := U.calling f mk a) (Vm.Alike.refl U.vm) qK, qD, qw, qE.frame⟩
theorem s_callV (F : Fx z cc nL own rt lev g A) (hY : YV y cd mL rty n) {b ci : Nat} {T : u_T} {N : Nat} (hC : Ct z.2.1 y cd mL rty lev' (.ref (gad g b) :: As) g mk f) (hlev : lev' + 1 ≤ lev) (hlk : Cond.methodLink own index y ∈ WL) (ho : (gL g)[b]? = some (.inl ci)) (hc : vwCl[ci]? = some (y.cls, T, N)) (hn : As.length = n) {st0 : List Value} (hst : st0 = As.reverse ++ .ref (gad g b) :: st) (hroom : (st.map fun v => v.category).sum ≤ 8) (d : decode cc pc = .ok (.invokevirtual index, 3))
    (kk : ∀ (r : ρ) (h' : AH), f h = some (r, h') → Snd z nL g A Qf (pc + 3) lv ((mk r).toList ++ st) h' (K r h')) : Snd z nL g A Qf pc lv st0 h (bd (f h) K) := by
  intro a ha ls H locs hl hw
  obtain ⟨r, h', hf, ha⟩ := bd_some ha
  have hp := fx_pre F hw (av := .ref (gad g b) :: As)
  obtain ⟨hx, hb, hml, hown, hts, hK, -, -, -, -, -, hR, -⟩ := id F
  refine s_back (va_runV (n := n) (As := As) (rest := st) (b := gad g b) (C := y.cls) (bytes := cd) (maxL := mL) (ret := rty) (nL := nL) ⟨hx, hb, hml, hown, hts⟩ (hC h (r, h') hf H.size) ⟨callB_of n hts (wl_goodIn hY.2.2.2.1) rfl rfl rfl (hts _ hY.2.2.1) (hts _ hlk) hY.2.2.2.2.1 ⟨?_, ?_⟩, hts _ hY.1, hts _ hY.2.1⟩ ⟨hp.1, va_recv hK hw.1 hc (conc_get ho), hp.2⟩ rfl hn hl.1 hst (lv_room hroom) d ?_) F hw hl ha (kk r h' hf)
  · rw [hR]; exact hlev
  · rw [hR]; show 8 + (mL + 11) + 64 * lev' ≤ 64 * lev; have := hY.2.2.2.2.2; omega
  · rw [hR]; exact ⟨Nat.zero_le _, Nat.zero_le _⟩
theorem s_callS (F : Fx z cc nL own rt lev g A) (hY : YS y cd mL rty n) (hC : Ct z.2.1 y cd mL rty lev' As g mk f) (hlev : lev' + 1 ≤ lev) (hlk : Cond.methodLink own index y ∈ WL) (hn : As.length = n) {st0 : List Value} (hst : st0 = As.reverse ++ st) (hroom : (st.map fun v => v.category).sum ≤ 8) (d : decode cc pc = .ok (.invokestatic index, 3))
    (kk : ∀ (r : ρ) (h' : AH), f h = some (r, h') → Snd z nL g A Qf (pc + 3) lv ((mk r).toList ++ st) h' (K r h')) : Snd z nL g A Qf pc lv st0 h (bd (f h) K) := by
  intro a ha ls H locs hl hw
  obtain ⟨r, h', hf, ha⟩ := bd_some ha
  have hp := fx_pre F hw (av := As)
  obtain ⟨hx, hb, hml, hown, hts, hK, -, -, -, -, -, hR, -⟩ := id F
  refine s_back (va_runS (n := n) (As := As) (rest := st) (bytes := cd) (maxL := mL) (ret := rty) (nL := nL) ⟨hx, hb, hml, hown, hts⟩ (hC h (r, h') hf H.size) ⟨callB_of n hts (wl_goodIn hY.2.2.1) rfl rfl rfl (hts _ hY.2.1) (hts _ hlk) hY.2.2.2.1 ⟨?_, ?_⟩, hts _ hY.1⟩ hp rfl hn hl.1 hst (lv_room hroom) d ?_) F hw hl ha (kk r h' hf)
  · rw [hR]; exact hlev
  · rw [hR]; show 8 + (mL + 11) + 64 * lev' ≤ 64 * lev; have := hY.2.2.2.2; omega
  · rw [hR]; exact ⟨Nat.zero_le _, Nat.zero_le _⟩
theorem s_callSN (F : Fx z cc nL own rt lev g A) (hY : YS y cd mL rty n) (hC : Ct z.2.1 y cd mL rty lev' As g mk f) (hlev : lev' + 1 ≤ lev) (hlk : (own, index, y) ∈ nestM) (hn : As.length = n) {st0 : List Value} (hst : st0 = As.reverse ++ st) (hroom : (st.map fun v => v.category).sum ≤ 8) (d : decode cc pc = .ok (.invokestatic index, 3))
    (kk : ∀ (r : ρ) (h' : AH), f h = some (r, h') → Snd z nL g A Qf (pc + 3) lv ((mk r).toList ++ st) h' (K r h')) : Snd z nL g A Qf pc lv st0 h (bd (f h) K) := by
  intro a ha ls H locs hl hw
  obtain ⟨r, h', hf, ha⟩ := bd_some ha
  have hp := fx_pre F hw (av := As)
  obtain ⟨hx, hb, hml, hown, hts, hK, -, hE, -, -, -, hR, -⟩ := id F
  refine s_back (va_runSN (n := n) (As := As) (rest := st) (bytes := cd) (maxL := mL) (ret := rty) (nL := nL) (host := "ArchTrades") ⟨hx, hb, hml, hown, hts⟩ (hC h (r, h') hf H.size) ⟨va_cnB n hts (wl_goodIn hY.2.2.1) rfl rfl rfl (hE.1 _ hlk) (hts _ hY.2.1) hY.2.2.2.1 ⟨?_, ?_⟩, hts _ hY.1, trivial⟩ hp rfl hn hl.1 hst (lv_room hroom) d ?_) F hw hl ha (kk r h' hf)
  · rw [hR]; exact hlev
  · rw [hR]; show 8 + (mL + 11) + 64 * lev' ≤ 64 * lev; have := hY.2.2.2.2; omega
  · rw [hR]; exact ⟨Nat.zero_le _, Nat.zero_le _⟩
theorem s_callVi {f : AH → Option (Int32 × AH)} {K : Int32 → AH → Option α} (F : Fx z cc nL own rt lev g A) (hY : YV y cd mL rty n) {b ci : Nat} {T : u_T} {N : Nat} (hC : Ct z.2.1 y cd mL rty lev' (.ref (gad g b) :: As) g mkI f) (hlev : lev' + 1 ≤ lev) (hlk : Cond.methodLink own index y ∈ WL) (ho : (gL g)[b]? = some (.inl ci)) (hc : vwCl[ci]? = some (y.cls, T, N)) (hn : As.length = n) {st0 : List Value} (hst : st0 = As.reverse ++ .ref (gad g b) :: st) (hroom : (st.map fun v => v.category).sum ≤ 8) (d : decode cc pc = .ok (.invokevirtual index, 3))
    (kk : ∀ (r : Int32) (h' : AH), f h = some (r, h') → Snd z nL g A Qf (pc + 3) lv (.int r :: st) h' (K r h')) : Snd z nL g A Qf pc lv st0 h (bd (f h) K) := s_callV F hY hC hlev hlk ho hc hn hst hroom d kk
theorem s_callVl {f : AH → Option (Int64 × AH)} {K : Int64 → AH → Option α} (F : Fx z cc nL own rt lev g A) (hY : YV y cd mL rty n) {b ci : Nat} {T : u_T} {N : Nat} (hC : Ct z.2.1 y cd mL rty lev' (.ref (gad g b) :: As) g mkL f) (hlev : lev' + 1 ≤ lev) (hlk : Cond.methodLink own index y ∈ WL) (ho : (gL g)[b]? = some (.inl ci)) (hc : vwCl[ci]? = some (y.cls, T, N)) (hn : As.length = n) {st0 : List Value} (hst : st0 = As.reverse ++ .ref (gad g b) :: st) (hroom : (st.map fun v => v.category).sum ≤ 8) (d : decode cc pc = .ok (.invokevirtual index, 3))
    (kk : ∀ (r : Int64) (h' : AH), f h = some (r, h') → Snd z nL g A Qf (pc + 3) lv (.long r :: st) h' (K r h')) : Snd z nL g A Qf pc lv st0 h (bd (f h) K) := s_callV F hY hC hlev hlk ho hc hn hst hroom d kk
theorem s_callVr {f : AH → Option (Nat × AH)} {K : Nat → AH → Option α} (F : Fx z cc nL own rt lev g A) (hY : YV y cd mL rty n) {b ci : Nat} {T : u_T} {N : Nat} (hC : Ct z.2.1 y cd mL rty lev' (.ref (gad g b) :: As) g (mkR g) f) (hlev : lev' + 1 ≤ lev) (hlk : Cond.methodLink own index y ∈ WL) (ho : (gL g)[b]? = some (.inl ci)) (hc : vwCl[ci]? = some (y.cls, T, N)) (hn : As.length = n) {st0 : List Value} (hst : st0 = As.reverse ++ .ref (gad g b) :: st) (hroom : (st.map fun v => v.category).sum ≤ 8) (d : decode cc pc = .ok (.invokevirtual index, 3))
    (kk : ∀ (r : Nat) (h' : AH), f h = some (r, h') → Snd z nL g A Qf (pc + 3) lv (.ref (gad g r) :: st) h' (K r h')) : Snd z nL g A Qf pc lv st0 h (bd (f h) K) := s_callV F hY hC hlev hlk ho hc hn hst hroom d kk
theorem s_callVu {f : AH → Option (Unit × AH)} {K : Unit → AH → Option α} (F : Fx z cc nL own rt lev g A) (hY : YV y cd mL rty n) {b ci : Nat} {T : u_T} {N : Nat} (hC : Ct z.2.1 y cd mL rty lev' (.ref (gad g b) :: As) g mkU f) (hlev : lev' + 1 ≤ lev) (hlk : Cond.methodLink own index y ∈ WL) (ho : (gL g)[b]? = some (.inl ci)) (hc : vwCl[ci]? = some (y.cls, T, N)) (hn : As.length = n) {st0 : List Value} (hst : st0 = As.reverse ++ .ref (gad g b) :: st) (hroom : (st.map fun v => v.category).sum ≤ 8) (d : decode cc pc = .ok (.invokevirtual index, 3))
    (kk : ∀ (r : Unit) (h' : AH), f h = some (r, h') → Snd z nL g A Qf (pc + 3) lv (st) h' (K r h')) : Snd z nL g A Qf pc lv st0 h (bd (f h) K) := s_callV F hY hC hlev hlk ho hc hn hst hroom d kk
theorem s_callSi {f : AH → Option (Int32 × AH)} {K : Int32 → AH → Option α} (F : Fx z cc nL own rt lev g A) (hY : YS y cd mL rty n) (hC : Ct z.2.1 y cd mL rty lev' As g mkI f) (hlev : lev' + 1 ≤ lev) (hlk : Cond.methodLink own index y ∈ WL) (hn : As.length = n) {st0 : List Value} (hst : st0 = As.reverse ++ st) (hroom : (st.map fun v => v.category).sum ≤ 8) (d : decode cc pc = .ok (.invokestatic index, 3))
    (kk : ∀ (r : Int32) (h' : AH), f h = some (r, h') → Snd z nL g A Qf (pc + 3) lv (.int r :: st) h' (K r h')) : Snd z nL g A Qf pc lv st0 h (bd (f h) K) := s_callS F hY hC hlev hlk hn hst hroom d kk
theorem s_callSl {f : AH → Option (Int64 × AH)} {K : Int64 → AH → Option α} (F : Fx z cc nL own rt lev g A) (hY : YS y cd mL rty n) (hC : Ct z.2.1 y cd mL rty lev' As g mkL f) (hlev : lev' + 1 ≤ lev) (hlk : Cond.methodLink own index y ∈ WL) (hn : As.length = n) {st0 : List Value} (hst : st0 = As.reverse ++ st) (hroom : (st.map fun v => v.category).sum ≤ 8) (d : decode cc pc = .ok (.invokestatic index, 3))
    (kk : ∀ (r : Int64) (h' : AH), f h = some (r, h') → Snd z nL g A Qf (pc + 3) lv (.long r :: st) h' (K r h')) : Snd z nL g A Qf pc lv st0 h (bd (f h) K) := s_callS F hY hC hlev hlk hn hst hroom d kk
theorem s_callSr {f : AH → Option (Nat × AH)} {K : Nat → AH → Option α} (F : Fx z cc nL own rt lev g A) (hY : YS y cd mL rty n) (hC : Ct z.2.1 y cd mL rty lev' As g (mkR g) f) (hlev : lev' + 1 ≤ lev) (hlk : Cond.methodLink own index y ∈ WL) (hn : As.length = n) {st0 : List Value} (hst : st0 = As.reverse ++ st) (hroom : (st.map fun v => v.category).sum ≤ 8) (d : decode cc pc = .ok (.invokestatic index, 3))
    (kk : ∀ (r : Nat) (h' : AH), f h = some (r, h') → Snd z nL g A Qf (pc + 3) lv (.ref (gad g r) :: st) h' (K r h')) : Snd z nL g A Qf pc lv st0 h (bd (f h) K) := s_callS F hY hC hlev hlk hn hst hroom d kk
theorem s_callSu {f : AH → Option (Unit × AH)} {K : Unit → AH → Option α} (F : Fx z cc nL own rt lev g A) (hY : YS y cd mL rty n) (hC : Ct z.2.1 y cd mL rty lev' As g mkU f) (hlev : lev' + 1 ≤ lev) (hlk : Cond.methodLink own index y ∈ WL) (hn : As.length = n) {st0 : List Value} (hst : st0 = As.reverse ++ st) (hroom : (st.map fun v => v.category).sum ≤ 8) (d : decode cc pc = .ok (.invokestatic index, 3))
    (kk : ∀ (r : Unit) (h' : AH), f h = some (r, h') → Snd z nL g A Qf (pc + 3) lv (st) h' (K r h')) : Snd z nL g A Qf pc lv st0 h (bd (f h) K) := s_callS F hY hC hlev hlk hn hst hroom d kk
theorem s_callSNi {f : AH → Option (Int32 × AH)} {K : Int32 → AH → Option α} (F : Fx z cc nL own rt lev g A) (hY : YS y cd mL rty n) (hC : Ct z.2.1 y cd mL rty lev' As g mkI f) (hlev : lev' + 1 ≤ lev) (hlk : (own, index, y) ∈ nestM) (hn : As.length = n) {st0 : List Value} (hst : st0 = As.reverse ++ st) (hroom : (st.map fun v => v.category).sum ≤ 8) (d : decode cc pc = .ok (.invokestatic index, 3))
    (kk : ∀ (r : Int32) (h' : AH), f h = some (r, h') → Snd z nL g A Qf (pc + 3) lv (.int r :: st) h' (K r h')) : Snd z nL g A Qf pc lv st0 h (bd (f h) K) := s_callSN F hY hC hlev hlk hn hst hroom d kk
theorem s_callSNl {f : AH → Option (Int64 × AH)} {K : Int64 → AH → Option α} (F : Fx z cc nL own rt lev g A) (hY : YS y cd mL rty n) (hC : Ct z.2.1 y cd mL rty lev' As g mkL f) (hlev : lev' + 1 ≤ lev) (hlk : (own, index, y) ∈ nestM) (hn : As.length = n) {st0 : List Value} (hst : st0 = As.reverse ++ st) (hroom : (st.map fun v => v.category).sum ≤ 8) (d : decode cc pc = .ok (.invokestatic index, 3))
    (kk : ∀ (r : Int64) (h' : AH), f h = some (r, h') → Snd z nL g A Qf (pc + 3) lv (.long r :: st) h' (K r h')) : Snd z nL g A Qf pc lv st0 h (bd (f h) K) := s_callSN F hY hC hlev hlk hn hst hroom d kk
theorem s_callSNr {f : AH → Option (Nat × AH)} {K : Nat → AH → Option α} (F : Fx z cc nL own rt lev g A) (hY : YS y cd mL rty n) (hC : Ct z.2.1 y cd mL rty lev' As g (mkR g) f) (hlev : lev' + 1 ≤ lev) (hlk : (own, index, y) ∈ nestM) (hn : As.length = n) {st0 : List Value} (hst : st0 = As.reverse ++ st) (hroom : (st.map fun v => v.category).sum ≤ 8) (d : decode cc pc = .ok (.invokestatic index, 3))
    (kk : ∀ (r : Nat) (h' : AH), f h = some (r, h') → Snd z nL g A Qf (pc + 3) lv (.ref (gad g r) :: st) h' (K r h')) : Snd z nL g A Qf pc lv st0 h (bd (f h) K) := s_callSN F hY hC hlev hlk hn hst hroom d kk
theorem s_callSNu {f : AH → Option (Unit × AH)} {K : Unit → AH → Option α} (F : Fx z cc nL own rt lev g A) (hY : YS y cd mL rty n) (hC : Ct z.2.1 y cd mL rty lev' As g mkU f) (hlev : lev' + 1 ≤ lev) (hlk : (own, index, y) ∈ nestM) (hn : As.length = n) {st0 : List Value} (hst : st0 = As.reverse ++ st) (hroom : (st.map fun v => v.category).sum ≤ 8) (d : decode cc pc = .ok (.invokestatic index, 3))
    (kk : ∀ (r : Unit) (h' : AH), f h = some (r, h') → Snd z nL g A Qf (pc + 3) lv (st) h' (K r h')) : Snd z nL g A Qf pc lv st0 h (bd (f h) K) := s_callSN F hY hC hlev hlk hn hst hroom d kk
/-- a call on a String constant -/
theorem s_callK {f : AH → Option (Int32 × AH)} {K : Int32 → AH → Option α} (F : Fx z cc nL own rt lev g A) (hY : YV y cd mL rty n) {i : Nat} (hC : Ct z.2.1 y cd mL rty lev' (.ref (gK g i) :: As) g mkI f) (hlev : lev' + 1 ≤ lev) (hlk : Cond.methodLink own index y ∈ WL) (hi : i < 8) (hy : y.cls = "java/lang/String") (hn : As.length = n) {st0 : List Value} (hst : st0 = As.reverse ++ .ref (gK g i) :: st) (hroom : (st.map fun v => v.category).sum ≤ 8) (d : decode cc pc = .ok (.invokevirtual index, 3))
    (kk : ∀ (r : Int32) (h' : AH), f h = some (r, h') → Snd z nL g A Qf (pc + 3) lv (.int r :: st) h' (K r h')) : Snd z nL g A Qf pc lv st0 h (bd (f h) K) := by
  intro a ha ls H locs hl hw
  obtain ⟨r, h', hf, ha⟩ := bd_some ha
  have hp := fx_pre F hw (av := .ref (gK g i) :: As)
  obtain ⟨hx, hb, hml, hown, hts, hK, -, hE, -, -, -, hR, -⟩ := id F
  have hrc := vk_recv hE.2.2.2.1 hi hw.2.2
  rw [← hy] at hrc
  refine s_back (va_runV (n := n) (As := As) (rest := st) (b := gK g i) (C := y.cls) (bytes := cd) (maxL := mL) (ret := rty) (nL := nL) ⟨hx, hb, hml, hown, hts⟩ (hC h (r, h') hf H.size) ⟨callB_of n hts (wl_goodIn hY.2.2.2.1) rfl rfl rfl (hts _ hY.2.2.1) (hts _ hlk) hY.2.2.2.2.1 ⟨?_, ?_⟩, hts _ hY.1, hts _ hY.2.1⟩ ⟨hp.1, hrc, hp.2⟩ rfl hn hl.1 hst (lv_room hroom) d ?_) F hw hl ha (kk r h' hf)
  · rw [hR]; exact hlev
  · rw [hR]; show 8 + (mL + 11) + 64 * lev' ≤ 64 * lev; have := hY.2.2.2.2.2; omega
  · rw [hR]; exact ⟨Nat.zero_le _, Nat.zero_le _⟩
/-- System.arraycopy between rows of ints -/
def cpy (h : AH) (r0 n0 : Nat) (sp : Int32) (r1 n1 : Nat) (dp n : Int32) : Option AH := if sp < 0 ∨ dp < 0 ∨ n < 0 ∨ n0 < sp.toNatClampNeg + n.toNatClampNeg ∨ n1 < dp.toNatClampNeg + n.toNatClampNeg then none else some (hput h r1 (va_cpy (h r0) (h r1) sp.toNatClampNeg dp.toNatClampNeg n.toNatClampNeg))
def bh {α : Type} (o : Option AH) (K : AH → Option α) : Option α := match o with
  | some a => K a
  | none => none
theorem s_cpy (F : Fx z cc nL own rt lev g A) (hlev : 1 ≤ lev) {r0 n0 r1 n1 : Nat} {sp dp k : Int32} {K : AH → Option α} (ho0 : (gL g)[r0]? = some (.inr (0, n0))) (ho1 : (gL g)[r1]? = some (.inr (0, n1))) (hlk : Cond.methodLink own index arraycopyName ∈ WL) (hnat : Cond.native arraycopyName ∈ WL) (hstt : Cond.static arraycopyName ∈ WL) (hini : Cond.initialized "java/lang/System" ∈ WL) (hroom : (st.map fun v => v.category).sum ≤ 8) (d : decode cc pc = .ok (.invokestatic index, 3))
    (kk : ∀ h' : AH, Snd z nL g A Qf (pc + 3) lv st h' (K h')) : Snd z nL g A Qf pc lv (.int k :: .int dp :: .ref (gad g r1) :: .int sp :: .ref (gad g r0) :: st) h (bh (cpy h r0 n0 sp r1 n1 dp k) K) := by
  intro a ha ls H locs hl hw
  unfold bh at ha
  split at ha
  case h_2 => cases ha
  case h_1 h' hc =>
  unfold cpy at hc
  split at hc
  case isTrue => cases hc
  case isFalse hn =>
  have hn' : ¬ sp < 0 ∧ ¬ dp < 0 ∧ ¬ k < 0 ∧ ¬ n0 < sp.toNatClampNeg + k.toNatClampNeg ∧ ¬ n1 < dp.toNatClampNeg + k.toNatClampNeg := by
    simpa [not_or] using hn
  obtain ⟨e1, e2, e3, e4, e5⟩ := hn'
  obtain ⟨hP, hD, hS⟩ := hw
  obtain ⟨hx, hb, hml, hown, hts, hK, -, -, -, -, -, hR, -⟩ := id F
  refine va_copyi hx hb (hml.trans hl.1.symm) hown (hts _ hlk) (hts _ hnat) (hts _ hstt) (hts _ hini) hK hP hD hS r0 r1 0 0 (conc_get ho0) (conc_get ho1) rfl rfl rfl e1 e2 e3 (Nat.not_lt.mp e4) (Nat.not_lt.mp e5) (fun _ _ => rfl) ?_ ?_ d (fun H1 locs1 hP1 hD1 hS1 => ?_)
  · rw [hR]; exact hlev
  · rw [hR]; show _ + (nativeFrameWords "java/lang/System" "arraycopy" 5 + 11) ≤ 64 * lev
    have hq : nativeFrameWords "java/lang/System" "arraycopy" 5 + 11 ≤ 56 := by decide +kernel
    omega
  · have e : (gW g h).set r1 (gad g r1, .inl (gtc g 0, n1, .inl (va_cpy (h r0) (h r1) sp.toNatClampNeg dp.toNatClampNeg k.toNatClampNeg))) = gW g (hput h r1 (va_cpy (h r0) (h r1) sp.toNatClampNeg dp.toNatClampNeg k.toNatClampNeg)) := conc_setA ho1
    rw [e] at hP1 hD1
    cases hc
    exact kk _ a ha ls H1 locs1 hl ⟨hP1, hD1, hS1⟩
theorem s_mmax (F : Fx z cc nL own rt lev g A) (hlev : 1 ≤ lev) {x w : Int32} {res : Option α} (hlk : Cond.methodLink own index Lib.Math.max.name ∈ WL) (hstt : Cond.static Lib.Math.max.name ∈ WL) (hini : Cond.initialized "java/lang/Math" ∈ WL) (hcode : Cond.code Lib.Math.max.name Lib.Math.max.code 2 (some .int) ∈ WL) (hroom : (st.map fun v => v.category).sum ≤ 8) (d : decode cc pc = .ok (.invokestatic index, 3))
    (kk : Snd z nL g A Qf (pc + 3) lv (.int (if x < w then w else x) :: st) h res) : Snd z nL g A Qf pc lv (.int w :: .int x :: st) h res := by
  intro a ha ls H locs hl hw
  obtain ⟨hx, hb, hml, hown, hts, hK, -, -, -, -, -, hR, -⟩ := id F
  refine va_mmax hx hb (hml.trans hl.1.symm) hown (hts _ hlk) (hts _ hstt) (hts _ hini) (hts _ hcode) ?_ ?_ ?_ ?_ d (kk a ha ls H locs hl hw)
  · rw [hR]; exact hlev
  · rw [hR]; show _ + 13 ≤ 64 * lev; omega
  · rw [hR]; exact Nat.zero_le _
  · rw [hR]; exact Nat.zero_le _
end MC1
end
section
/-! ===== the classes, by their numbers ===== -/
theorem inW0 : ∀ w ∈ u_ws RX0 TX0 6, w ∈ WL := by
  intro w hw
  obtain ⟨k, hk, rfl⟩ := List.mem_map.mp hw
  have hk2 := List.mem_range.mp hk
  rcases (show k = 0 ∨ k = 1 ∨ k = 2 ∨ k = 3 ∨ k = 4 ∨ k = 5 by omega) with rfl | rfl | rfl | rfl | rfl | rfl
  · exact m173
  · exact m175
  · exact m177
  · exact m179
  · exact m181
  · exact m183
theorem ciX0 : CI 0 RX0 TX0 6 tyX0 := ⟨rfl, inW0, tyX0_ok, nmX0⟩
theorem inW1 : ∀ w ∈ u_ws RX1 TX1 2, w ∈ WL := by
  intro w hw
  obtain ⟨k, hk, rfl⟩ := List.mem_map.mp hw
  have hk2 := List.mem_range.mp hk
  rcases (show k = 0 ∨ k = 1 by omega) with rfl | rfl
  · exact m234
  · exact m236
theorem ciX1 : CI 1 RX1 TX1 2 tyX1 := ⟨rfl, inW1, tyX1_ok, nmX1⟩
theorem inW2 : ∀ w ∈ u_ws RX2 TX2 15, w ∈ WL := by
  intro w hw
  obtain ⟨k, hk, rfl⟩ := List.mem_map.mp hw
  have hk2 := List.mem_range.mp hk
  rcases (show k = 0 ∨ k = 1 ∨ k = 2 ∨ k = 3 ∨ k = 4 ∨ k = 5 ∨ k = 6 ∨ k = 7 ∨ k = 8 ∨ k = 9 ∨ k = 10 ∨ k = 11 ∨ k = 12 ∨ k = 13 ∨ k = 14 by omega) with rfl | rfl | rfl | rfl | rfl | rfl | rfl | rfl | rfl | rfl | rfl | rfl | rfl | rfl | rfl
  · exact m121
  · exact m123
  · exact m125
  · exact m127
  · exact m129
  · exact m131
  · exact m133
  · exact m135
  · exact m137
  · exact m139
  · exact m141
  · exact m143
  · exact m145
  · exact m147
  · exact m149
theorem ciX2 : CI 2 RX2 TX2 15 tyX2 := ⟨rfl, inW2, tyX2_ok, nmX2⟩
theorem inW3 : ∀ w ∈ u_ws RX3 TX3 11, w ∈ WL := by
  intro w hw
  obtain ⟨k, hk, rfl⟩ := List.mem_map.mp hw
  have hk2 := List.mem_range.mp hk
  rcases (show k = 0 ∨ k = 1 ∨ k = 2 ∨ k = 3 ∨ k = 4 ∨ k = 5 ∨ k = 6 ∨ k = 7 ∨ k = 8 ∨ k = 9 ∨ k = 10 by omega) with rfl | rfl | rfl | rfl | rfl | rfl | rfl | rfl | rfl | rfl | rfl
  · exact m203
  · exact m205
  · exact m207
  · exact m209
  · exact m211
  · exact m213
  · exact m215
  · exact m217
  · exact m219
  · exact m221
  · exact m223
theorem ciX3 : CI 3 RX3 TX3 11 tyX3 := ⟨rfl, inW3, tyX3_ok, nmX3⟩
theorem inW4 : ∀ w ∈ u_ws RX4 TX4 2, w ∈ WL := by
  intro w hw
  obtain ⟨k, hk, rfl⟩ := List.mem_map.mp hw
  have hk2 := List.mem_range.mp hk
  rcases (show k = 0 ∨ k = 1 by omega) with rfl | rfl
  · exact m154
  · exact m156
theorem ciX4 : CI 4 RX4 TX4 2 tyX4 := ⟨rfl, inW4, tyX4_ok, nmX4⟩
theorem inW5 : ∀ w ∈ u_ws RX5 TX5 3, w ∈ WL := by
  intro w hw
  obtain ⟨k, hk, rfl⟩ := List.mem_map.mp hw
  have hk2 := List.mem_range.mp hk
  rcases (show k = 0 ∨ k = 1 ∨ k = 2 by omega) with rfl | rfl | rfl
  · exact m35
  · exact m37
  · exact m39
theorem ciX5 : CI 5 RX5 TX5 3 tyX5 := ⟨rfl, inW5, tyX5_ok, nmX5⟩
theorem inW6 : ∀ w ∈ u_ws RX6 TX6 5, w ∈ WL := by
  intro w hw
  obtain ⟨k, hk, rfl⟩ := List.mem_map.mp hw
  have hk2 := List.mem_range.mp hk
  rcases (show k = 0 ∨ k = 1 ∨ k = 2 ∨ k = 3 ∨ k = 4 by omega) with rfl | rfl | rfl | rfl | rfl
  · exact m54
  · exact m56
  · exact m58
  · exact m60
  · exact m62
theorem ciX6 : CI 6 RX6 TX6 5 tyX6 := ⟨rfl, inW6, tyX6_ok, nmX6⟩
theorem inW7 : ∀ w ∈ u_ws RX7 TX7 11, w ∈ WL := by
  intro w hw
  obtain ⟨k, hk, rfl⟩ := List.mem_map.mp hw
  have hk2 := List.mem_range.mp hk
  rcases (show k = 0 ∨ k = 1 ∨ k = 2 ∨ k = 3 ∨ k = 4 ∨ k = 5 ∨ k = 6 ∨ k = 7 ∨ k = 8 ∨ k = 9 ∨ k = 10 by omega) with rfl | rfl | rfl | rfl | rfl | rfl | rfl | rfl | rfl | rfl | rfl
  · exact m250
  · exact m252
  · exact m254
  · exact m256
  · exact m258
  · exact m260
  · exact m262
  · exact m264
  · exact m266
  · exact m268
  · exact m270
theorem ciX7 : CI 7 RX7 TX7 11 tyX7 := ⟨rfl, inW7, tyX7_ok, nmX7⟩
theorem inW8 : ∀ w ∈ u_ws RX8 TX8 34, w ∈ WL := by
  intro w hw
  obtain ⟨k, hk, rfl⟩ := List.mem_map.mp hw
  have hk2 := List.mem_range.mp hk
  rcases (show k = 0 ∨ k = 1 ∨ k = 2 ∨ k = 3 ∨ k = 4 ∨ k = 5 ∨ k = 6 ∨ k = 7 ∨ k = 8 ∨ k = 9 ∨ k = 10 ∨ k = 11 ∨ k = 12 ∨ k = 13 ∨ k = 14 ∨ k = 15 ∨ k = 16 ∨ k = 17 ∨ k = 18 ∨ k = 19 ∨ k = 20 ∨ k = 21 ∨ k = 22 ∨ k = 23 ∨ k = 24 ∨ k = 25 ∨ k = 26 ∨ k = 27 ∨ k = 28 ∨ k = 29 ∨ k = 30 ∨ k = 31 ∨ k = 32 ∨ k = 33 by omega) with rfl | rfl | rfl | rfl | rfl | rfl | rfl | rfl | rfl | rfl | rfl | rfl | rfl | rfl | rfl | rfl | rfl | rfl | rfl | rfl | rfl | rfl | rfl | rfl | rfl | rfl | rfl | rfl | rfl | rfl | rfl | rfl | rfl | rfl
  · exact m927
  · exact m929
  · exact m931
  · exact m933
  · exact m935
  · exact m937
  · exact m939
  · exact m941
  · exact m943
  · exact m945
  · exact m947
  · exact m949
  · exact m951
  · exact m953
  · exact m955
  · exact m957
  · exact m959
  · exact m961
  · exact m963
  · exact m965
  · exact m967
  · exact m969
  · exact m971
  · exact m973
  · exact m975
  · exact m977
  · exact m979
  · exact m981
  · exact m983
  · exact m985
  · exact m987
  · exact m989
  · exact m991
  · exact m993
theorem ciX8 : CI 8 RX8 TX8 34 tyX8 := ⟨rfl, inW8, tyX8_ok, nmX8⟩
end
section
theorem dX7_withBit_0 : decode cX7_withBit 0 = .ok (.iload_n 0, 1) := by decide +kernel
theorem dX7_withBit_1 : decode cX7_withBit 1 = .ok (.iconst 1, 1) := by decide +kernel
theorem dX7_withBit_2 : decode cX7_withBit 2 = .ok (.iload_n 1, 1) := by decide +kernel
theorem dX7_withBit_3 : decode cX7_withBit 3 = .ok (.ishl, 1) := by decide +kernel
theorem dX7_withBit_4 : decode cX7_withBit 4 = .ok (.iconst (-1), 1) := by decide +kernel
theorem dX7_withBit_5 : decode cX7_withBit 5 = .ok (.ixor, 1) := by decide +kernel
theorem dX7_withBit_6 : decode cX7_withBit 6 = .ok (.iand, 1) := by decide +kernel
theorem dX7_withBit_7 : decode cX7_withBit 7 = .ok (.iload_n 2, 1) := by decide +kernel
theorem dX7_withBit_8 : decode cX7_withBit 8 = .ok (.iload_n 1, 1) := by decide +kernel
theorem dX7_withBit_9 : decode cX7_withBit 9 = .ok (.ishl, 1) := by decide +kernel
theorem dX7_withBit_10 : decode cX7_withBit 10 = .ok (.ior, 1) := by decide +kernel
theorem dX7_withBit_11 : decode cX7_withBit 11 = .ok (.ireturn, 1) := by decide +kernel
theorem ys_X7_withBit : YS yX7_withBit cX7_withBit 3 (some .int) 3 := ⟨m556, m1, m557, ⟨by decide +kernel, by decide +kernel, by decide +kernel⟩, by decide⟩
def f_X7_withBit (x0 : Int32) (x1 : Int32) (x2 : Int32) (h : AH) : Option (Int32 × AH) := some (((x0 &&& ((1 <<< (x1 &&& 31)) ^^^ (-1))) ||| (x2 <<< (x1 &&& 31))), h)
set_option maxRecDepth 20000 in
set_option maxHeartbeats 4000000 in
theorem ct_X7_withBit (l : Launch) (g : GC) (x0 : Int32) (x1 : Int32) (x2 : Int32) : Ct l yX7_withBit cX7_withBit 3 (some .int) 1 [.int x0, .int x1, .int x2] g mkI (fun h => f_X7_withBit x0 x1 x2 h) := by
  refine Ct.of (by decide +kernel) (Nat.le_of_ble_eq_true rfl) (fun z A h _ F => ?_)
  show Snd z 3 g A (QF z g A mkI) 0 [(0, .int x0), (1, .int x1), (2, .int x2)] [] h (f_X7_withBit x0 x1 x2 h)
  unfold f_X7_withBit
  refine s_iload_n F dX7_withBit_0 rfl 0 rfl ?_
  refine s_iconst F (v := 1) dX7_withBit_1 (by decide) ?_
  refine s_iload_n F dX7_withBit_2 rfl 1 rfl ?_
  refine s_ishl F dX7_withBit_3 ?_
  refine s_iconst F (v := (-1)) dX7_withBit_4 (by decide) ?_
  refine s_ixor F dX7_withBit_5 ?_
  refine s_iand F dX7_withBit_6 ?_
  refine s_iload_n F dX7_withBit_7 rfl 2 rfl ?_
  refine s_iload_n F dX7_withBit_8 rfl 1 rfl ?_
  refine s_ishl F dX7_withBit_9 ?_
  refine s_ior F dX7_withBit_10 ?_
  exact s_iret F dX7_withBit_11
theorem dJ7_fill_53178_0 : decode cJ7_fill_53178 0 = .ok (.iconst 0, 1) := by decide +kernel
theorem dJ7_fill_53178_1 : decode cJ7_fill_53178 1 = .ok (.istore_n 2, 1) := by decide +kernel
theorem dJ7_fill_53178_2 : decode cJ7_fill_53178 2 = .ok (.aload_n 0, 1) := by decide +kernel
theorem dJ7_fill_53178_3 : decode cJ7_fill_53178 3 = .ok (.arraylength, 1) := by decide +kernel
theorem dJ7_fill_53178_4 : decode cJ7_fill_53178 4 = .ok (.istore_n 3, 1) := by decide +kernel
theorem dJ7_fill_53178_5 : decode cJ7_fill_53178 5 = .ok (.iload_n 2, 1) := by decide +kernel
theorem dJ7_fill_53178_6 : decode cJ7_fill_53178 6 = .ok (.iload_n 3, 1) := by decide +kernel
theorem dJ7_fill_53178_7 : decode cJ7_fill_53178 7 = .ok (.if_icmp .ge 13, 3) := by decide +kernel
theorem dJ7_fill_53178_10 : decode cJ7_fill_53178 10 = .ok (.aload_n 0, 1) := by decide +kernel
theorem dJ7_fill_53178_11 : decode cJ7_fill_53178 11 = .ok (.iload_n 2, 1) := by decide +kernel
theorem dJ7_fill_53178_12 : decode cJ7_fill_53178 12 = .ok (.iload_n 1, 1) := by decide +kernel
theorem dJ7_fill_53178_13 : decode cJ7_fill_53178 13 = .ok (.iastore, 1) := by decide +kernel
theorem dJ7_fill_53178_14 : decode cJ7_fill_53178 14 = .ok (.iinc 2 1, 3) := by decide +kernel
theorem dJ7_fill_53178_17 : decode cJ7_fill_53178 17 = .ok (.goto (-12), 3) := by decide +kernel
theorem dJ7_fill_53178_20 : decode cJ7_fill_53178 20 = .ok (.return_, 1) := by decide +kernel
theorem ys_J7_fill_53178 : YS yJ7_fill_53178 cJ7_fill_53178 4 none 2 := ⟨m362, m11, m363, ⟨by decide +kernel, by decide +kernel, by decide +kernel⟩, by decide⟩
def f_J7_fill_53178_5 (r0 n0 : Nat) : Nat → Int32 → Int32 → Int32 → AH → Option (Unit × AH)
  | 0, _, _, _, _ => none
  | n + 1, x1, x2, x3, h => if x3 ≤ x2 then (some ((), h)) else (ck x2 n0 (lt (hset h r0 (x2 : Int32).toNatClampNeg x1) (fun h_1 => lt (x2 + 1) (fun v_2 => (f_J7_fill_53178_5 r0 n0 n) x1 v_2 x3 h_1))))
set_option maxRecDepth 20000 in
set_option maxHeartbeats 4000000 in
theorem t_J7_fill_53178_5 {z : MC} {g : GC} {A : Nat → Prop} (F : Fx z cJ7_fill_53178 4 RJ7 none 1 g A) {r0 n0 : Nat} (hr0 : (gL g)[r0]? = some (.inr (0, n0))) : ∀ (n : Nat) (x1 : Int32) (x2 : Int32) (x3 : Int32) (h : AH), Snd z 4 g A (QF z g A mkU) 5 [(0, .ref (gad g r0)), (1, .int x1), (2, .int x2), (3, .int x3)] [] h (f_J7_fill_53178_5 r0 n0 n x1 x2 x3 h) := by
  intro n
  induction n with
  | zero => intros; exact s_none
  | succ n ih =>
    intro x1 x2 x3 h
    unfold f_J7_fill_53178_5
    refine s_iload_n F dJ7_fill_53178_5 rfl 2 rfl ?_
    refine s_iload_n F dJ7_fill_53178_6 rfl 3 rfl ?_
    refine s_icmp_ge F 20 dJ7_fill_53178_7 (by decide) (fun _ => ?_) (fun _ => ?_)
    · exact s_vret F dJ7_fill_53178_20
    · refine s_aload_n F dJ7_fill_53178_10 rfl 0 rfl ?_
      refine s_iload_n F dJ7_fill_53178_11 rfl 2 rfl ?_
      refine s_iload_n F dJ7_fill_53178_12 rfl 1 rfl ?_
      refine s_iast F hr0 dJ7_fill_53178_13 ?_
      refine s_letH (fun h_1 => ?_)
      refine s_iincv F dJ7_fill_53178_14 2 rfl (by decide) (c := 1) (by decide) (fun v_2 => ?_)
      refine s_lv (lv' := [(2, .int v_2), (0, .ref (gad g r0)), (1, .int x1), (3, .int x3)]) rfl ?_
      refine s_goto F 5 dJ7_fill_53178_17 (by decide) ?_
      exact s_sub [1, 2, 0, 3] rfl (ih x1 v_2 x3 h_1)
def f_J7_fill_53178 (r0 n0 : Nat) (x1 : Int32) (h : AH) : Option (Unit × AH) := lt (Int32.ofNat n0) (fun v_1 => f_J7_fill_53178_5 r0 n0 fu x1 0 v_1 h)
set_option maxRecDepth 20000 in
set_option maxHeartbeats 4000000 in
theorem ct_J7_fill_53178 (l : Launch) (g : GC) {r0 n0 : Nat} (hr0 : (gL g)[r0]? = some (.inr (0, n0))) (x1 : Int32) : Ct l yJ7_fill_53178 cJ7_fill_53178 4 none 1 [.ref (gad g r0), .int x1] g mkU (fun h => f_J7_fill_53178 r0 n0 x1 h) := by
  refine Ct.of (by decide +kernel) (Nat.le_of_ble_eq_true rfl) (fun z A h _ F => ?_)
  show Snd z 4 g A (QF z g A mkU) 0 [(0, .ref (gad g r0)), (1, .int x1)] [] h (f_J7_fill_53178 r0 n0 x1 h)
  unfold f_J7_fill_53178
  refine s_iconst F (v := 0) dJ7_fill_53178_0 (by decide) ?_
  refine s_istore_n F (lv' := [(2, .int 0), (0, .ref (gad g r0)), (1, .int x1)]) dJ7_fill_53178_1 rfl (by decide) rfl ?_
  refine s_aload_n F dJ7_fill_53178_2 rfl 1 rfl ?_
  refine s_alen F (v := Int32.ofNat n0) hr0 rfl dJ7_fill_53178_3 ?_
  refine s_leti (fun v_1 => ?_)
  refine s_istore_n F (lv' := [(3, .int v_1), (2, .int 0), (0, .ref (gad g r0)), (1, .int x1)]) dJ7_fill_53178_4 rfl (by decide) rfl ?_
  exact s_sub [2, 3, 1, 0] rfl (t_J7_fill_53178_5 F hr0 fu x1 0 v_1 h)
theorem dX7_bitOf_0 : decode cX7_bitOf 0 = .ok (.iload_n 0, 1) := by decide +kernel
theorem dX7_bitOf_1 : decode cX7_bitOf 1 = .ok (.iload_n 1, 1) := by decide +kernel
theorem dX7_bitOf_2 : decode cX7_bitOf 2 = .ok (.ishr, 1) := by decide +kernel
theorem dX7_bitOf_3 : decode cX7_bitOf 3 = .ok (.iconst 1, 1) := by decide +kernel
theorem dX7_bitOf_4 : decode cX7_bitOf 4 = .ok (.iand, 1) := by decide +kernel
theorem dX7_bitOf_5 : decode cX7_bitOf 5 = .ok (.ireturn, 1) := by decide +kernel
theorem ys_X7_bitOf : YS yX7_bitOf cX7_bitOf 2 (some .int) 2 := ⟨m553, m1, m554, ⟨by decide +kernel, by decide +kernel, by decide +kernel⟩, by decide⟩
def f_X7_bitOf (x0 : Int32) (x1 : Int32) (h : AH) : Option (Int32 × AH) := some (((x0 >>> (x1 &&& 31)) &&& 1), h)
set_option maxRecDepth 20000 in
set_option maxHeartbeats 4000000 in
theorem ct_X7_bitOf (l : Launch) (g : GC) (x0 : Int32) (x1 : Int32) : Ct l yX7_bitOf cX7_bitOf 2 (some .int) 1 [.int x0, .int x1] g mkI (fun h => f_X7_bitOf x0 x1 h) := by
  refine Ct.of (by decide +kernel) (Nat.le_of_ble_eq_true rfl) (fun z A h _ F => ?_)
  show Snd z 2 g A (QF z g A mkI) 0 [(0, .int x0), (1, .int x1)] [] h (f_X7_bitOf x0 x1 h)
  unfold f_X7_bitOf
  refine s_iload_n F dX7_bitOf_0 rfl 0 rfl ?_
  refine s_iload_n F dX7_bitOf_1 rfl 1 rfl ?_
  refine s_ishr F dX7_bitOf_2 ?_
  refine s_iconst F (v := 1) dX7_bitOf_3 (by decide) ?_
  refine s_iand F dX7_bitOf_4 ?_
  exact s_iret F dX7_bitOf_5
theorem dJ6_bitCount_0f7a4_0 : decode cJ6_bitCount_0f7a4 0 = .ok (.iload_n 0, 1) := by decide +kernel
theorem dJ6_bitCount_0f7a4_1 : decode cJ6_bitCount_0f7a4 1 = .ok (.iload_n 0, 1) := by decide +kernel
theorem dJ6_bitCount_0f7a4_2 : decode cJ6_bitCount_0f7a4 2 = .ok (.iconst 1, 1) := by decide +kernel
theorem dJ6_bitCount_0f7a4_3 : decode cJ6_bitCount_0f7a4 3 = .ok (.iushr, 1) := by decide +kernel
theorem dJ6_bitCount_0f7a4_4 : decode cJ6_bitCount_0f7a4 4 = .ok (.ldc_w 265, 3) := by decide +kernel
theorem dJ6_bitCount_0f7a4_7 : decode cJ6_bitCount_0f7a4 7 = .ok (.iand, 1) := by decide +kernel
theorem dJ6_bitCount_0f7a4_8 : decode cJ6_bitCount_0f7a4 8 = .ok (.isub, 1) := by decide +kernel
theorem dJ6_bitCount_0f7a4_9 : decode cJ6_bitCount_0f7a4 9 = .ok (.istore_n 0, 1) := by decide +kernel
theorem dJ6_bitCount_0f7a4_10 : decode cJ6_bitCount_0f7a4 10 = .ok (.iload_n 0, 1) := by decide +kernel
theorem dJ6_bitCount_0f7a4_11 : decode cJ6_bitCount_0f7a4 11 = .ok (.ldc_w 266, 3) := by decide +kernel
theorem dJ6_bitCount_0f7a4_14 : decode cJ6_bitCount_0f7a4 14 = .ok (.iand, 1) := by decide +kernel
theorem dJ6_bitCount_0f7a4_15 : decode cJ6_bitCount_0f7a4 15 = .ok (.iload_n 0, 1) := by decide +kernel
theorem dJ6_bitCount_0f7a4_16 : decode cJ6_bitCount_0f7a4 16 = .ok (.iconst 2, 1) := by decide +kernel
theorem dJ6_bitCount_0f7a4_17 : decode cJ6_bitCount_0f7a4 17 = .ok (.iushr, 1) := by decide +kernel
theorem dJ6_bitCount_0f7a4_18 : decode cJ6_bitCount_0f7a4 18 = .ok (.ldc_w 266, 3) := by decide +kernel
theorem dJ6_bitCount_0f7a4_21 : decode cJ6_bitCount_0f7a4 21 = .ok (.iand, 1) := by decide +kernel
theorem dJ6_bitCount_0f7a4_22 : decode cJ6_bitCount_0f7a4 22 = .ok (.iadd, 1) := by decide +kernel
theorem dJ6_bitCount_0f7a4_23 : decode cJ6_bitCount_0f7a4 23 = .ok (.istore_n 0, 1) := by decide +kernel
theorem dJ6_bitCount_0f7a4_24 : decode cJ6_bitCount_0f7a4 24 = .ok (.iload_n 0, 1) := by decide +kernel
theorem dJ6_bitCount_0f7a4_25 : decode cJ6_bitCount_0f7a4 25 = .ok (.iload_n 0, 1) := by decide +kernel
theorem dJ6_bitCount_0f7a4_26 : decode cJ6_bitCount_0f7a4 26 = .ok (.iconst 4, 1) := by decide +kernel
theorem dJ6_bitCount_0f7a4_27 : decode cJ6_bitCount_0f7a4 27 = .ok (.iushr, 1) := by decide +kernel
theorem dJ6_bitCount_0f7a4_28 : decode cJ6_bitCount_0f7a4 28 = .ok (.iadd, 1) := by decide +kernel
theorem dJ6_bitCount_0f7a4_29 : decode cJ6_bitCount_0f7a4 29 = .ok (.ldc_w 267, 3) := by decide +kernel
theorem dJ6_bitCount_0f7a4_32 : decode cJ6_bitCount_0f7a4 32 = .ok (.iand, 1) := by decide +kernel
theorem dJ6_bitCount_0f7a4_33 : decode cJ6_bitCount_0f7a4 33 = .ok (.istore_n 0, 1) := by decide +kernel
theorem dJ6_bitCount_0f7a4_34 : decode cJ6_bitCount_0f7a4 34 = .ok (.iload_n 0, 1) := by decide +kernel
theorem dJ6_bitCount_0f7a4_35 : decode cJ6_bitCount_0f7a4 35 = .ok (.iload_n 0, 1) := by decide +kernel
theorem dJ6_bitCount_0f7a4_36 : decode cJ6_bitCount_0f7a4 36 = .ok (.bipush 8, 2) := by decide +kernel
theorem dJ6_bitCount_0f7a4_38 : decode cJ6_bitCount_0f7a4 38 = .ok (.iushr, 1) := by decide +kernel
theorem dJ6_bitCount_0f7a4_39 : decode cJ6_bitCount_0f7a4 39 = .ok (.iadd, 1) := by decide +kernel
theorem dJ6_bitCount_0f7a4_40 : decode cJ6_bitCount_0f7a4 40 = .ok (.istore_n 0, 1) := by decide +kernel
theorem dJ6_bitCount_0f7a4_41 : decode cJ6_bitCount_0f7a4 41 = .ok (.iload_n 0, 1) := by decide +kernel
theorem dJ6_bitCount_0f7a4_42 : decode cJ6_bitCount_0f7a4 42 = .ok (.iload_n 0, 1) := by decide +kernel
theorem dJ6_bitCount_0f7a4_43 : decode cJ6_bitCount_0f7a4 43 = .ok (.bipush 16, 2) := by decide +kernel
theorem dJ6_bitCount_0f7a4_45 : decode cJ6_bitCount_0f7a4 45 = .ok (.iushr, 1) := by decide +kernel
theorem dJ6_bitCount_0f7a4_46 : decode cJ6_bitCount_0f7a4 46 = .ok (.iadd, 1) := by decide +kernel
theorem dJ6_bitCount_0f7a4_47 : decode cJ6_bitCount_0f7a4 47 = .ok (.istore_n 0, 1) := by decide +kernel
theorem dJ6_bitCount_0f7a4_48 : decode cJ6_bitCount_0f7a4 48 = .ok (.iload_n 0, 1) := by decide +kernel
theorem dJ6_bitCount_0f7a4_49 : decode cJ6_bitCount_0f7a4 49 = .ok (.bipush 63, 2) := by decide +kernel
theorem dJ6_bitCount_0f7a4_51 : decode cJ6_bitCount_0f7a4 51 = .ok (.iand, 1) := by decide +kernel
theorem dJ6_bitCount_0f7a4_52 : decode cJ6_bitCount_0f7a4 52 = .ok (.ireturn, 1) := by decide +kernel
theorem ys_J6_bitCount_0f7a4 : YS yJ6_bitCount_0f7a4 cJ6_bitCount_0f7a4 1 (some .int) 1 := ⟨m598, m16, m599, ⟨by decide +kernel, by decide +kernel, by decide +kernel⟩, by decide⟩
def f_J6_bitCount_0f7a4 (x0 : Int32) (h : AH) : Option (Int32 × AH) := lt ((x0 - ((((x0 : Int32).toUInt32 >>> ((1 : Int32).toUInt32 &&& Int32.toUInt32 31)).toInt32) &&& 1431655765))) (fun v_1 => lt (((v_1 &&& 858993459) + ((((v_1 : Int32).toUInt32 >>> ((2 : Int32).toUInt32 &&& Int32.toUInt32 31)).toInt32) &&& 858993459))) (fun v_2 => lt (((v_2 + (((v_2 : Int32).toUInt32 >>> ((4 : Int32).toUInt32 &&& Int32.toUInt32 31)).toInt32)) &&& 252645135)) (fun v_3 => lt ((v_3 + (((v_3 : Int32).toUInt32 >>> ((8 : Int32).toUInt32 &&& Int32.toUInt32 31)).toInt32))) (fun v_4 => lt ((v_4 + (((v_4 : Int32).toUInt32 >>> ((16 : Int32).toUInt32 &&& Int32.toUInt32 31)).toInt32))) (fun v_5 => some ((v_5 &&& 63), h))))))
set_option maxRecDepth 20000 in
set_option maxHeartbeats 4000000 in
theorem ct_J6_bitCount_0f7a4 (l : Launch) (g : GC) (x0 : Int32) : Ct l yJ6_bitCount_0f7a4 cJ6_bitCount_0f7a4 1 (some .int) 1 [.int x0] g mkI (fun h => f_J6_bitCount_0f7a4 x0 h) := by
  refine Ct.of (by decide +kernel) (Nat.le_of_ble_eq_true rfl) (fun z A h _ F => ?_)
  show Snd z 1 g A (QF z g A mkI) 0 [(0, .int x0)] [] h (f_J6_bitCount_0f7a4 x0 h)
  unfold f_J6_bitCount_0f7a4
  refine s_iload_n F dJ6_bitCount_0f7a4_0 rfl 0 rfl ?_
  refine s_iload_n F dJ6_bitCount_0f7a4_1 rfl 0 rfl ?_
  refine s_iconst F (v := 1) dJ6_bitCount_0f7a4_2 (by decide) ?_
  refine s_iushr F dJ6_bitCount_0f7a4_3 ?_
  refine s_ldcw F (v := 1431655765) dJ6_bitCount_0f7a4_4 m600 ?_
  refine s_iand F dJ6_bitCount_0f7a4_7 ?_
  refine s_isub F dJ6_bitCount_0f7a4_8 ?_
  refine s_leti (fun v_1 => ?_)
  refine s_istore_n F (lv' := [(0, .int v_1)]) dJ6_bitCount_0f7a4_9 rfl (by decide) rfl ?_
  refine s_iload_n F dJ6_bitCount_0f7a4_10 rfl 0 rfl ?_
  refine s_ldcw F (v := 858993459) dJ6_bitCount_0f7a4_11 m601 ?_
  refine s_iand F dJ6_bitCount_0f7a4_14 ?_
  refine s_iload_n F dJ6_bitCount_0f7a4_15 rfl 0 rfl ?_
  refine s_iconst F (v := 2) dJ6_bitCount_0f7a4_16 (by decide) ?_
  refine s_iushr F dJ6_bitCount_0f7a4_17 ?_
  refine s_ldcw F (v := 858993459) dJ6_bitCount_0f7a4_18 m601 ?_
  refine s_iand F dJ6_bitCount_0f7a4_21 ?_
  refine s_iadd F dJ6_bitCount_0f7a4_22 ?_
  refine s_leti (fun v_2 => ?_)
  refine s_istore_n F (lv' := [(0, .int v_2)]) dJ6_bitCount_0f7a4_23 rfl (by decide) rfl ?_
  refine s_iload_n F dJ6_bitCount_0f7a4_24 rfl 0 rfl ?_
  refine s_iload_n F dJ6_bitCount_0f7a4_25 rfl 0 rfl ?_
  refine s_iconst F (v := 4) dJ6_bitCount_0f7a4_26 (by decide) ?_
  refine s_iushr F dJ6_bitCount_0f7a4_27 ?_
  refine s_iadd F dJ6_bitCount_0f7a4_28 ?_
  refine s_ldcw F (v := 252645135) dJ6_bitCount_0f7a4_29 m602 ?_
  refine s_iand F dJ6_bitCount_0f7a4_32 ?_
  refine s_leti (fun v_3 => ?_)
  refine s_istore_n F (lv' := [(0, .int v_3)]) dJ6_bitCount_0f7a4_33 rfl (by decide) rfl ?_
  refine s_iload_n F dJ6_bitCount_0f7a4_34 rfl 0 rfl ?_
  refine s_iload_n F dJ6_bitCount_0f7a4_35 rfl 0 rfl ?_
  refine s_bipush F (v := 8) dJ6_bitCount_0f7a4_36 (by decide) ?_
  refine s_iushr F dJ6_bitCount_0f7a4_38 ?_
  refine s_iadd F dJ6_bitCount_0f7a4_39 ?_
  refine s_leti (fun v_4 => ?_)
  refine s_istore_n F (lv' := [(0, .int v_4)]) dJ6_bitCount_0f7a4_40 rfl (by decide) rfl ?_
  refine s_iload_n F dJ6_bitCount_0f7a4_41 rfl 0 rfl ?_
  refine s_iload_n F dJ6_bitCount_0f7a4_42 rfl 0 rfl ?_
  refine s_bipush F (v := 16) dJ6_bitCount_0f7a4_43 (by decide) ?_
  refine s_iushr F dJ6_bitCount_0f7a4_45 ?_
  refine s_iadd F dJ6_bitCount_0f7a4_46 ?_
  refine s_leti (fun v_5 => ?_)
  refine s_istore_n F (lv' := [(0, .int v_5)]) dJ6_bitCount_0f7a4_47 rfl (by decide) rfl ?_
  refine s_iload_n F dJ6_bitCount_0f7a4_48 rfl 0 rfl ?_
  refine s_bipush F (v := 63) dJ6_bitCount_0f7a4_49 (by decide) ?_
  refine s_iand F dJ6_bitCount_0f7a4_51 ?_
  exact s_iret F dJ6_bitCount_0f7a4_52
theorem dX5_isRow_0 : decode cX5_isRow 0 = .ok (.iload_n 0, 1) := by decide +kernel
theorem dX5_isRow_1 : decode cX5_isRow 1 = .ok (.ifCond .lt 13, 3) := by decide +kernel
theorem dX5_isRow_4 : decode cX5_isRow 4 = .ok (.iload_n 0, 1) := by decide +kernel
theorem dX5_isRow_5 : decode cX5_isRow 5 = .ok (.bipush 8, 2) := by decide +kernel
theorem dX5_isRow_7 : decode cX5_isRow 7 = .ok (.if_icmp .ge 7, 3) := by decide +kernel
theorem dX5_isRow_10 : decode cX5_isRow 10 = .ok (.iconst 1, 1) := by decide +kernel
theorem dX5_isRow_11 : decode cX5_isRow 11 = .ok (.goto 4, 3) := by decide +kernel
theorem dX5_isRow_14 : decode cX5_isRow 14 = .ok (.iconst 0, 1) := by decide +kernel
theorem dX5_isRow_15 : decode cX5_isRow 15 = .ok (.ireturn, 1) := by decide +kernel
theorem ys_X5_isRow : YS yX5_isRow cX5_isRow 1 (some .boolean) 1 := ⟨m278, m2, m279, ⟨by decide +kernel, by decide +kernel, by decide +kernel⟩, by decide⟩
def f_X5_isRow (x0 : Int32) (h : AH) : Option (Int32 × AH) := if x0 < 0 then (some (0, h)) else (if (8 : Int32) ≤ x0 then (some (0, h)) else (some (1, h)))
set_option maxRecDepth 20000 in
set_option maxHeartbeats 4000000 in
theorem ct_X5_isRow (l : Launch) (g : GC) (x0 : Int32) : Ct l yX5_isRow cX5_isRow 1 (some .boolean) 1 [.int x0] g mkI (fun h => f_X5_isRow x0 h) := by
  refine Ct.of (by decide +kernel) (Nat.le_of_ble_eq_true rfl) (fun z A h _ F => ?_)
  show Snd z 1 g A (QF z g A mkI) 0 [(0, .int x0)] [] h (f_X5_isRow x0 h)
  unfold f_X5_isRow
  refine s_iload_n F dX5_isRow_0 rfl 0 rfl ?_
  refine s_if_lt F 14 dX5_isRow_1 (by decide) (fun _ => ?_) (fun _ => ?_)
  · refine s_iconst F (v := 0) dX5_isRow_14 (by decide) ?_
    exact s_zret1 F (by decide) dX5_isRow_15
  · refine s_iload_n F dX5_isRow_4 rfl 0 rfl ?_
    refine s_bipush F (v := 8) dX5_isRow_5 (by decide) ?_
    refine s_icmp_ge F 14 dX5_isRow_7 (by decide) (fun _ => ?_) (fun _ => ?_)
    · refine s_iconst F (v := 0) dX5_isRow_14 (by decide) ?_
      exact s_zret1 F (by decide) dX5_isRow_15
    · refine s_iconst F (v := 1) dX5_isRow_10 (by decide) ?_
      refine s_goto F 15 dX5_isRow_11 (by decide) ?_
      exact s_zret1 F (by decide) dX5_isRow_15
theorem dX5_isMissing_0 : decode cX5_isMissing 0 = .ok (.aload_n 0, 1) := by decide +kernel
theorem dX5_isMissing_1 : decode cX5_isMissing 1 = .ok (.getfield 13, 3) := by decide +kernel
theorem dX5_isMissing_4 : decode cX5_isMissing 4 = .ok (.iload_n 1, 1) := by decide +kernel
theorem dX5_isMissing_5 : decode cX5_isMissing 5 = .ok (.iaload, 1) := by decide +kernel
theorem dX5_isMissing_6 : decode cX5_isMissing 6 = .ok (.iconst (-1), 1) := by decide +kernel
theorem dX5_isMissing_7 : decode cX5_isMissing 7 = .ok (.if_icmp .ne 7, 3) := by decide +kernel
theorem dX5_isMissing_10 : decode cX5_isMissing 10 = .ok (.iconst 1, 1) := by decide +kernel
theorem dX5_isMissing_11 : decode cX5_isMissing 11 = .ok (.goto 4, 3) := by decide +kernel
theorem dX5_isMissing_14 : decode cX5_isMissing 14 = .ok (.iconst 0, 1) := by decide +kernel
theorem dX5_isMissing_15 : decode cX5_isMissing 15 = .ok (.ireturn, 1) := by decide +kernel
theorem yv_X5_isMissing : YV yX5_isMissing cX5_isMissing 2 (some .boolean) 1 := ⟨m299, m300, m2, m301, ⟨by decide +kernel, by decide +kernel, by decide +kernel⟩, by decide⟩
def f_X5_isMissing (q : Nat) (x1 : Int32) (h : AH) : Option (Int32 × AH) := ck x1 8 (if (h (q + 2) (x1 : Int32).toNatClampNeg) = (-1) then (some (1, h)) else (some (0, h)))
set_option maxRecDepth 20000 in
set_option maxHeartbeats 4000000 in
theorem ct_X5_isMissing (l : Launch) (g : GC) {q : Nat} (hq : (gL g)[q]? = some (.inl 5)) (x1 : Int32) : Ct l yX5_isMissing cX5_isMissing 2 (some .boolean) 1 [.ref (gad g q), .int x1] g mkI (fun h => f_X5_isMissing q x1 h) := by
  refine Ct.of (by decide +kernel) (Nat.le_of_ble_eq_true rfl) (fun z A h _ F => ?_)
  show Snd z 2 g A (QF z g A mkI) 0 [(0, .ref (gad g q)), (1, .int x1)] [] h (f_X5_isMissing q x1 h)
  unfold f_X5_isMissing
  refine s_aload_n F dX5_isMissing_0 rfl 0 rfl ?_
  have hw_1 := wf_ref F.2.2.2.2.2.2.1 hq 1 2 (.inr (0, 8)) rfl
  refine s_getr F ciX5 1 2 (.inr (0, 8)) hq (by decide) rfl rfl m33 dX5_isMissing_1 ?_
  refine s_iload_n F dX5_isMissing_4 rfl 1 rfl ?_
  refine s_iald F hw_1 dX5_isMissing_5 ?_
  refine s_iconst F (v := (-1)) dX5_isMissing_6 (by decide) ?_
  refine s_icmp_ne F 14 dX5_isMissing_7 (by decide) (fun _ => ?_) (fun _ => ?_)
  · refine s_iconst F (v := 0) dX5_isMissing_14 (by decide) ?_
    exact s_zret1 F (by decide) dX5_isMissing_15
  · refine s_iconst F (v := 1) dX5_isMissing_10 (by decide) ?_
    refine s_goto F 15 dX5_isMissing_11 (by decide) ?_
    exact s_zret1 F (by decide) dX5_isMissing_15
theorem dX5_laneOf_0 : decode cX5_laneOf 0 = .ok (.aload_n 0, 1) := by decide +kernel
theorem dX5_laneOf_1 : decode cX5_laneOf 1 = .ok (.getfield 9, 3) := by decide +kernel
theorem dX5_laneOf_4 : decode cX5_laneOf 4 = .ok (.iload_n 1, 1) := by decide +kernel
theorem dX5_laneOf_5 : decode cX5_laneOf 5 = .ok (.iaload, 1) := by decide +kernel
theorem dX5_laneOf_6 : decode cX5_laneOf 6 = .ok (.ireturn, 1) := by decide +kernel
theorem yv_X5_laneOf : YV yX5_laneOf cX5_laneOf 2 (some .int) 1 := ⟨m318, m319, m2, m320, ⟨by decide +kernel, by decide +kernel, by decide +kernel⟩, by decide⟩
def f_X5_laneOf (q : Nat) (x1 : Int32) (h : AH) : Option (Int32 × AH) := ck x1 8 (some (h (q + 1) (x1 : Int32).toNatClampNeg, h))
set_option maxRecDepth 20000 in
set_option maxHeartbeats 4000000 in
theorem ct_X5_laneOf (l : Launch) (g : GC) {q : Nat} (hq : (gL g)[q]? = some (.inl 5)) (x1 : Int32) : Ct l yX5_laneOf cX5_laneOf 2 (some .int) 1 [.ref (gad g q), .int x1] g mkI (fun h => f_X5_laneOf q x1 h) := by
  refine Ct.of (by decide +kernel) (Nat.le_of_ble_eq_true rfl) (fun z A h _ F => ?_)
  show Snd z 2 g A (QF z g A mkI) 0 [(0, .ref (gad g q)), (1, .int x1)] [] h (f_X5_laneOf q x1 h)
  unfold f_X5_laneOf
  refine s_aload_n F dX5_laneOf_0 rfl 0 rfl ?_
  have hw_1 := wf_ref F.2.2.2.2.2.2.1 hq 0 1 (.inr (0, 8)) rfl
  refine s_getr F ciX5 0 1 (.inr (0, 8)) hq (by decide) rfl rfl m32 dX5_laneOf_1 ?_
  refine s_iload_n F dX5_laneOf_4 rfl 1 rfl ?_
  refine s_iald F hw_1 dX5_laneOf_5 ?_
  exact s_iret F dX5_laneOf_6
theorem dX5_hasPlaces_0 : decode cX5_hasPlaces 0 = .ok (.iload_n 2, 1) := by decide +kernel
theorem dX5_hasPlaces_1 : decode cX5_hasPlaces 1 = .ok (.ifCond .lt 33, 3) := by decide +kernel
theorem dX5_hasPlaces_4 : decode cX5_hasPlaces 4 = .ok (.iload_n 3, 1) := by decide +kernel
theorem dX5_hasPlaces_5 : decode cX5_hasPlaces 5 = .ok (.ifCond .lt 29, 3) := by decide +kernel
theorem dX5_hasPlaces_8 : decode cX5_hasPlaces 8 = .ok (.iload_n 2, 1) := by decide +kernel
theorem dX5_hasPlaces_9 : decode cX5_hasPlaces 9 = .ok (.aload_n 0, 1) := by decide +kernel
theorem dX5_hasPlaces_10 : decode cX5_hasPlaces 10 = .ok (.getfield 13, 3) := by decide +kernel
theorem dX5_hasPlaces_13 : decode cX5_hasPlaces 13 = .ok (.iload_n 1, 1) := by decide +kernel
theorem dX5_hasPlaces_14 : decode cX5_hasPlaces 14 = .ok (.iaload, 1) := by decide +kernel
theorem dX5_hasPlaces_15 : decode cX5_hasPlaces 15 = .ok (.if_icmp .gt 19, 3) := by decide +kernel
theorem dX5_hasPlaces_18 : decode cX5_hasPlaces 18 = .ok (.iload_n 3, 1) := by decide +kernel
theorem dX5_hasPlaces_19 : decode cX5_hasPlaces 19 = .ok (.aload_n 0, 1) := by decide +kernel
theorem dX5_hasPlaces_20 : decode cX5_hasPlaces 20 = .ok (.getfield 13, 3) := by decide +kernel
theorem dX5_hasPlaces_23 : decode cX5_hasPlaces 23 = .ok (.iload_n 1, 1) := by decide +kernel
theorem dX5_hasPlaces_24 : decode cX5_hasPlaces 24 = .ok (.iaload, 1) := by decide +kernel
theorem dX5_hasPlaces_25 : decode cX5_hasPlaces 25 = .ok (.iload_n 2, 1) := by decide +kernel
theorem dX5_hasPlaces_26 : decode cX5_hasPlaces 26 = .ok (.isub, 1) := by decide +kernel
theorem dX5_hasPlaces_27 : decode cX5_hasPlaces 27 = .ok (.if_icmp .gt 7, 3) := by decide +kernel
theorem dX5_hasPlaces_30 : decode cX5_hasPlaces 30 = .ok (.iconst 1, 1) := by decide +kernel
theorem dX5_hasPlaces_31 : decode cX5_hasPlaces 31 = .ok (.goto 4, 3) := by decide +kernel
theorem dX5_hasPlaces_34 : decode cX5_hasPlaces 34 = .ok (.iconst 0, 1) := by decide +kernel
theorem dX5_hasPlaces_35 : decode cX5_hasPlaces 35 = .ok (.ireturn, 1) := by decide +kernel
theorem yv_X5_hasPlaces : YV yX5_hasPlaces cX5_hasPlaces 4 (some .boolean) 3 := ⟨m303, m304, m2, m305, ⟨by decide +kernel, by decide +kernel, by decide +kernel⟩, by decide⟩
def f_X5_hasPlaces (q : Nat) (x1 : Int32) (x2 : Int32) (x3 : Int32) (h : AH) : Option (Int32 × AH) := if x2 < 0 then (some (0, h)) else (if x3 < 0 then (some (0, h)) else (ck x1 8 (if (h (q + 2) (x1 : Int32).toNatClampNeg) < x2 then (some (0, h)) else (ck x1 8 (if ((h (q + 2) (x1 : Int32).toNatClampNeg) - x2) < x3 then (some (0, h)) else (some (1, h)))))))
set_option maxRecDepth 20000 in
set_option maxHeartbeats 4000000 in
theorem ct_X5_hasPlaces (l : Launch) (g : GC) {q : Nat} (hq : (gL g)[q]? = some (.inl 5)) (x1 : Int32) (x2 : Int32) (x3 : Int32) : Ct l yX5_hasPlaces cX5_hasPlaces 4 (some .boolean) 1 [.ref (gad g q), .int x1, .int x2, .int x3] g mkI (fun h => f_X5_hasPlaces q x1 x2 x3 h) := by
  refine Ct.of (by decide +kernel) (Nat.le_of_ble_eq_true rfl) (fun z A h _ F => ?_)
  show Snd z 4 g A (QF z g A mkI) 0 [(0, .ref (gad g q)), (1, .int x1), (2, .int x2), (3, .int x3)] [] h (f_X5_hasPlaces q x1 x2 x3 h)
  unfold f_X5_hasPlaces
  refine s_iload_n F dX5_hasPlaces_0 rfl 2 rfl ?_
  refine s_if_lt F 34 dX5_hasPlaces_1 (by decide) (fun _ => ?_) (fun _ => ?_)
  · refine s_iconst F (v := 0) dX5_hasPlaces_34 (by decide) ?_
    exact s_zret1 F (by decide) dX5_hasPlaces_35
  · refine s_iload_n F dX5_hasPlaces_4 rfl 3 rfl ?_
    refine s_if_lt F 34 dX5_hasPlaces_5 (by decide) (fun _ => ?_) (fun _ => ?_)
    · refine s_iconst F (v := 0) dX5_hasPlaces_34 (by decide) ?_
      exact s_zret1 F (by decide) dX5_hasPlaces_35
    · refine s_iload_n F dX5_hasPlaces_8 rfl 2 rfl ?_
      refine s_aload_n F dX5_hasPlaces_9 rfl 0 rfl ?_
      have hw_1 := wf_ref F.2.2.2.2.2.2.1 hq 1 2 (.inr (0, 8)) rfl
      refine s_getr F ciX5 1 2 (.inr (0, 8)) hq (by decide) rfl rfl m33 dX5_hasPlaces_10 ?_
      refine s_iload_n F dX5_hasPlaces_13 rfl 1 rfl ?_
      refine s_iald F hw_1 dX5_hasPlaces_14 ?_
      refine s_icmp_gt F 34 dX5_hasPlaces_15 (by decide) (fun _ => ?_) (fun _ => ?_)
      · refine s_iconst F (v := 0) dX5_hasPlaces_34 (by decide) ?_
        exact s_zret1 F (by decide) dX5_hasPlaces_35
      · refine s_iload_n F dX5_hasPlaces_18 rfl 3 rfl ?_
        refine s_aload_n F dX5_hasPlaces_19 rfl 0 rfl ?_
        have hw_2 := wf_ref F.2.2.2.2.2.2.1 hq 1 2 (.inr (0, 8)) rfl
        refine s_getr F ciX5 1 2 (.inr (0, 8)) hq (by decide) rfl rfl m33 dX5_hasPlaces_20 ?_
        refine s_iload_n F dX5_hasPlaces_23 rfl 1 rfl ?_
        refine s_iald F hw_2 dX5_hasPlaces_24 ?_
        refine s_iload_n F dX5_hasPlaces_25 rfl 2 rfl ?_
        refine s_isub F dX5_hasPlaces_26 ?_
        refine s_icmp_gt F 34 dX5_hasPlaces_27 (by decide) (fun _ => ?_) (fun _ => ?_)
        · refine s_iconst F (v := 0) dX5_hasPlaces_34 (by decide) ?_
          exact s_zret1 F (by decide) dX5_hasPlaces_35
        · refine s_iconst F (v := 1) dX5_hasPlaces_30 (by decide) ?_
          refine s_goto F 35 dX5_hasPlaces_31 (by decide) ?_
          exact s_zret1 F (by decide) dX5_hasPlaces_35
theorem dX5_begin_0 : decode cX5_begin 0 = .ok (.aload_n 0, 1) := by decide +kernel
theorem dX5_begin_1 : decode cX5_begin 1 = .ok (.getfield 9, 3) := by decide +kernel
theorem dX5_begin_4 : decode cX5_begin 4 = .ok (.iload_n 1, 1) := by decide +kernel
theorem dX5_begin_5 : decode cX5_begin 5 = .ok (.iload_n 2, 1) := by decide +kernel
theorem dX5_begin_6 : decode cX5_begin 6 = .ok (.iastore, 1) := by decide +kernel
theorem dX5_begin_7 : decode cX5_begin 7 = .ok (.aload_n 0, 1) := by decide +kernel
theorem dX5_begin_8 : decode cX5_begin 8 = .ok (.getfield 13, 3) := by decide +kernel
theorem dX5_begin_11 : decode cX5_begin 11 = .ok (.iload_n 1, 1) := by decide +kernel
theorem dX5_begin_12 : decode cX5_begin 12 = .ok (.iload_n 3, 1) := by decide +kernel
theorem dX5_begin_13 : decode cX5_begin 13 = .ok (.iastore, 1) := by decide +kernel
theorem dX5_begin_14 : decode cX5_begin 14 = .ok (.iconst 0, 1) := by decide +kernel
theorem dX5_begin_15 : decode cX5_begin 15 = .ok (.istore 4, 2) := by decide +kernel
theorem dX5_begin_17 : decode cX5_begin 17 = .ok (.iload 4, 2) := by decide +kernel
theorem dX5_begin_19 : decode cX5_begin 19 = .ok (.iload_n 3, 1) := by decide +kernel
theorem dX5_begin_20 : decode cX5_begin 20 = .ok (.if_icmp .ge 22, 3) := by decide +kernel
theorem dX5_begin_23 : decode cX5_begin 23 = .ok (.aload_n 0, 1) := by decide +kernel
theorem dX5_begin_24 : decode cX5_begin 24 = .ok (.getfield 16, 3) := by decide +kernel
theorem dX5_begin_27 : decode cX5_begin 27 = .ok (.iload_n 1, 1) := by decide +kernel
theorem dX5_begin_28 : decode cX5_begin 28 = .ok (.bipush 40, 2) := by decide +kernel
theorem dX5_begin_30 : decode cX5_begin 30 = .ok (.imul, 1) := by decide +kernel
theorem dX5_begin_31 : decode cX5_begin 31 = .ok (.iload 4, 2) := by decide +kernel
theorem dX5_begin_33 : decode cX5_begin 33 = .ok (.iadd, 1) := by decide +kernel
theorem dX5_begin_34 : decode cX5_begin 34 = .ok (.iconst 0, 1) := by decide +kernel
theorem dX5_begin_35 : decode cX5_begin 35 = .ok (.iastore, 1) := by decide +kernel
theorem dX5_begin_36 : decode cX5_begin 36 = .ok (.iinc 4 1, 3) := by decide +kernel
theorem dX5_begin_39 : decode cX5_begin 39 = .ok (.goto (-22), 3) := by decide +kernel
theorem dX5_begin_42 : decode cX5_begin 42 = .ok (.return_, 1) := by decide +kernel
theorem yv_X5_begin : YV yX5_begin cX5_begin 5 none 3 := ⟨m287, m288, m2, m289, ⟨by decide +kernel, by decide +kernel, by decide +kernel⟩, by decide⟩
def f_X5_begin_17 (q : Nat) : Nat → Int32 → Int32 → Int32 → AH → Option (Unit × AH)
  | 0, _, _, _, _ => none
  | n + 1, x1, x3, x4, h => if x3 ≤ x4 then (some ((), h)) else (lt (((x1 * 40) + x4)) (fun v_2 => ck v_2 320 (lt (hset h (q + 3) (v_2 : Int32).toNatClampNeg 0) (fun h_3 => lt (x4 + 1) (fun v_4 => (f_X5_begin_17 q n) x1 x3 v_4 h_3)))))
set_option maxRecDepth 20000 in
set_option maxHeartbeats 4000000 in
theorem t_X5_begin_17 {z : MC} {g : GC} {A : Nat → Prop} (F : Fx z cX5_begin 5 RX5 none 1 g A) {q : Nat} (hq : (gL g)[q]? = some (.inl 5)) : ∀ (n : Nat) (x1 : Int32) (x3 : Int32) (x4 : Int32) (h : AH), Snd z 5 g A (QF z g A mkU) 17 [(0, .ref (gad g q)), (1, .int x1), (3, .int x3), (4, .int x4)] [] h (f_X5_begin_17 q n x1 x3 x4 h) := by
  intro n
  induction n with
  | zero => intros; exact s_none
  | succ n ih =>
    intro x1 x3 x4 h
    unfold f_X5_begin_17
    refine s_iload F dX5_begin_17 3 rfl ?_
    refine s_iload_n F dX5_begin_19 rfl 2 rfl ?_
    refine s_icmp_ge F 42 dX5_begin_20 (by decide) (fun _ => ?_) (fun _ => ?_)
    · exact s_vret F dX5_begin_42
    · refine s_aload_n F dX5_begin_23 rfl 0 rfl ?_
      have hw_1 := wf_ref F.2.2.2.2.2.2.1 hq 2 3 (.inr (0, 320)) rfl
      refine s_getr F ciX5 2 3 (.inr (0, 320)) hq (by decide) rfl rfl m34 dX5_begin_24 ?_
      refine s_iload_n F dX5_begin_27 rfl 1 rfl ?_
      refine s_bipush F (v := 40) dX5_begin_28 (by decide) ?_
      refine s_imul F dX5_begin_30 ?_
      refine s_iload F dX5_begin_31 3 rfl ?_
      refine s_iadd F dX5_begin_33 ?_
      refine s_iconst F (v := 0) dX5_begin_34 (by decide) ?_
      refine s_leti2 (fun v_2 => ?_)
      refine s_iast F hw_1 dX5_begin_35 ?_
      refine s_letH (fun h_3 => ?_)
      refine s_iincv F dX5_begin_36 3 rfl (by decide) (c := 1) (by decide) (fun v_4 => ?_)
      refine s_lv (lv' := [(4, .int v_4), (0, .ref (gad g q)), (1, .int x1), (3, .int x3)]) rfl ?_
      refine s_goto F 17 dX5_begin_39 (by decide) ?_
      exact s_sub [1, 2, 3, 0] rfl (ih x1 x3 v_4 h_3)
def f_X5_begin (q : Nat) (x1 : Int32) (x2 : Int32) (x3 : Int32) (h : AH) : Option (Unit × AH) := ck x1 8 (lt (hset h (q + 1) (x1 : Int32).toNatClampNeg x2) (fun h_2 => ck x1 8 (lt (hset h_2 (q + 2) (x1 : Int32).toNatClampNeg x3) (fun h_4 => f_X5_begin_17 q fu x1 x3 0 h_4))))
set_option maxRecDepth 20000 in
set_option maxHeartbeats 4000000 in
theorem ct_X5_begin (l : Launch) (g : GC) {q : Nat} (hq : (gL g)[q]? = some (.inl 5)) (x1 : Int32) (x2 : Int32) (x3 : Int32) : Ct l yX5_begin cX5_begin 5 none 1 [.ref (gad g q), .int x1, .int x2, .int x3] g mkU (fun h => f_X5_begin q x1 x2 x3 h) := by
  refine Ct.of (by decide +kernel) (Nat.le_of_ble_eq_true rfl) (fun z A h _ F => ?_)
  show Snd z 5 g A (QF z g A mkU) 0 [(0, .ref (gad g q)), (1, .int x1), (2, .int x2), (3, .int x3)] [] h (f_X5_begin q x1 x2 x3 h)
  unfold f_X5_begin
  refine s_aload_n F dX5_begin_0 rfl 0 rfl ?_
  have hw_1 := wf_ref F.2.2.2.2.2.2.1 hq 0 1 (.inr (0, 8)) rfl
  refine s_getr F ciX5 0 1 (.inr (0, 8)) hq (by decide) rfl rfl m32 dX5_begin_1 ?_
  refine s_iload_n F dX5_begin_4 rfl 1 rfl ?_
  refine s_iload_n F dX5_begin_5 rfl 2 rfl ?_
  refine s_iast F hw_1 dX5_begin_6 ?_
  refine s_letH (fun h_2 => ?_)
  refine s_aload_n F dX5_begin_7 rfl 0 rfl ?_
  have hw_3 := wf_ref F.2.2.2.2.2.2.1 hq 1 2 (.inr (0, 8)) rfl
  refine s_getr F ciX5 1 2 (.inr (0, 8)) hq (by decide) rfl rfl m33 dX5_begin_8 ?_
  refine s_iload_n F dX5_begin_11 rfl 1 rfl ?_
  refine s_iload_n F dX5_begin_12 rfl 3 rfl ?_
  refine s_iast F hw_3 dX5_begin_13 ?_
  refine s_letH (fun h_4 => ?_)
  refine s_iconst F (v := 0) dX5_begin_14 (by decide) ?_
  refine s_istore F (lv' := [(4, .int 0), (0, .ref (gad g q)), (1, .int x1), (2, .int x2), (3, .int x3)]) dX5_begin_15 (by decide) rfl ?_
  exact s_sub [1, 2, 4, 0] rfl (t_X5_begin_17 F hq fu x1 x3 0 h_4)
theorem dX5_narrowed_0 : decode cX5_narrowed 0 = .ok (.iload_n 0, 1) := by decide +kernel
theorem dX5_narrowed_1 : decode cX5_narrowed 1 = .ok (.ifCond .ne 6, 3) := by decide +kernel
theorem dX5_narrowed_4 : decode cX5_narrowed 4 = .ok (.iload_n 1, 1) := by decide +kernel
theorem dX5_narrowed_5 : decode cX5_narrowed 5 = .ok (.i2b, 1) := by decide +kernel
theorem dX5_narrowed_6 : decode cX5_narrowed 6 = .ok (.ireturn, 1) := by decide +kernel
theorem dX5_narrowed_7 : decode cX5_narrowed 7 = .ok (.iload_n 0, 1) := by decide +kernel
theorem dX5_narrowed_8 : decode cX5_narrowed 8 = .ok (.iconst 1, 1) := by decide +kernel
theorem dX5_narrowed_9 : decode cX5_narrowed 9 = .ok (.if_icmp .ne 8, 3) := by decide +kernel
theorem dX5_narrowed_12 : decode cX5_narrowed 12 = .ok (.iload_n 1, 1) := by decide +kernel
theorem dX5_narrowed_13 : decode cX5_narrowed 13 = .ok (.i2s, 1) := by decide +kernel
theorem dX5_narrowed_14 : decode cX5_narrowed 14 = .ok (.goto 4, 3) := by decide +kernel
theorem dX5_narrowed_17 : decode cX5_narrowed 17 = .ok (.iload_n 1, 1) := by decide +kernel
theorem dX5_narrowed_18 : decode cX5_narrowed 18 = .ok (.ireturn, 1) := by decide +kernel
theorem ys_X5_narrowed : YS yX5_narrowed cX5_narrowed 2 (some .int) 2 := ⟨m311, m2, m312, ⟨by decide +kernel, by decide +kernel, by decide +kernel⟩, by decide⟩
def f_X5_narrowed (x0 : Int32) (x1 : Int32) (h : AH) : Option (Int32 × AH) := if x0 = 0 then (some ((x1 : Int32).toInt8.toInt32, h)) else (if x0 = 1 then (some ((x1 : Int32).toInt16.toInt32, h)) else (some (x1, h)))
set_option maxRecDepth 20000 in
set_option maxHeartbeats 4000000 in
theorem ct_X5_narrowed (l : Launch) (g : GC) (x0 : Int32) (x1 : Int32) : Ct l yX5_narrowed cX5_narrowed 2 (some .int) 1 [.int x0, .int x1] g mkI (fun h => f_X5_narrowed x0 x1 h) := by
  refine Ct.of (by decide +kernel) (Nat.le_of_ble_eq_true rfl) (fun z A h _ F => ?_)
  show Snd z 2 g A (QF z g A mkI) 0 [(0, .int x0), (1, .int x1)] [] h (f_X5_narrowed x0 x1 h)
  unfold f_X5_narrowed
  refine s_iload_n F dX5_narrowed_0 rfl 0 rfl ?_
  refine s_if_ne F 7 dX5_narrowed_1 (by decide) (fun _ => ?_) (fun _ => ?_)
  · refine s_iload_n F dX5_narrowed_7 rfl 0 rfl ?_
    refine s_iconst F (v := 1) dX5_narrowed_8 (by decide) ?_
    refine s_icmp_ne F 17 dX5_narrowed_9 (by decide) (fun _ => ?_) (fun _ => ?_)
    · refine s_iload_n F dX5_narrowed_17 rfl 1 rfl ?_
      exact s_iret F dX5_narrowed_18
    · refine s_iload_n F dX5_narrowed_12 rfl 1 rfl ?_
      refine s_i2s F dX5_narrowed_13 ?_
      refine s_goto F 18 dX5_narrowed_14 (by decide) ?_
      exact s_iret F dX5_narrowed_18
  · refine s_iload_n F dX5_narrowed_4 rfl 1 rfl ?_
    refine s_i2b F dX5_narrowed_5 ?_
    exact s_iret F dX5_narrowed_6
theorem dX5_put_0 : decode cX5_put 0 = .ok (.aload_n 0, 1) := by decide +kernel
theorem dX5_put_1 : decode cX5_put 1 = .ok (.getfield 16, 3) := by decide +kernel
theorem dX5_put_4 : decode cX5_put 4 = .ok (.iload_n 1, 1) := by decide +kernel
theorem dX5_put_5 : decode cX5_put 5 = .ok (.bipush 40, 2) := by decide +kernel
theorem dX5_put_7 : decode cX5_put 7 = .ok (.imul, 1) := by decide +kernel
theorem dX5_put_8 : decode cX5_put 8 = .ok (.iload_n 2, 1) := by decide +kernel
theorem dX5_put_9 : decode cX5_put 9 = .ok (.iadd, 1) := by decide +kernel
theorem dX5_put_10 : decode cX5_put 10 = .ok (.aload_n 0, 1) := by decide +kernel
theorem dX5_put_11 : decode cX5_put 11 = .ok (.getfield 9, 3) := by decide +kernel
theorem dX5_put_14 : decode cX5_put 14 = .ok (.iload_n 1, 1) := by decide +kernel
theorem dX5_put_15 : decode cX5_put 15 = .ok (.iaload, 1) := by decide +kernel
theorem dX5_put_16 : decode cX5_put 16 = .ok (.iload_n 3, 1) := by decide +kernel
theorem dX5_put_17 : decode cX5_put 17 = .ok (.invokestatic 19, 3) := by decide +kernel
theorem dX5_put_20 : decode cX5_put 20 = .ok (.iastore, 1) := by decide +kernel
theorem dX5_put_21 : decode cX5_put 21 = .ok (.aload_n 0, 1) := by decide +kernel
theorem dX5_put_22 : decode cX5_put 22 = .ok (.getfield 16, 3) := by decide +kernel
theorem dX5_put_25 : decode cX5_put 25 = .ok (.iload_n 1, 1) := by decide +kernel
theorem dX5_put_26 : decode cX5_put 26 = .ok (.bipush 40, 2) := by decide +kernel
theorem dX5_put_28 : decode cX5_put 28 = .ok (.imul, 1) := by decide +kernel
theorem dX5_put_29 : decode cX5_put 29 = .ok (.iload_n 2, 1) := by decide +kernel
theorem dX5_put_30 : decode cX5_put 30 = .ok (.iadd, 1) := by decide +kernel
theorem dX5_put_31 : decode cX5_put 31 = .ok (.iaload, 1) := by decide +kernel
theorem dX5_put_32 : decode cX5_put 32 = .ok (.ireturn, 1) := by decide +kernel
theorem yv_X5_put : YV yX5_put cX5_put 4 (some .int) 3 := ⟨m307, m308, m2, m309, ⟨by decide +kernel, by decide +kernel, by decide +kernel⟩, by decide⟩
def f_X5_put (q : Nat) (x1 : Int32) (x2 : Int32) (x3 : Int32) (h : AH) : Option (Int32 × AH) := ck x1 8 (bd (f_X5_narrowed (h (q + 1) (x1 : Int32).toNatClampNeg) x3 h) (fun v_4 h_3 => lt (((x1 * 40) + x2)) (fun v_5 => ck v_5 320 (lt (hset h_3 (q + 3) (v_5 : Int32).toNatClampNeg v_4) (fun h_6 => lt (((x1 * 40) + x2)) (fun v_8 => ck v_8 320 (some (h_6 (q + 3) (v_8 : Int32).toNatClampNeg, h_6))))))))
set_option maxRecDepth 20000 in
set_option maxHeartbeats 4000000 in
theorem ct_X5_put (l : Launch) (g : GC) {q : Nat} (hq : (gL g)[q]? = some (.inl 5)) (x1 : Int32) (x2 : Int32) (x3 : Int32) : Ct l yX5_put cX5_put 4 (some .int) 2 [.ref (gad g q), .int x1, .int x2, .int x3] g mkI (fun h => f_X5_put q x1 x2 x3 h) := by
  refine Ct.of (by decide +kernel) (Nat.le_of_ble_eq_true rfl) (fun z A h _ F => ?_)
  show Snd z 4 g A (QF z g A mkI) 0 [(0, .ref (gad g q)), (1, .int x1), (2, .int x2), (3, .int x3)] [] h (f_X5_put q x1 x2 x3 h)
  unfold f_X5_put
  refine s_aload_n F dX5_put_0 rfl 0 rfl ?_
  have hw_1 := wf_ref F.2.2.2.2.2.2.1 hq 2 3 (.inr (0, 320)) rfl
  refine s_getr F ciX5 2 3 (.inr (0, 320)) hq (by decide) rfl rfl m34 dX5_put_1 ?_
  refine s_iload_n F dX5_put_4 rfl 1 rfl ?_
  refine s_bipush F (v := 40) dX5_put_5 (by decide) ?_
  refine s_imul F dX5_put_7 ?_
  refine s_iload_n F dX5_put_8 rfl 2 rfl ?_
  refine s_iadd F dX5_put_9 ?_
  refine s_aload_n F dX5_put_10 rfl 0 rfl ?_
  have hw_2 := wf_ref F.2.2.2.2.2.2.1 hq 0 1 (.inr (0, 8)) rfl
  refine s_getr F ciX5 0 1 (.inr (0, 8)) hq (by decide) rfl rfl m32 dX5_put_11 ?_
  refine s_iload_n F dX5_put_14 rfl 1 rfl ?_
  refine s_iald F hw_2 dX5_put_15 ?_
  refine s_iload_n F dX5_put_16 rfl 3 rfl ?_
  refine s_callSi (f := fun hh => f_X5_narrowed (h (q + 1) (x1 : Int32).toNatClampNeg) x3 hh) (As := [.int (h (q + 1) (x1 : Int32).toNatClampNeg), .int x3]) F ys_X5_narrowed (ct_X5_narrowed z.2.1 g (h (q + 1) (x1 : Int32).toNatClampNeg) x3) (by decide) m310 rfl rfl (Nat.le_of_ble_eq_true rfl) dX5_put_17 (fun v_4 h_3 e_v_4 => ?_)
  refine s_leti2 (fun v_5 => ?_)
  refine s_iast F hw_1 dX5_put_20 ?_
  refine s_letH (fun h_6 => ?_)
  refine s_aload_n F dX5_put_21 rfl 0 rfl ?_
  have hw_7 := wf_ref F.2.2.2.2.2.2.1 hq 2 3 (.inr (0, 320)) rfl
  refine s_getr F ciX5 2 3 (.inr (0, 320)) hq (by decide) rfl rfl m34 dX5_put_22 ?_
  refine s_iload_n F dX5_put_25 rfl 1 rfl ?_
  refine s_bipush F (v := 40) dX5_put_26 (by decide) ?_
  refine s_imul F dX5_put_28 ?_
  refine s_iload_n F dX5_put_29 rfl 2 rfl ?_
  refine s_iadd F dX5_put_30 ?_
  refine s_leti (fun v_8 => ?_)
  refine s_iald F hw_7 dX5_put_31 ?_
  exact s_iret F dX5_put_32
theorem dX5_itemAt_0 : decode cX5_itemAt 0 = .ok (.aload_n 0, 1) := by decide +kernel
theorem dX5_itemAt_1 : decode cX5_itemAt 1 = .ok (.getfield 16, 3) := by decide +kernel
theorem dX5_itemAt_4 : decode cX5_itemAt 4 = .ok (.iload_n 1, 1) := by decide +kernel
theorem dX5_itemAt_5 : decode cX5_itemAt 5 = .ok (.bipush 40, 2) := by decide +kernel
theorem dX5_itemAt_7 : decode cX5_itemAt 7 = .ok (.imul, 1) := by decide +kernel
theorem dX5_itemAt_8 : decode cX5_itemAt 8 = .ok (.iload_n 2, 1) := by decide +kernel
theorem dX5_itemAt_9 : decode cX5_itemAt 9 = .ok (.iadd, 1) := by decide +kernel
theorem dX5_itemAt_10 : decode cX5_itemAt 10 = .ok (.iaload, 1) := by decide +kernel
theorem dX5_itemAt_11 : decode cX5_itemAt 11 = .ok (.ireturn, 1) := by decide +kernel
theorem yv_X5_itemAt : YV yX5_itemAt cX5_itemAt 3 (some .int) 2 := ⟨m797, m798, m2, m799, ⟨by decide +kernel, by decide +kernel, by decide +kernel⟩, by decide⟩
def f_X5_itemAt (q : Nat) (x1 : Int32) (x2 : Int32) (h : AH) : Option (Int32 × AH) := lt (((x1 * 40) + x2)) (fun v_2 => ck v_2 320 (some (h (q + 3) (v_2 : Int32).toNatClampNeg, h)))
set_option maxRecDepth 20000 in
set_option maxHeartbeats 4000000 in
theorem ct_X5_itemAt (l : Launch) (g : GC) {q : Nat} (hq : (gL g)[q]? = some (.inl 5)) (x1 : Int32) (x2 : Int32) : Ct l yX5_itemAt cX5_itemAt 3 (some .int) 1 [.ref (gad g q), .int x1, .int x2] g mkI (fun h => f_X5_itemAt q x1 x2 h) := by
  refine Ct.of (by decide +kernel) (Nat.le_of_ble_eq_true rfl) (fun z A h _ F => ?_)
  show Snd z 3 g A (QF z g A mkI) 0 [(0, .ref (gad g q)), (1, .int x1), (2, .int x2)] [] h (f_X5_itemAt q x1 x2 h)
  unfold f_X5_itemAt
  refine s_aload_n F dX5_itemAt_0 rfl 0 rfl ?_
  have hw_1 := wf_ref F.2.2.2.2.2.2.1 hq 2 3 (.inr (0, 320)) rfl
  refine s_getr F ciX5 2 3 (.inr (0, 320)) hq (by decide) rfl rfl m34 dX5_itemAt_1 ?_
  refine s_iload_n F dX5_itemAt_4 rfl 1 rfl ?_
  refine s_bipush F (v := 40) dX5_itemAt_5 (by decide) ?_
  refine s_imul F dX5_itemAt_7 ?_
  refine s_iload_n F dX5_itemAt_8 rfl 2 rfl ?_
  refine s_iadd F dX5_itemAt_9 ?_
  refine s_leti (fun v_2 => ?_)
  refine s_iald F hw_1 dX5_itemAt_10 ?_
  exact s_iret F dX5_itemAt_11
theorem dX5_move_0 : decode cX5_move 0 = .ok (.aload_n 0, 1) := by decide +kernel
theorem dX5_move_1 : decode cX5_move 1 = .ok (.getfield 16, 3) := by decide +kernel
theorem dX5_move_4 : decode cX5_move 4 = .ok (.iload_n 1, 1) := by decide +kernel
theorem dX5_move_5 : decode cX5_move 5 = .ok (.bipush 40, 2) := by decide +kernel
theorem dX5_move_7 : decode cX5_move 7 = .ok (.imul, 1) := by decide +kernel
theorem dX5_move_8 : decode cX5_move 8 = .ok (.iload_n 2, 1) := by decide +kernel
theorem dX5_move_9 : decode cX5_move 9 = .ok (.iadd, 1) := by decide +kernel
theorem dX5_move_10 : decode cX5_move 10 = .ok (.aload_n 0, 1) := by decide +kernel
theorem dX5_move_11 : decode cX5_move 11 = .ok (.getfield 16, 3) := by decide +kernel
theorem dX5_move_14 : decode cX5_move 14 = .ok (.iload_n 3, 1) := by decide +kernel
theorem dX5_move_15 : decode cX5_move 15 = .ok (.bipush 40, 2) := by decide +kernel
theorem dX5_move_17 : decode cX5_move 17 = .ok (.imul, 1) := by decide +kernel
theorem dX5_move_18 : decode cX5_move 18 = .ok (.iload 4, 2) := by decide +kernel
theorem dX5_move_20 : decode cX5_move 20 = .ok (.iadd, 1) := by decide +kernel
theorem dX5_move_21 : decode cX5_move 21 = .ok (.iload 5, 2) := by decide +kernel
theorem dX5_move_23 : decode cX5_move 23 = .ok (.invokestatic 23, 3) := by decide +kernel
theorem dX5_move_26 : decode cX5_move 26 = .ok (.return_, 1) := by decide +kernel
theorem yv_X5_move : YV yX5_move cX5_move 6 none 5 := ⟨m322, m323, m2, m324, ⟨by decide +kernel, by decide +kernel, by decide +kernel⟩, by decide⟩
def f_X5_move (q : Nat) (x1 : Int32) (x2 : Int32) (x3 : Int32) (x4 : Int32) (x5 : Int32) (h : AH) : Option (Unit × AH) := bh (cpy h (q + 3) 320 ((x1 * 40) + x2) (q + 3) 320 ((x3 * 40) + x4) x5) (fun h_3 => some ((), h_3))
set_option maxRecDepth 20000 in
set_option maxHeartbeats 4000000 in
theorem ct_X5_move (l : Launch) (g : GC) {q : Nat} (hq : (gL g)[q]? = some (.inl 5)) (x1 : Int32) (x2 : Int32) (x3 : Int32) (x4 : Int32) (x5 : Int32) : Ct l yX5_move cX5_move 6 none 1 [.ref (gad g q), .int x1, .int x2, .int x3, .int x4, .int x5] g mkU (fun h => f_X5_move q x1 x2 x3 x4 x5 h) := by
  refine Ct.of (by decide +kernel) (Nat.le_of_ble_eq_true rfl) (fun z A h _ F => ?_)
  show Snd z 6 g A (QF z g A mkU) 0 [(0, .ref (gad g q)), (1, .int x1), (2, .int x2), (3, .int x3), (4, .int x4), (5, .int x5)] [] h (f_X5_move q x1 x2 x3 x4 x5 h)
  unfold f_X5_move
  refine s_aload_n F dX5_move_0 rfl 0 rfl ?_
  have hw_1 := wf_ref F.2.2.2.2.2.2.1 hq 2 3 (.inr (0, 320)) rfl
  refine s_getr F ciX5 2 3 (.inr (0, 320)) hq (by decide) rfl rfl m34 dX5_move_1 ?_
  refine s_iload_n F dX5_move_4 rfl 1 rfl ?_
  refine s_bipush F (v := 40) dX5_move_5 (by decide) ?_
  refine s_imul F dX5_move_7 ?_
  refine s_iload_n F dX5_move_8 rfl 2 rfl ?_
  refine s_iadd F dX5_move_9 ?_
  refine s_aload_n F dX5_move_10 rfl 0 rfl ?_
  have hw_2 := wf_ref F.2.2.2.2.2.2.1 hq 2 3 (.inr (0, 320)) rfl
  refine s_getr F ciX5 2 3 (.inr (0, 320)) hq (by decide) rfl rfl m34 dX5_move_11 ?_
  refine s_iload_n F dX5_move_14 rfl 3 rfl ?_
  refine s_bipush F (v := 40) dX5_move_15 (by decide) ?_
  refine s_imul F dX5_move_17 ?_
  refine s_iload F dX5_move_18 4 rfl ?_
  refine s_iadd F dX5_move_20 ?_
  refine s_iload F dX5_move_21 5 rfl ?_
  refine s_cpy F (by decide) hw_1 hw_2 m325 m327 m326 m10 (Nat.le_of_ble_eq_true rfl) dX5_move_23 (fun h_3 => ?_)
  exact s_vret F dX5_move_26
theorem dX5_remove_0 : decode cX5_remove 0 = .ok (.aload_n 0, 1) := by decide +kernel
theorem dX5_remove_1 : decode cX5_remove 1 = .ok (.getfield 13, 3) := by decide +kernel
theorem dX5_remove_4 : decode cX5_remove 4 = .ok (.iload_n 1, 1) := by decide +kernel
theorem dX5_remove_5 : decode cX5_remove 5 = .ok (.iaload, 1) := by decide +kernel
theorem dX5_remove_6 : decode cX5_remove 6 = .ok (.istore_n 2, 1) := by decide +kernel
theorem dX5_remove_7 : decode cX5_remove 7 = .ok (.aload_n 0, 1) := by decide +kernel
theorem dX5_remove_8 : decode cX5_remove 8 = .ok (.getfield 13, 3) := by decide +kernel
theorem dX5_remove_11 : decode cX5_remove 11 = .ok (.iload_n 1, 1) := by decide +kernel
theorem dX5_remove_12 : decode cX5_remove 12 = .ok (.iconst (-1), 1) := by decide +kernel
theorem dX5_remove_13 : decode cX5_remove 13 = .ok (.iastore, 1) := by decide +kernel
theorem dX5_remove_14 : decode cX5_remove 14 = .ok (.iload_n 2, 1) := by decide +kernel
theorem dX5_remove_15 : decode cX5_remove 15 = .ok (.ireturn, 1) := by decide +kernel
theorem yv_X5_remove : YV yX5_remove cX5_remove 3 (some .int) 1 := ⟨m333, m334, m2, m335, ⟨by decide +kernel, by decide +kernel, by decide +kernel⟩, by decide⟩
def f_X5_remove (q : Nat) (x1 : Int32) (h : AH) : Option (Int32 × AH) := ck x1 8 (lt (h (q + 2) (x1 : Int32).toNatClampNeg) (fun v_2 => ck x1 8 (lt (hset h (q + 2) (x1 : Int32).toNatClampNeg (-1)) (fun h_4 => some (v_2, h_4)))))
set_option maxRecDepth 20000 in
set_option maxHeartbeats 4000000 in
theorem ct_X5_remove (l : Launch) (g : GC) {q : Nat} (hq : (gL g)[q]? = some (.inl 5)) (x1 : Int32) : Ct l yX5_remove cX5_remove 3 (some .int) 1 [.ref (gad g q), .int x1] g mkI (fun h => f_X5_remove q x1 h) := by
  refine Ct.of (by decide +kernel) (Nat.le_of_ble_eq_true rfl) (fun z A h _ F => ?_)
  show Snd z 3 g A (QF z g A mkI) 0 [(0, .ref (gad g q)), (1, .int x1)] [] h (f_X5_remove q x1 h)
  unfold f_X5_remove
  refine s_aload_n F dX5_remove_0 rfl 0 rfl ?_
  have hw_1 := wf_ref F.2.2.2.2.2.2.1 hq 1 2 (.inr (0, 8)) rfl
  refine s_getr F ciX5 1 2 (.inr (0, 8)) hq (by decide) rfl rfl m33 dX5_remove_1 ?_
  refine s_iload_n F dX5_remove_4 rfl 1 rfl ?_
  refine s_iald F hw_1 dX5_remove_5 ?_
  refine s_leti (fun v_2 => ?_)
  refine s_istore_n F (lv' := [(2, .int v_2), (0, .ref (gad g q)), (1, .int x1)]) dX5_remove_6 rfl (by decide) rfl ?_
  refine s_aload_n F dX5_remove_7 rfl 1 rfl ?_
  have hw_3 := wf_ref F.2.2.2.2.2.2.1 hq 1 2 (.inr (0, 8)) rfl
  refine s_getr F ciX5 1 2 (.inr (0, 8)) hq (by decide) rfl rfl m33 dX5_remove_8 ?_
  refine s_iload_n F dX5_remove_11 rfl 2 rfl ?_
  refine s_iconst F (v := (-1)) dX5_remove_12 (by decide) ?_
  refine s_iast F hw_3 dX5_remove_13 ?_
  refine s_letH (fun h_4 => ?_)
  refine s_iload_n F dX5_remove_14 rfl 0 rfl ?_
  exact s_iret F dX5_remove_15
theorem dX5_present_0 : decode cX5_present 0 = .ok (.iconst 0, 1) := by decide +kernel
theorem dX5_present_1 : decode cX5_present 1 = .ok (.istore_n 1, 1) := by decide +kernel
theorem dX5_present_2 : decode cX5_present 2 = .ok (.iconst 0, 1) := by decide +kernel
theorem dX5_present_3 : decode cX5_present 3 = .ok (.istore_n 2, 1) := by decide +kernel
theorem dX5_present_4 : decode cX5_present 4 = .ok (.iload_n 2, 1) := by decide +kernel
theorem dX5_present_5 : decode cX5_present 5 = .ok (.bipush 8, 2) := by decide +kernel
theorem dX5_present_7 : decode cX5_present 7 = .ok (.if_icmp .ge 25, 3) := by decide +kernel
theorem dX5_present_10 : decode cX5_present 10 = .ok (.iload_n 1, 1) := by decide +kernel
theorem dX5_present_11 : decode cX5_present 11 = .ok (.aload_n 0, 1) := by decide +kernel
theorem dX5_present_12 : decode cX5_present 12 = .ok (.iload_n 2, 1) := by decide +kernel
theorem dX5_present_13 : decode cX5_present 13 = .ok (.invokevirtual 29, 3) := by decide +kernel
theorem dX5_present_16 : decode cX5_present 16 = .ok (.ifCond .eq 7, 3) := by decide +kernel
theorem dX5_present_19 : decode cX5_present 19 = .ok (.iconst 0, 1) := by decide +kernel
theorem dX5_present_20 : decode cX5_present 20 = .ok (.goto 4, 3) := by decide +kernel
theorem dX5_present_23 : decode cX5_present 23 = .ok (.iconst 1, 1) := by decide +kernel
theorem dX5_present_24 : decode cX5_present 24 = .ok (.iadd, 1) := by decide +kernel
theorem dX5_present_25 : decode cX5_present 25 = .ok (.istore_n 1, 1) := by decide +kernel
theorem dX5_present_26 : decode cX5_present 26 = .ok (.iinc 2 1, 3) := by decide +kernel
theorem dX5_present_29 : decode cX5_present 29 = .ok (.goto (-25), 3) := by decide +kernel
theorem dX5_present_32 : decode cX5_present 32 = .ok (.iload_n 1, 1) := by decide +kernel
theorem dX5_present_33 : decode cX5_present 33 = .ok (.ireturn, 1) := by decide +kernel
theorem yv_X5_present : YV yX5_present cX5_present 3 (some .int) 0 := ⟨m878, m879, m2, m880, ⟨by decide +kernel, by decide +kernel, by decide +kernel⟩, by decide⟩
def f_X5_present_4 (q : Nat) : Nat → Int32 → Int32 → AH → Option (Int32 × AH)
  | 0, _, _, _ => none
  | n + 1, x1, x2, h => if (8 : Int32) ≤ x2 then (some (x1, h)) else (bd (f_X5_isMissing q x2 h) (fun v_2 h_1 => if v_2 = 0 then (lt ((x1 + 1)) (fun v_3 => lt (x2 + 1) (fun v_4 => (f_X5_present_4 q n) v_3 v_4 h_1))) else (lt ((x1 + 0)) (fun v_5 => lt (x2 + 1) (fun v_6 => (f_X5_present_4 q n) v_5 v_6 h_1)))))
set_option maxRecDepth 20000 in
set_option maxHeartbeats 4000000 in
theorem t_X5_present_4 {z : MC} {g : GC} {A : Nat → Prop} (F : Fx z cX5_present 3 RX5 (some .int) 2 g A) {q : Nat} (hq : (gL g)[q]? = some (.inl 5)) : ∀ (n : Nat) (x1 : Int32) (x2 : Int32) (h : AH), Snd z 3 g A (QF z g A mkI) 4 [(0, .ref (gad g q)), (1, .int x1), (2, .int x2)] [] h (f_X5_present_4 q n x1 x2 h) := by
  intro n
  induction n with
  | zero => intros; exact s_none
  | succ n ih =>
    intro x1 x2 h
    unfold f_X5_present_4
    refine s_iload_n F dX5_present_4 rfl 2 rfl ?_
    refine s_bipush F (v := 8) dX5_present_5 (by decide) ?_
    refine s_icmp_ge F 32 dX5_present_7 (by decide) (fun _ => ?_) (fun _ => ?_)
    · refine s_iload_n F dX5_present_32 rfl 1 rfl ?_
      exact s_iret F dX5_present_33
    · refine s_iload_n F dX5_present_10 rfl 1 rfl ?_
      refine s_aload_n F dX5_present_11 rfl 0 rfl ?_
      refine s_iload_n F dX5_present_12 rfl 2 rfl ?_
      refine s_callVi (f := fun hh => f_X5_isMissing q x2 hh) (As := [.int x2]) F yv_X5_isMissing (ct_X5_isMissing z.2.1 g hq x2) (by decide) m881 hq rfl rfl rfl (Nat.le_of_ble_eq_true rfl) dX5_present_13 (fun v_2 h_1 e_v_2 => ?_)
      refine s_if_eq F 23 dX5_present_16 (by decide) (fun _ => ?_) (fun _ => ?_)
      · refine s_iconst F (v := 1) dX5_present_23 (by decide) ?_
        refine s_iadd F dX5_present_24 ?_
        refine s_leti (fun v_3 => ?_)
        refine s_istore_n F (lv' := [(1, .int v_3), (0, .ref (gad g q)), (2, .int x2)]) dX5_present_25 rfl (by decide) rfl ?_
        refine s_iincv F dX5_present_26 2 rfl (by decide) (c := 1) (by decide) (fun v_4 => ?_)
        refine s_lv (lv' := [(2, .int v_4), (1, .int v_3), (0, .ref (gad g q))]) rfl ?_
        refine s_goto F 4 dX5_present_29 (by decide) ?_
        exact s_sub [2, 1, 0] rfl (ih v_3 v_4 h_1)
      · refine s_iconst F (v := 0) dX5_present_19 (by decide) ?_
        refine s_goto F 24 dX5_present_20 (by decide) ?_
        refine s_iadd F dX5_present_24 ?_
        refine s_leti (fun v_5 => ?_)
        refine s_istore_n F (lv' := [(1, .int v_5), (0, .ref (gad g q)), (2, .int x2)]) dX5_present_25 rfl (by decide) rfl ?_
        refine s_iincv F dX5_present_26 2 rfl (by decide) (c := 1) (by decide) (fun v_6 => ?_)
        refine s_lv (lv' := [(2, .int v_6), (1, .int v_5), (0, .ref (gad g q))]) rfl ?_
        refine s_goto F 4 dX5_present_29 (by decide) ?_
        exact s_sub [2, 1, 0] rfl (ih v_5 v_6 h_1)
def f_X5_present (q : Nat) (h : AH) : Option (Int32 × AH) := f_X5_present_4 q fu 0 0 h
set_option maxRecDepth 20000 in
set_option maxHeartbeats 4000000 in
theorem ct_X5_present (l : Launch) (g : GC) {q : Nat} (hq : (gL g)[q]? = some (.inl 5)) : Ct l yX5_present cX5_present 3 (some .int) 2 [.ref (gad g q)] g mkI (fun h => f_X5_present q h) := by
  refine Ct.of (by decide +kernel) (Nat.le_of_ble_eq_true rfl) (fun z A h _ F => ?_)
  show Snd z 3 g A (QF z g A mkI) 0 [(0, .ref (gad g q))] [] h (f_X5_present q h)
  unfold f_X5_present
  refine s_iconst F (v := 0) dX5_present_0 (by decide) ?_
  refine s_istore_n F (lv' := [(1, .int 0), (0, .ref (gad g q))]) dX5_present_1 rfl (by decide) rfl ?_
  refine s_iconst F (v := 0) dX5_present_2 (by decide) ?_
  refine s_istore_n F (lv' := [(2, .int 0), (1, .int 0), (0, .ref (gad g q))]) dX5_present_3 rfl (by decide) rfl ?_
  exact s_sub [2, 1, 0] rfl (t_X5_present_4 F hq fu 0 0 h)
theorem dX7_isTrade_0 : decode cX7_isTrade 0 = .ok (.iload_n 0, 1) := by decide +kernel
theorem dX7_isTrade_1 : decode cX7_isTrade 1 = .ok (.ifCond .lt 12, 3) := by decide +kernel
theorem dX7_isTrade_4 : decode cX7_isTrade 4 = .ok (.iload_n 0, 1) := by decide +kernel
theorem dX7_isTrade_5 : decode cX7_isTrade 5 = .ok (.iconst 4, 1) := by decide +kernel
theorem dX7_isTrade_6 : decode cX7_isTrade 6 = .ok (.if_icmp .ge 7, 3) := by decide +kernel
theorem dX7_isTrade_9 : decode cX7_isTrade 9 = .ok (.iconst 1, 1) := by decide +kernel
theorem dX7_isTrade_10 : decode cX7_isTrade 10 = .ok (.goto 4, 3) := by decide +kernel
theorem dX7_isTrade_13 : decode cX7_isTrade 13 = .ok (.iconst 0, 1) := by decide +kernel
theorem dX7_isTrade_14 : decode cX7_isTrade 14 = .ok (.ireturn, 1) := by decide +kernel
theorem ys_X7_isTrade : YS yX7_isTrade cX7_isTrade 1 (some .boolean) 1 := ⟨m639, m1, m640, ⟨by decide +kernel, by decide +kernel, by decide +kernel⟩, by decide⟩
def f_X7_isTrade (x0 : Int32) (h : AH) : Option (Int32 × AH) := if x0 < 0 then (some (0, h)) else (if (4 : Int32) ≤ x0 then (some (0, h)) else (some (1, h)))
set_option maxRecDepth 20000 in
set_option maxHeartbeats 4000000 in
theorem ct_X7_isTrade (l : Launch) (g : GC) (x0 : Int32) : Ct l yX7_isTrade cX7_isTrade 1 (some .boolean) 1 [.int x0] g mkI (fun h => f_X7_isTrade x0 h) := by
  refine Ct.of (by decide +kernel) (Nat.le_of_ble_eq_true rfl) (fun z A h _ F => ?_)
  show Snd z 1 g A (QF z g A mkI) 0 [(0, .int x0)] [] h (f_X7_isTrade x0 h)
  unfold f_X7_isTrade
  refine s_iload_n F dX7_isTrade_0 rfl 0 rfl ?_
  refine s_if_lt F 13 dX7_isTrade_1 (by decide) (fun _ => ?_) (fun _ => ?_)
  · refine s_iconst F (v := 0) dX7_isTrade_13 (by decide) ?_
    exact s_zret1 F (by decide) dX7_isTrade_14
  · refine s_iload_n F dX7_isTrade_4 rfl 0 rfl ?_
    refine s_iconst F (v := 4) dX7_isTrade_5 (by decide) ?_
    refine s_icmp_ge F 13 dX7_isTrade_6 (by decide) (fun _ => ?_) (fun _ => ?_)
    · refine s_iconst F (v := 0) dX7_isTrade_13 (by decide) ?_
      exact s_zret1 F (by decide) dX7_isTrade_14
    · refine s_iconst F (v := 1) dX7_isTrade_9 (by decide) ?_
      refine s_goto F 14 dX7_isTrade_10 (by decide) ?_
      exact s_zret1 F (by decide) dX7_isTrade_14
theorem dX7_isHour_0 : decode cX7_isHour 0 = .ok (.iload_n 0, 1) := by decide +kernel
theorem dX7_isHour_1 : decode cX7_isHour 1 = .ok (.ifCond .lt 13, 3) := by decide +kernel
theorem dX7_isHour_4 : decode cX7_isHour 4 = .ok (.iload_n 0, 1) := by decide +kernel
theorem dX7_isHour_5 : decode cX7_isHour 5 = .ok (.bipush 12, 2) := by decide +kernel
theorem dX7_isHour_7 : decode cX7_isHour 7 = .ok (.if_icmp .ge 7, 3) := by decide +kernel
theorem dX7_isHour_10 : decode cX7_isHour 10 = .ok (.iconst 1, 1) := by decide +kernel
theorem dX7_isHour_11 : decode cX7_isHour 11 = .ok (.goto 4, 3) := by decide +kernel
theorem dX7_isHour_14 : decode cX7_isHour 14 = .ok (.iconst 0, 1) := by decide +kernel
theorem dX7_isHour_15 : decode cX7_isHour 15 = .ok (.ireturn, 1) := by decide +kernel
theorem ys_X7_isHour : YS yX7_isHour cX7_isHour 1 (some .boolean) 1 := ⟨m693, m1, m694, ⟨by decide +kernel, by decide +kernel, by decide +kernel⟩, by decide⟩
def f_X7_isHour (x0 : Int32) (h : AH) : Option (Int32 × AH) := if x0 < 0 then (some (0, h)) else (if (12 : Int32) ≤ x0 then (some (0, h)) else (some (1, h)))
set_option maxRecDepth 20000 in
set_option maxHeartbeats 4000000 in
theorem ct_X7_isHour (l : Launch) (g : GC) (x0 : Int32) : Ct l yX7_isHour cX7_isHour 1 (some .boolean) 1 [.int x0] g mkI (fun h => f_X7_isHour x0 h) := by
  refine Ct.of (by decide +kernel) (Nat.le_of_ble_eq_true rfl) (fun z A h _ F => ?_)
  show Snd z 1 g A (QF z g A mkI) 0 [(0, .int x0)] [] h (f_X7_isHour x0 h)
  unfold f_X7_isHour
  refine s_iload_n F dX7_isHour_0 rfl 0 rfl ?_
  refine s_if_lt F 14 dX7_isHour_1 (by decide) (fun _ => ?_) (fun _ => ?_)
  · refine s_iconst F (v := 0) dX7_isHour_14 (by decide) ?_
    exact s_zret1 F (by decide) dX7_isHour_15
  · refine s_iload_n F dX7_isHour_4 rfl 0 rfl ?_
    refine s_bipush F (v := 12) dX7_isHour_5 (by decide) ?_
    refine s_icmp_ge F 14 dX7_isHour_7 (by decide) (fun _ => ?_) (fun _ => ?_)
    · refine s_iconst F (v := 0) dX7_isHour_14 (by decide) ?_
      exact s_zret1 F (by decide) dX7_isHour_15
    · refine s_iconst F (v := 1) dX7_isHour_10 (by decide) ?_
      refine s_goto F 15 dX7_isHour_11 (by decide) ?_
      exact s_zret1 F (by decide) dX7_isHour_15
theorem dX7_areHours_0 : decode cX7_areHours 0 = .ok (.iload_n 0, 1) := by decide +kernel
theorem dX7_areHours_1 : decode cX7_areHours 1 = .ok (.invokestatic 231, 3) := by decide +kernel
theorem dX7_areHours_4 : decode cX7_areHours 4 = .ok (.ifCond .eq 19, 3) := by decide +kernel
theorem dX7_areHours_7 : decode cX7_areHours 7 = .ok (.iload_n 1, 1) := by decide +kernel
theorem dX7_areHours_8 : decode cX7_areHours 8 = .ok (.invokestatic 231, 3) := by decide +kernel
theorem dX7_areHours_11 : decode cX7_areHours 11 = .ok (.ifCond .eq 12, 3) := by decide +kernel
theorem dX7_areHours_14 : decode cX7_areHours 14 = .ok (.iload_n 0, 1) := by decide +kernel
theorem dX7_areHours_15 : decode cX7_areHours 15 = .ok (.iload_n 1, 1) := by decide +kernel
theorem dX7_areHours_16 : decode cX7_areHours 16 = .ok (.if_icmp .gt 7, 3) := by decide +kernel
theorem dX7_areHours_19 : decode cX7_areHours 19 = .ok (.iconst 1, 1) := by decide +kernel
theorem dX7_areHours_20 : decode cX7_areHours 20 = .ok (.goto 4, 3) := by decide +kernel
theorem dX7_areHours_23 : decode cX7_areHours 23 = .ok (.iconst 0, 1) := by decide +kernel
theorem dX7_areHours_24 : decode cX7_areHours 24 = .ok (.ireturn, 1) := by decide +kernel
theorem ys_X7_areHours : YS yX7_areHours cX7_areHours 2 (some .boolean) 2 := ⟨m700, m1, m701, ⟨by decide +kernel, by decide +kernel, by decide +kernel⟩, by decide⟩
def f_X7_areHours (x0 : Int32) (x1 : Int32) (h : AH) : Option (Int32 × AH) := bd (f_X7_isHour x0 h) (fun v_2 h_1 => if v_2 = 0 then (some (0, h_1)) else (bd (f_X7_isHour x1 h_1) (fun v_4 h_3 => if v_4 = 0 then (some (0, h_3)) else (if x1 < x0 then (some (0, h_3)) else (some (1, h_3))))))
set_option maxRecDepth 20000 in
set_option maxHeartbeats 4000000 in
theorem ct_X7_areHours (l : Launch) (g : GC) (x0 : Int32) (x1 : Int32) : Ct l yX7_areHours cX7_areHours 2 (some .boolean) 2 [.int x0, .int x1] g mkI (fun h => f_X7_areHours x0 x1 h) := by
  refine Ct.of (by decide +kernel) (Nat.le_of_ble_eq_true rfl) (fun z A h _ F => ?_)
  show Snd z 2 g A (QF z g A mkI) 0 [(0, .int x0), (1, .int x1)] [] h (f_X7_areHours x0 x1 h)
  unfold f_X7_areHours
  refine s_iload_n F dX7_areHours_0 rfl 0 rfl ?_
  refine s_callSi (f := fun hh => f_X7_isHour x0 hh) (As := [.int x0]) F ys_X7_isHour (ct_X7_isHour z.2.1 g x0) (by decide) m692 rfl rfl (Nat.le_of_ble_eq_true rfl) dX7_areHours_1 (fun v_2 h_1 e_v_2 => ?_)
  refine s_if_eq F 23 dX7_areHours_4 (by decide) (fun _ => ?_) (fun _ => ?_)
  · refine s_iconst F (v := 0) dX7_areHours_23 (by decide) ?_
    exact s_zret1 F (by decide) dX7_areHours_24
  · refine s_iload_n F dX7_areHours_7 rfl 1 rfl ?_
    refine s_callSi (f := fun hh => f_X7_isHour x1 hh) (As := [.int x1]) F ys_X7_isHour (ct_X7_isHour z.2.1 g x1) (by decide) m692 rfl rfl (Nat.le_of_ble_eq_true rfl) dX7_areHours_8 (fun v_4 h_3 e_v_4 => ?_)
    refine s_if_eq F 23 dX7_areHours_11 (by decide) (fun _ => ?_) (fun _ => ?_)
    · refine s_iconst F (v := 0) dX7_areHours_23 (by decide) ?_
      exact s_zret1 F (by decide) dX7_areHours_24
    · refine s_iload_n F dX7_areHours_14 rfl 0 rfl ?_
      refine s_iload_n F dX7_areHours_15 rfl 1 rfl ?_
      refine s_icmp_gt F 23 dX7_areHours_16 (by decide) (fun _ => ?_) (fun _ => ?_)
      · refine s_iconst F (v := 0) dX7_areHours_23 (by decide) ?_
        exact s_zret1 F (by decide) dX7_areHours_24
      · refine s_iconst F (v := 1) dX7_areHours_19 (by decide) ?_
        refine s_goto F 24 dX7_areHours_20 (by decide) ?_
        exact s_zret1 F (by decide) dX7_areHours_24
theorem dX7_isImage_0 : decode cX7_isImage 0 = .ok (.iload_n 0, 1) := by decide +kernel
theorem dX7_isImage_1 : decode cX7_isImage 1 = .ok (.ifCond .eq 8, 3) := by decide +kernel
theorem dX7_isImage_4 : decode cX7_isImage 4 = .ok (.iload_n 0, 1) := by decide +kernel
theorem dX7_isImage_5 : decode cX7_isImage 5 = .ok (.iconst 1, 1) := by decide +kernel
theorem dX7_isImage_6 : decode cX7_isImage 6 = .ok (.if_icmp .ne 7, 3) := by decide +kernel
theorem dX7_isImage_9 : decode cX7_isImage 9 = .ok (.iconst 1, 1) := by decide +kernel
theorem dX7_isImage_10 : decode cX7_isImage 10 = .ok (.goto 4, 3) := by decide +kernel
theorem dX7_isImage_13 : decode cX7_isImage 13 = .ok (.iconst 0, 1) := by decide +kernel
theorem dX7_isImage_14 : decode cX7_isImage 14 = .ok (.ireturn, 1) := by decide +kernel
theorem ys_X7_isImage : YS yX7_isImage cX7_isImage 1 (some .boolean) 1 := ⟨m817, m1, m818, ⟨by decide +kernel, by decide +kernel, by decide +kernel⟩, by decide⟩
def f_X7_isImage (x0 : Int32) (h : AH) : Option (Int32 × AH) := if x0 = 0 then (some (1, h)) else (if x0 = 1 then (some (1, h)) else (some (0, h)))
set_option maxRecDepth 20000 in
set_option maxHeartbeats 4000000 in
theorem ct_X7_isImage (l : Launch) (g : GC) (x0 : Int32) : Ct l yX7_isImage cX7_isImage 1 (some .boolean) 1 [.int x0] g mkI (fun h => f_X7_isImage x0 h) := by
  refine Ct.of (by decide +kernel) (Nat.le_of_ble_eq_true rfl) (fun z A h _ F => ?_)
  show Snd z 1 g A (QF z g A mkI) 0 [(0, .int x0)] [] h (f_X7_isImage x0 h)
  unfold f_X7_isImage
  refine s_iload_n F dX7_isImage_0 rfl 0 rfl ?_
  refine s_if_eq F 9 dX7_isImage_1 (by decide) (fun _ => ?_) (fun _ => ?_)
  · refine s_iconst F (v := 1) dX7_isImage_9 (by decide) ?_
    refine s_goto F 14 dX7_isImage_10 (by decide) ?_
    exact s_zret1 F (by decide) dX7_isImage_14
  · refine s_iload_n F dX7_isImage_4 rfl 0 rfl ?_
    refine s_iconst F (v := 1) dX7_isImage_5 (by decide) ?_
    refine s_icmp_ne F 13 dX7_isImage_6 (by decide) (fun _ => ?_) (fun _ => ?_)
    · refine s_iconst F (v := 0) dX7_isImage_13 (by decide) ?_
      exact s_zret1 F (by decide) dX7_isImage_14
    · refine s_iconst F (v := 1) dX7_isImage_9 (by decide) ?_
      refine s_goto F 14 dX7_isImage_10 (by decide) ?_
      exact s_zret1 F (by decide) dX7_isImage_14
theorem dX7_isKind_0 : decode cX7_isKind 0 = .ok (.iload_n 0, 1) := by decide +kernel
theorem dX7_isKind_1 : decode cX7_isKind 1 = .ok (.istore_n 2, 1) := by decide +kernel
theorem dX7_isKind_2 : decode cX7_isKind 2 = .ok (.iconst 0, 1) := by decide +kernel
theorem dX7_isKind_3 : decode cX7_isKind 3 = .ok (.istore_n 3, 1) := by decide +kernel
theorem dX7_isKind_4 : decode cX7_isKind 4 = .ok (.iload_n 3, 1) := by decide +kernel
theorem dX7_isKind_5 : decode cX7_isKind 5 = .ok (.getstatic 271, 3) := by decide +kernel
theorem dX7_isKind_8 : decode cX7_isKind 8 = .ok (.arraylength, 1) := by decide +kernel
theorem dX7_isKind_9 : decode cX7_isKind 9 = .ok (.if_icmp .ge 26, 3) := by decide +kernel
theorem dX7_isKind_12 : decode cX7_isKind 12 = .ok (.iload_n 2, 1) := by decide +kernel
theorem dX7_isKind_13 : decode cX7_isKind 13 = .ok (.ifCond .lt 22, 3) := by decide +kernel
theorem dX7_isKind_16 : decode cX7_isKind 16 = .ok (.iload_n 2, 1) := by decide +kernel
theorem dX7_isKind_17 : decode cX7_isKind 17 = .ok (.iload_n 1, 1) := by decide +kernel
theorem dX7_isKind_18 : decode cX7_isKind 18 = .ok (.if_icmp .ne 5, 3) := by decide +kernel
theorem dX7_isKind_21 : decode cX7_isKind 21 = .ok (.iconst 1, 1) := by decide +kernel
theorem dX7_isKind_22 : decode cX7_isKind 22 = .ok (.ireturn, 1) := by decide +kernel
theorem dX7_isKind_23 : decode cX7_isKind 23 = .ok (.getstatic 271, 3) := by decide +kernel
theorem dX7_isKind_26 : decode cX7_isKind 26 = .ok (.iload_n 2, 1) := by decide +kernel
theorem dX7_isKind_27 : decode cX7_isKind 27 = .ok (.iaload, 1) := by decide +kernel
theorem dX7_isKind_28 : decode cX7_isKind 28 = .ok (.istore_n 2, 1) := by decide +kernel
theorem dX7_isKind_29 : decode cX7_isKind 29 = .ok (.iinc 3 1, 3) := by decide +kernel
theorem dX7_isKind_32 : decode cX7_isKind 32 = .ok (.goto (-28), 3) := by decide +kernel
theorem dX7_isKind_35 : decode cX7_isKind 35 = .ok (.iconst 0, 1) := by decide +kernel
theorem dX7_isKind_36 : decode cX7_isKind 36 = .ok (.ireturn, 1) := by decide +kernel
theorem ys_X7_isKind : YS yX7_isKind cX7_isKind 4 (some .boolean) 2 := ⟨m838, m1, m839, ⟨by decide +kernel, by decide +kernel, by decide +kernel⟩, by decide⟩
def f_X7_isKind_4 : Nat → Int32 → Int32 → Int32 → AH → Option (Int32 × AH)
  | 0, _, _, _, _ => none
  | n + 1, x1, x2, x3, h => if (6 : Int32) ≤ x3 then (some (0, h)) else (if x2 < 0 then (some (0, h)) else (if x2 = x1 then (some (1, h)) else (ck x2 6 (lt ((stv 1).getD (x2 : Int32).toNatClampNeg 0) (fun v_1 => lt (x3 + 1) (fun v_2 => (f_X7_isKind_4  n) x1 v_1 v_2 h))))))
set_option maxRecDepth 20000 in
set_option maxHeartbeats 4000000 in
theorem t_X7_isKind_4 {z : MC} {g : GC} {A : Nat → Prop} (F : Fx z cX7_isKind 4 RX7 (some .boolean) 1 g A)  : ∀ (n : Nat) (x1 : Int32) (x2 : Int32) (x3 : Int32) (h : AH), Snd z 4 g A (QF z g A mkI) 4 [(1, .int x1), (2, .int x2), (3, .int x3)] [] h (f_X7_isKind_4  n x1 x2 x3 h) := by
  intro n
  induction n with
  | zero => intros; exact s_none
  | succ n ih =>
    intro x1 x2 x3 h
    unfold f_X7_isKind_4
    refine s_iload_n F dX7_isKind_4 rfl 2 rfl ?_
    refine s_gets F 1 (by decide) rfl rfl m835 dX7_isKind_5 ?_
    refine s_tlen F 1 (by decide) (v := 6) rfl dX7_isKind_8 ?_
    refine s_icmp_ge F 35 dX7_isKind_9 (by decide) (fun _ => ?_) (fun _ => ?_)
    · refine s_iconst F (v := 0) dX7_isKind_35 (by decide) ?_
      exact s_zret1 F (by decide) dX7_isKind_36
    · refine s_iload_n F dX7_isKind_12 rfl 1 rfl ?_
      refine s_if_lt F 35 dX7_isKind_13 (by decide) (fun _ => ?_) (fun _ => ?_)
      · refine s_iconst F (v := 0) dX7_isKind_35 (by decide) ?_
        exact s_zret1 F (by decide) dX7_isKind_36
      · refine s_iload_n F dX7_isKind_16 rfl 1 rfl ?_
        refine s_iload_n F dX7_isKind_17 rfl 0 rfl ?_
        refine s_icmp_ne F 23 dX7_isKind_18 (by decide) (fun _ => ?_) (fun _ => ?_)
        · refine s_gets F 1 (by decide) rfl rfl m835 dX7_isKind_23 ?_
          refine s_iload_n F dX7_isKind_26 rfl 1 rfl ?_
          refine s_tld F 1 (by decide) rfl dX7_isKind_27 ?_
          refine s_leti (fun v_1 => ?_)
          refine s_istore_n F (lv' := [(2, .int v_1), (1, .int x1), (3, .int x3)]) dX7_isKind_28 rfl (by decide) rfl ?_
          refine s_iincv F dX7_isKind_29 2 rfl (by decide) (c := 1) (by decide) (fun v_2 => ?_)
          refine s_lv (lv' := [(3, .int v_2), (2, .int v_1), (1, .int x1)]) rfl ?_
          refine s_goto F 4 dX7_isKind_32 (by decide) ?_
          exact s_sub [2, 1, 0] rfl (ih x1 v_1 v_2 h)
        · refine s_iconst F (v := 1) dX7_isKind_21 (by decide) ?_
          exact s_zret1 F (by decide) dX7_isKind_22
def f_X7_isKind (x0 : Int32) (x1 : Int32) (h : AH) : Option (Int32 × AH) := f_X7_isKind_4  fu x1 x0 0 h
set_option maxRecDepth 20000 in
set_option maxHeartbeats 4000000 in
theorem ct_X7_isKind (l : Launch) (g : GC) (x0 : Int32) (x1 : Int32) : Ct l yX7_isKind cX7_isKind 4 (some .boolean) 1 [.int x0, .int x1] g mkI (fun h => f_X7_isKind x0 x1 h) := by
  refine Ct.of (by decide +kernel) (Nat.le_of_ble_eq_true rfl) (fun z A h _ F => ?_)
  show Snd z 4 g A (QF z g A mkI) 0 [(0, .int x0), (1, .int x1)] [] h (f_X7_isKind x0 x1 h)
  unfold f_X7_isKind
  refine s_iload_n F dX7_isKind_0 rfl 0 rfl ?_
  refine s_istore_n F (lv' := [(2, .int x0), (0, .int x0), (1, .int x1)]) dX7_isKind_1 rfl (by decide) rfl ?_
  refine s_iconst F (v := 0) dX7_isKind_2 (by decide) ?_
  refine s_istore_n F (lv' := [(3, .int 0), (2, .int x0), (0, .int x0), (1, .int x1)]) dX7_isKind_3 rfl (by decide) rfl ?_
  exact s_sub [3, 1, 0] rfl (t_X7_isKind_4 F  fu x1 x0 0 h)
end
section
theorem dX2_markWent_0 : decode cX2_markWent 0 = .ok (.iload_n 1, 1) := by decide +kernel
theorem dX2_markWent_1 : decode cX2_markWent 1 = .ok (.bipush 12, 2) := by decide +kernel
theorem dX2_markWent_3 : decode cX2_markWent 3 = .ok (.imul, 1) := by decide +kernel
theorem dX2_markWent_4 : decode cX2_markWent 4 = .ok (.aload_n 0, 1) := by decide +kernel
theorem dX2_markWent_5 : decode cX2_markWent 5 = .ok (.getfield 47, 3) := by decide +kernel
theorem dX2_markWent_8 : decode cX2_markWent 8 = .ok (.iadd, 1) := by decide +kernel
theorem dX2_markWent_9 : decode cX2_markWent 9 = .ok (.istore 4, 2) := by decide +kernel
theorem dX2_markWent_11 : decode cX2_markWent 11 = .ok (.aload_n 0, 1) := by decide +kernel
theorem dX2_markWent_12 : decode cX2_markWent 12 = .ok (.getfield 33, 3) := by decide +kernel
theorem dX2_markWent_15 : decode cX2_markWent 15 = .ok (.iload 4, 2) := by decide +kernel
theorem dX2_markWent_17 : decode cX2_markWent 17 = .ok (.aload_n 0, 1) := by decide +kernel
theorem dX2_markWent_18 : decode cX2_markWent 18 = .ok (.getfield 33, 3) := by decide +kernel
theorem dX2_markWent_21 : decode cX2_markWent 21 = .ok (.iload 4, 2) := by decide +kernel
theorem dX2_markWent_23 : decode cX2_markWent 23 = .ok (.iaload, 1) := by decide +kernel
theorem dX2_markWent_24 : decode cX2_markWent 24 = .ok (.iload_n 2, 1) := by decide +kernel
theorem dX2_markWent_25 : decode cX2_markWent 25 = .ok (.iload_n 3, 1) := by decide +kernel
theorem dX2_markWent_26 : decode cX2_markWent 26 = .ok (.invokestatic 87, 3) := by decide +kernel
theorem dX2_markWent_29 : decode cX2_markWent 29 = .ok (.iastore, 1) := by decide +kernel
theorem dX2_markWent_30 : decode cX2_markWent 30 = .ok (.return_, 1) := by decide +kernel
theorem yv_X2_markWent : YV yX2_markWent cX2_markWent 5 none 3 := ⟨m632, ms12, m5, m633, ⟨by decide +kernel, by decide +kernel, by decide +kernel⟩, by decide⟩
def f_X2_markWent (q : Nat) (x1 : Int32) (x2 : Int32) (x3 : Int32) (h : AH) : Option (Unit × AH) := lt (((x1 * 12) + (h q 3))) (fun v_1 => ck v_1 24 (bd (f_X7_withBit (h (q + 8) (v_1 : Int32).toNatClampNeg) x2 x3 h) (fun v_5 h_4 => ck v_1 24 (lt (hset h_4 (q + 8) (v_1 : Int32).toNatClampNeg v_5) (fun h_6 => some ((), h_6))))))
set_option maxRecDepth 20000 in
set_option maxHeartbeats 4000000 in
theorem ct_X2_markWent (l : Launch) (g : GC) {q : Nat} (hq : (gL g)[q]? = some (.inl 2)) (x1 : Int32) (x2 : Int32) (x3 : Int32) : Ct l yX2_markWent cX2_markWent 5 none 2 [.ref (gad g q), .int x1, .int x2, .int x3] g mkU (fun h => f_X2_markWent q x1 x2 x3 h) := by
  refine Ct.of (by decide +kernel) (Nat.le_of_ble_eq_true rfl) (fun z A h _ F => ?_)
  show Snd z 5 g A (QF z g A mkU) 0 [(0, .ref (gad g q)), (1, .int x1), (2, .int x2), (3, .int x3)] [] h (f_X2_markWent q x1 x2 x3 h)
  unfold f_X2_markWent
  refine s_iload_n F dX2_markWent_0 rfl 1 rfl ?_
  refine s_bipush F (v := 12) dX2_markWent_1 (by decide) ?_
  refine s_imul F dX2_markWent_3 ?_
  refine s_aload_n F dX2_markWent_4 rfl 0 rfl ?_
  refine s_geti F ciX2 3 hq (by decide) rfl rfl m89 dX2_markWent_5 ?_
  refine s_iadd F dX2_markWent_8 ?_
  refine s_leti (fun v_1 => ?_)
  refine s_istore F (lv' := [(4, .int v_1), (0, .ref (gad g q)), (1, .int x1), (2, .int x2), (3, .int x3)]) dX2_markWent_9 (by decide) rfl ?_
  refine s_aload_n F dX2_markWent_11 rfl 1 rfl ?_
  have hw_2 := wf_ref F.2.2.2.2.2.2.1 hq 14 8 (.inr (0, 24)) rfl
  refine s_getr F ciX2 14 8 (.inr (0, 24)) hq (by decide) rfl rfl m120 dX2_markWent_12 ?_
  refine s_iload F dX2_markWent_15 0 rfl ?_
  refine s_aload_n F dX2_markWent_17 rfl 1 rfl ?_
  have hw_3 := wf_ref F.2.2.2.2.2.2.1 hq 14 8 (.inr (0, 24)) rfl
  refine s_getr F ciX2 14 8 (.inr (0, 24)) hq (by decide) rfl rfl m120 dX2_markWent_18 ?_
  refine s_iload F dX2_markWent_21 0 rfl ?_
  refine s_iald F hw_3 dX2_markWent_23 ?_
  refine s_iload_n F dX2_markWent_24 rfl 3 rfl ?_
  refine s_iload_n F dX2_markWent_25 rfl 4 rfl ?_
  refine s_callSNi (f := fun hh => f_X7_withBit (h (q + 8) (v_1 : Int32).toNatClampNeg) x2 x3 hh) (As := [.int (h (q + 8) (v_1 : Int32).toNatClampNeg), .int x2, .int x3]) F ys_X7_withBit (ct_X7_withBit z.2.1 g (h (q + 8) (v_1 : Int32).toNatClampNeg) x2 x3) (by decide) (List.mem_of_getElem? (i := 2) rfl) rfl rfl (Nat.le_of_ble_eq_true rfl) dX2_markWent_26 (fun v_5 h_4 e_v_5 => ?_)
  refine s_iast F hw_2 dX2_markWent_29 ?_
  refine s_letH (fun h_6 => ?_)
  exact s_vret F dX2_markWent_30
theorem dX2_sideOf_0 : decode cX2_sideOf 0 = .ok (.aload_n 0, 1) := by decide +kernel
theorem dX2_sideOf_1 : decode cX2_sideOf 1 = .ok (.getfield 24, 3) := by decide +kernel
theorem dX2_sideOf_4 : decode cX2_sideOf 4 = .ok (.iload_n 1, 1) := by decide +kernel
theorem dX2_sideOf_5 : decode cX2_sideOf 5 = .ok (.iaload, 1) := by decide +kernel
theorem dX2_sideOf_6 : decode cX2_sideOf 6 = .ok (.iconst 4, 1) := by decide +kernel
theorem dX2_sideOf_7 : decode cX2_sideOf 7 = .ok (.if_icmp .lt 7, 3) := by decide +kernel
theorem dX2_sideOf_10 : decode cX2_sideOf 10 = .ok (.iconst 1, 1) := by decide +kernel
theorem dX2_sideOf_11 : decode cX2_sideOf 11 = .ok (.goto 4, 3) := by decide +kernel
theorem dX2_sideOf_14 : decode cX2_sideOf 14 = .ok (.iconst 0, 1) := by decide +kernel
theorem dX2_sideOf_15 : decode cX2_sideOf 15 = .ok (.ireturn, 1) := by decide +kernel
theorem yv_X2_sideOf : YV yX2_sideOf cX2_sideOf 2 (some .int) 1 := ⟨m604, m605, m5, m606, ⟨by decide +kernel, by decide +kernel, by decide +kernel⟩, by decide⟩
def f_X2_sideOf (q : Nat) (x1 : Int32) (h : AH) : Option (Int32 × AH) := ck x1 6 (if (h (q + 5) (x1 : Int32).toNatClampNeg) < 4 then (some (0, h)) else (some (1, h)))
set_option maxRecDepth 20000 in
set_option maxHeartbeats 4000000 in
theorem ct_X2_sideOf (l : Launch) (g : GC) {q : Nat} (hq : (gL g)[q]? = some (.inl 2)) (x1 : Int32) : Ct l yX2_sideOf cX2_sideOf 2 (some .int) 1 [.ref (gad g q), .int x1] g mkI (fun h => f_X2_sideOf q x1 h) := by
  refine Ct.of (by decide +kernel) (Nat.le_of_ble_eq_true rfl) (fun z A h _ F => ?_)
  show Snd z 2 g A (QF z g A mkI) 0 [(0, .ref (gad g q)), (1, .int x1)] [] h (f_X2_sideOf q x1 h)
  unfold f_X2_sideOf
  refine s_aload_n F dX2_sideOf_0 rfl 0 rfl ?_
  have hw_1 := wf_ref F.2.2.2.2.2.2.1 hq 11 5 (.inr (0, 6)) rfl
  refine s_getr F ciX2 11 5 (.inr (0, 6)) hq (by decide) rfl rfl m110 dX2_sideOf_1 ?_
  refine s_iload_n F dX2_sideOf_4 rfl 1 rfl ?_
  refine s_iald F hw_1 dX2_sideOf_5 ?_
  refine s_iconst F (v := 4) dX2_sideOf_6 (by decide) ?_
  refine s_icmp_lt F 14 dX2_sideOf_7 (by decide) (fun _ => ?_) (fun _ => ?_)
  · refine s_iconst F (v := 0) dX2_sideOf_14 (by decide) ?_
    exact s_iret F dX2_sideOf_15
  · refine s_iconst F (v := 1) dX2_sideOf_10 (by decide) ?_
    refine s_goto F 15 dX2_sideOf_11 (by decide) ?_
    exact s_iret F dX2_sideOf_15
theorem dX2_comeBack_0 : decode cX2_comeBack 0 = .ok (.aload_n 0, 1) := by decide +kernel
theorem dX2_comeBack_1 : decode cX2_comeBack 1 = .ok (.aload_n 0, 1) := by decide +kernel
theorem dX2_comeBack_2 : decode cX2_comeBack 2 = .ok (.getfield 56, 3) := by decide +kernel
theorem dX2_comeBack_5 : decode cX2_comeBack 5 = .ok (.iload_n 1, 1) := by decide +kernel
theorem dX2_comeBack_6 : decode cX2_comeBack 6 = .ok (.iconst 0, 1) := by decide +kernel
theorem dX2_comeBack_7 : decode cX2_comeBack 7 = .ok (.invokestatic 87, 3) := by decide +kernel
theorem dX2_comeBack_10 : decode cX2_comeBack 10 = .ok (.putfield 56, 3) := by decide +kernel
theorem dX2_comeBack_13 : decode cX2_comeBack 13 = .ok (.aload_n 0, 1) := by decide +kernel
theorem dX2_comeBack_14 : decode cX2_comeBack 14 = .ok (.aload_n 0, 1) := by decide +kernel
theorem dX2_comeBack_15 : decode cX2_comeBack 15 = .ok (.iload_n 1, 1) := by decide +kernel
theorem dX2_comeBack_16 : decode cX2_comeBack 16 = .ok (.invokevirtual 118, 3) := by decide +kernel
theorem dX2_comeBack_19 : decode cX2_comeBack 19 = .ok (.iload_n 2, 1) := by decide +kernel
theorem dX2_comeBack_20 : decode cX2_comeBack 20 = .ok (.iconst 0, 1) := by decide +kernel
theorem dX2_comeBack_21 : decode cX2_comeBack 21 = .ok (.invokevirtual 128, 3) := by decide +kernel
theorem dX2_comeBack_24 : decode cX2_comeBack 24 = .ok (.aload_n 0, 1) := by decide +kernel
theorem dX2_comeBack_25 : decode cX2_comeBack 25 = .ok (.dup, 1) := by decide +kernel
theorem dX2_comeBack_26 : decode cX2_comeBack 26 = .ok (.getfield 50, 3) := by decide +kernel
theorem dX2_comeBack_29 : decode cX2_comeBack 29 = .ok (.iload_n 3, 1) := by decide +kernel
theorem dX2_comeBack_30 : decode cX2_comeBack 30 = .ok (.isub, 1) := by decide +kernel
theorem dX2_comeBack_31 : decode cX2_comeBack 31 = .ok (.putfield 50, 3) := by decide +kernel
theorem dX2_comeBack_34 : decode cX2_comeBack 34 = .ok (.return_, 1) := by decide +kernel
theorem yv_X2_comeBack : YV yX2_comeBack cX2_comeBack 4 none 3 := ⟨m666, m667, m5, m668, ⟨by decide +kernel, by decide +kernel, by decide +kernel⟩, by decide⟩
def f_X2_comeBack (q : Nat) (x1 : Int32) (x2 : Int32) (x3 : Int32) (h : AH) : Option (Unit × AH) := bd (f_X7_withBit (h q 6) x1 0 h) (fun v_2 h_1 => lt (hset h_1 q 6 v_2) (fun h_3 => bd (f_X2_sideOf q x1 h_3) (fun v_5 h_4 => bd (f_X2_markWent q v_5 x2 0 h_4) (fun _ h_6 => lt (hset h_6 q 4 ((h_6 q 4) - x3)) (fun h_8 => some ((), h_8))))))
set_option maxRecDepth 20000 in
set_option maxHeartbeats 4000000 in
theorem ct_X2_comeBack (l : Launch) (g : GC) {q : Nat} (hq : (gL g)[q]? = some (.inl 2)) (x1 : Int32) (x2 : Int32) (x3 : Int32) : Ct l yX2_comeBack cX2_comeBack 4 none 3 [.ref (gad g q), .int x1, .int x2, .int x3] g mkU (fun h => f_X2_comeBack q x1 x2 x3 h) := by
  refine Ct.of (by decide +kernel) (Nat.le_of_ble_eq_true rfl) (fun z A h _ F => ?_)
  show Snd z 4 g A (QF z g A mkU) 0 [(0, .ref (gad g q)), (1, .int x1), (2, .int x2), (3, .int x3)] [] h (f_X2_comeBack q x1 x2 x3 h)
  unfold f_X2_comeBack
  refine s_aload_n F dX2_comeBack_0 rfl 0 rfl ?_
  refine s_aload_n F dX2_comeBack_1 rfl 0 rfl ?_
  refine s_geti F ciX2 6 hq (by decide) rfl rfl m97 dX2_comeBack_2 ?_
  refine s_iload_n F dX2_comeBack_5 rfl 1 rfl ?_
  refine s_iconst F (v := 0) dX2_comeBack_6 (by decide) ?_
  refine s_callSNi (f := fun hh => f_X7_withBit (h q 6) x1 0 hh) (As := [.int (h q 6), .int x1, .int 0]) F ys_X7_withBit (ct_X7_withBit z.2.1 g (h q 6) x1 0) (by decide) (List.mem_of_getElem? (i := 2) rfl) rfl rfl (Nat.le_of_ble_eq_true rfl) dX2_comeBack_7 (fun v_2 h_1 e_v_2 => ?_)
  refine s_put F ciX2 (k := 6) hq (by decide) rfl rfl rfl rfl m97 dX2_comeBack_10 ?_
  refine s_letH (fun h_3 => ?_)
  refine s_aload_n F dX2_comeBack_13 rfl 0 rfl ?_
  refine s_aload_n F dX2_comeBack_14 rfl 0 rfl ?_
  refine s_iload_n F dX2_comeBack_15 rfl 1 rfl ?_
  refine s_callVi (f := fun hh => f_X2_sideOf q x1 hh) (As := [.int x1]) F yv_X2_sideOf (ct_X2_sideOf z.2.1 g hq x1) (by decide) m603 hq rfl rfl rfl (Nat.le_of_ble_eq_true rfl) dX2_comeBack_16 (fun v_5 h_4 e_v_5 => ?_)
  refine s_iload_n F dX2_comeBack_19 rfl 2 rfl ?_
  refine s_iconst F (v := 0) dX2_comeBack_20 (by decide) ?_
  refine s_callVu (f := fun hh => f_X2_markWent q v_5 x2 0 hh) (As := [.int v_5, .int x2, .int 0]) F yv_X2_markWent (ct_X2_markWent z.2.1 g hq v_5 x2 0) (by decide) m630 hq rfl rfl rfl (Nat.le_of_ble_eq_true rfl) dX2_comeBack_21 (fun _ h_6 e_v_7 => ?_)
  refine s_aload_n F dX2_comeBack_24 rfl 0 rfl ?_
  refine s_dup F dX2_comeBack_25 rfl ?_
  refine s_geti F ciX2 4 hq (by decide) rfl rfl m92 dX2_comeBack_26 ?_
  refine s_iload_n F dX2_comeBack_29 rfl 3 rfl ?_
  refine s_isub F dX2_comeBack_30 ?_
  refine s_put F ciX2 (k := 4) hq (by decide) rfl rfl rfl rfl m92 dX2_comeBack_31 ?_
  refine s_letH (fun h_8 => ?_)
  exact s_vret F dX2_comeBack_34
theorem dX2_charterPlace_0 : decode cX2_charterPlace 0 = .ok (.iload_n 0, 1) := by decide +kernel
theorem dX2_charterPlace_1 : decode cX2_charterPlace 1 = .ok (.bipush 6, 2) := by decide +kernel
theorem dX2_charterPlace_3 : decode cX2_charterPlace 3 = .ok (.imul, 1) := by decide +kernel
theorem dX2_charterPlace_4 : decode cX2_charterPlace 4 = .ok (.iload_n 1, 1) := by decide +kernel
theorem dX2_charterPlace_5 : decode cX2_charterPlace 5 = .ok (.iadd, 1) := by decide +kernel
theorem dX2_charterPlace_6 : decode cX2_charterPlace 6 = .ok (.ireturn, 1) := by decide +kernel
theorem ys_X2_charterPlace : YS yX2_charterPlace cX2_charterPlace 2 (some .int) 2 := ⟨m470, m5, m471, ⟨by decide +kernel, by decide +kernel, by decide +kernel⟩, by decide⟩
def f_X2_charterPlace (x0 : Int32) (x1 : Int32) (h : AH) : Option (Int32 × AH) := some (((x0 * 6) + x1), h)
set_option maxRecDepth 20000 in
set_option maxHeartbeats 4000000 in
theorem ct_X2_charterPlace (l : Launch) (g : GC) (x0 : Int32) (x1 : Int32) : Ct l yX2_charterPlace cX2_charterPlace 2 (some .int) 1 [.int x0, .int x1] g mkI (fun h => f_X2_charterPlace x0 x1 h) := by
  refine Ct.of (by decide +kernel) (Nat.le_of_ble_eq_true rfl) (fun z A h _ F => ?_)
  show Snd z 2 g A (QF z g A mkI) 0 [(0, .int x0), (1, .int x1)] [] h (f_X2_charterPlace x0 x1 h)
  unfold f_X2_charterPlace
  refine s_iload_n F dX2_charterPlace_0 rfl 0 rfl ?_
  refine s_bipush F (v := 6) dX2_charterPlace_1 (by decide) ?_
  refine s_imul F dX2_charterPlace_3 ?_
  refine s_iload_n F dX2_charterPlace_4 rfl 1 rfl ?_
  refine s_iadd F dX2_charterPlace_5 ?_
  exact s_iret F dX2_charterPlace_6
theorem dX2_giveCharter_0 : decode cX2_giveCharter 0 = .ok (.aload_n 0, 1) := by decide +kernel
theorem dX2_giveCharter_1 : decode cX2_giveCharter 1 = .ok (.getfield 15, 3) := by decide +kernel
theorem dX2_giveCharter_4 : decode cX2_giveCharter 4 = .ok (.iload_n 1, 1) := by decide +kernel
theorem dX2_giveCharter_5 : decode cX2_giveCharter 5 = .ok (.iload_n 2, 1) := by decide +kernel
theorem dX2_giveCharter_6 : decode cX2_giveCharter 6 = .ok (.invokestatic 75, 3) := by decide +kernel
theorem dX2_giveCharter_9 : decode cX2_giveCharter 9 = .ok (.iload_n 3, 1) := by decide +kernel
theorem dX2_giveCharter_10 : decode cX2_giveCharter 10 = .ok (.iastore, 1) := by decide +kernel
theorem dX2_giveCharter_11 : decode cX2_giveCharter 11 = .ok (.return_, 1) := by decide +kernel
theorem yv_X2_giveCharter : YV yX2_giveCharter cX2_giveCharter 4 none 3 := ⟨m541, m542, m5, m543, ⟨by decide +kernel, by decide +kernel, by decide +kernel⟩, by decide⟩
def f_X2_giveCharter (q : Nat) (x1 : Int32) (x2 : Int32) (x3 : Int32) (h : AH) : Option (Unit × AH) := bd (f_X2_charterPlace x1 x2 h) (fun v_3 h_2 => ck v_3 12 (lt (hset h_2 (q + 2) (v_3 : Int32).toNatClampNeg x3) (fun h_4 => some ((), h_4))))
set_option maxRecDepth 20000 in
set_option maxHeartbeats 4000000 in
theorem ct_X2_giveCharter (l : Launch) (g : GC) {q : Nat} (hq : (gL g)[q]? = some (.inl 2)) (x1 : Int32) (x2 : Int32) (x3 : Int32) : Ct l yX2_giveCharter cX2_giveCharter 4 none 2 [.ref (gad g q), .int x1, .int x2, .int x3] g mkU (fun h => f_X2_giveCharter q x1 x2 x3 h) := by
  refine Ct.of (by decide +kernel) (Nat.le_of_ble_eq_true rfl) (fun z A h _ F => ?_)
  show Snd z 4 g A (QF z g A mkU) 0 [(0, .ref (gad g q)), (1, .int x1), (2, .int x2), (3, .int x3)] [] h (f_X2_giveCharter q x1 x2 x3 h)
  unfold f_X2_giveCharter
  refine s_aload_n F dX2_giveCharter_0 rfl 0 rfl ?_
  have hw_1 := wf_ref F.2.2.2.2.2.2.1 hq 8 2 (.inr (0, 12)) rfl
  refine s_getr F ciX2 8 2 (.inr (0, 12)) hq (by decide) rfl rfl m102 dX2_giveCharter_1 ?_
  refine s_iload_n F dX2_giveCharter_4 rfl 1 rfl ?_
  refine s_iload_n F dX2_giveCharter_5 rfl 2 rfl ?_
  refine s_callSi (f := fun hh => f_X2_charterPlace x1 x2 hh) (As := [.int x1, .int x2]) F ys_X2_charterPlace (ct_X2_charterPlace z.2.1 g x1 x2) (by decide) m539 rfl rfl (Nat.le_of_ble_eq_true rfl) dX2_giveCharter_6 (fun v_3 h_2 e_v_3 => ?_)
  refine s_iload_n F dX2_giveCharter_9 rfl 3 rfl ?_
  refine s_iast F hw_1 dX2_giveCharter_10 ?_
  refine s_letH (fun h_4 => ?_)
  exact s_vret F dX2_giveCharter_11
theorem dX2_loadPlace_0 : decode cX2_loadPlace 0 = .ok (.iload_n 0, 1) := by decide +kernel
theorem dX2_loadPlace_1 : decode cX2_loadPlace 1 = .ok (.iconst 4, 1) := by decide +kernel
theorem dX2_loadPlace_2 : decode cX2_loadPlace 2 = .ok (.imul, 1) := by decide +kernel
theorem dX2_loadPlace_3 : decode cX2_loadPlace 3 = .ok (.iload_n 1, 1) := by decide +kernel
theorem dX2_loadPlace_4 : decode cX2_loadPlace 4 = .ok (.iadd, 1) := by decide +kernel
theorem dX2_loadPlace_5 : decode cX2_loadPlace 5 = .ok (.ireturn, 1) := by decide +kernel
theorem ys_X2_loadPlace : YS yX2_loadPlace cX2_loadPlace 2 (some .int) 2 := ⟨m491, m5, m492, ⟨by decide +kernel, by decide +kernel, by decide +kernel⟩, by decide⟩
def f_X2_loadPlace (x0 : Int32) (x1 : Int32) (h : AH) : Option (Int32 × AH) := some (((x0 * 4) + x1), h)
set_option maxRecDepth 20000 in
set_option maxHeartbeats 4000000 in
theorem ct_X2_loadPlace (l : Launch) (g : GC) (x0 : Int32) (x1 : Int32) : Ct l yX2_loadPlace cX2_loadPlace 2 (some .int) 1 [.int x0, .int x1] g mkI (fun h => f_X2_loadPlace x0 x1 h) := by
  refine Ct.of (by decide +kernel) (Nat.le_of_ble_eq_true rfl) (fun z A h _ F => ?_)
  show Snd z 2 g A (QF z g A mkI) 0 [(0, .int x0), (1, .int x1)] [] h (f_X2_loadPlace x0 x1 h)
  unfold f_X2_loadPlace
  refine s_iload_n F dX2_loadPlace_0 rfl 0 rfl ?_
  refine s_iconst F (v := 4) dX2_loadPlace_1 (by decide) ?_
  refine s_imul F dX2_loadPlace_2 ?_
  refine s_iload_n F dX2_loadPlace_3 rfl 1 rfl ?_
  refine s_iadd F dX2_loadPlace_4 ?_
  exact s_iret F dX2_loadPlace_5
theorem dX2_loadOf_0 : decode cX2_loadOf 0 = .ok (.aload_n 0, 1) := by decide +kernel
theorem dX2_loadOf_1 : decode cX2_loadOf 1 = .ok (.getfield 30, 3) := by decide +kernel
theorem dX2_loadOf_4 : decode cX2_loadOf 4 = .ok (.iload_n 1, 1) := by decide +kernel
theorem dX2_loadOf_5 : decode cX2_loadOf 5 = .ok (.iload_n 2, 1) := by decide +kernel
theorem dX2_loadOf_6 : decode cX2_loadOf 6 = .ok (.invokestatic 78, 3) := by decide +kernel
theorem dX2_loadOf_9 : decode cX2_loadOf 9 = .ok (.iaload, 1) := by decide +kernel
theorem dX2_loadOf_10 : decode cX2_loadOf 10 = .ok (.ireturn, 1) := by decide +kernel
theorem yv_X2_loadOf : YV yX2_loadOf cX2_loadOf 3 (some .int) 2 := ⟨m588, m589, m5, m590, ⟨by decide +kernel, by decide +kernel, by decide +kernel⟩, by decide⟩
def f_X2_loadOf (q : Nat) (x1 : Int32) (x2 : Int32) (h : AH) : Option (Int32 × AH) := bd (f_X2_loadPlace x1 x2 h) (fun v_3 h_2 => ck v_3 24 (some (h_2 (q + 7) (v_3 : Int32).toNatClampNeg, h_2)))
set_option maxRecDepth 20000 in
set_option maxHeartbeats 4000000 in
theorem ct_X2_loadOf (l : Launch) (g : GC) {q : Nat} (hq : (gL g)[q]? = some (.inl 2)) (x1 : Int32) (x2 : Int32) : Ct l yX2_loadOf cX2_loadOf 3 (some .int) 2 [.ref (gad g q), .int x1, .int x2] g mkI (fun h => f_X2_loadOf q x1 x2 h) := by
  refine Ct.of (by decide +kernel) (Nat.le_of_ble_eq_true rfl) (fun z A h _ F => ?_)
  show Snd z 3 g A (QF z g A mkI) 0 [(0, .ref (gad g q)), (1, .int x1), (2, .int x2)] [] h (f_X2_loadOf q x1 x2 h)
  unfold f_X2_loadOf
  refine s_aload_n F dX2_loadOf_0 rfl 0 rfl ?_
  have hw_1 := wf_ref F.2.2.2.2.2.2.1 hq 13 7 (.inr (0, 24)) rfl
  refine s_getr F ciX2 13 7 (.inr (0, 24)) hq (by decide) rfl rfl m118 dX2_loadOf_1 ?_
  refine s_iload_n F dX2_loadOf_4 rfl 1 rfl ?_
  refine s_iload_n F dX2_loadOf_5 rfl 2 rfl ?_
  refine s_callSi (f := fun hh => f_X2_loadPlace x1 x2 hh) (As := [.int x1, .int x2]) F ys_X2_loadPlace (ct_X2_loadPlace z.2.1 g x1 x2) (by decide) m591 rfl rfl (Nat.le_of_ble_eq_true rfl) dX2_loadOf_6 (fun v_3 h_2 e_v_3 => ?_)
  refine s_iald F hw_1 dX2_loadOf_9 ?_
  exact s_iret F dX2_loadOf_10
theorem dX2_joinLast_0 : decode cX2_joinLast 0 = .ok (.aload_n 0, 1) := by decide +kernel
theorem dX2_joinLast_1 : decode cX2_joinLast 1 = .ok (.dup, 1) := by decide +kernel
theorem dX2_joinLast_2 : decode cX2_joinLast 2 = .ok (.getfield 44, 3) := by decide +kernel
theorem dX2_joinLast_5 : decode cX2_joinLast 5 = .ok (.iconst 1, 1) := by decide +kernel
theorem dX2_joinLast_6 : decode cX2_joinLast 6 = .ok (.isub, 1) := by decide +kernel
theorem dX2_joinLast_7 : decode cX2_joinLast 7 = .ok (.putfield 44, 3) := by decide +kernel
theorem dX2_joinLast_10 : decode cX2_joinLast 10 = .ok (.aload_n 0, 1) := by decide +kernel
theorem dX2_joinLast_11 : decode cX2_joinLast 11 = .ok (.getfield 30, 3) := by decide +kernel
theorem dX2_joinLast_14 : decode cX2_joinLast 14 = .ok (.iload_n 1, 1) := by decide +kernel
theorem dX2_joinLast_15 : decode cX2_joinLast 15 = .ok (.iload_n 2, 1) := by decide +kernel
theorem dX2_joinLast_16 : decode cX2_joinLast 16 = .ok (.invokestatic 78, 3) := by decide +kernel
theorem dX2_joinLast_19 : decode cX2_joinLast 19 = .ok (.aload_n 0, 1) := by decide +kernel
theorem dX2_joinLast_20 : decode cX2_joinLast 20 = .ok (.aload_n 0, 1) := by decide +kernel
theorem dX2_joinLast_21 : decode cX2_joinLast 21 = .ok (.getfield 44, 3) := by decide +kernel
theorem dX2_joinLast_24 : decode cX2_joinLast 24 = .ok (.iload_n 2, 1) := by decide +kernel
theorem dX2_joinLast_25 : decode cX2_joinLast 25 = .ok (.invokevirtual 81, 3) := by decide +kernel
theorem dX2_joinLast_28 : decode cX2_joinLast 28 = .ok (.iastore, 1) := by decide +kernel
theorem dX2_joinLast_29 : decode cX2_joinLast 29 = .ok (.return_, 1) := by decide +kernel
theorem yv_X2_joinLast : YV yX2_joinLast cX2_joinLast 3 none 2 := ⟨m670, m671, m5, m672, ⟨by decide +kernel, by decide +kernel, by decide +kernel⟩, by decide⟩
def f_X2_joinLast (q : Nat) (x1 : Int32) (x2 : Int32) (h : AH) : Option (Unit × AH) := lt (hset h q 2 ((h q 2) - 1)) (fun h_1 => bd (f_X2_loadPlace x1 x2 h_1) (fun v_4 h_3 => bd (f_X2_loadOf q (h_3 q 2) x2 h_3) (fun v_6 h_5 => ck v_4 24 (lt (hset h_5 (q + 7) (v_4 : Int32).toNatClampNeg v_6) (fun h_7 => some ((), h_7))))))
set_option maxRecDepth 20000 in
set_option maxHeartbeats 4000000 in
theorem ct_X2_joinLast (l : Launch) (g : GC) {q : Nat} (hq : (gL g)[q]? = some (.inl 2)) (x1 : Int32) (x2 : Int32) : Ct l yX2_joinLast cX2_joinLast 3 none 3 [.ref (gad g q), .int x1, .int x2] g mkU (fun h => f_X2_joinLast q x1 x2 h) := by
  refine Ct.of (by decide +kernel) (Nat.le_of_ble_eq_true rfl) (fun z A h _ F => ?_)
  show Snd z 3 g A (QF z g A mkU) 0 [(0, .ref (gad g q)), (1, .int x1), (2, .int x2)] [] h (f_X2_joinLast q x1 x2 h)
  unfold f_X2_joinLast
  refine s_aload_n F dX2_joinLast_0 rfl 0 rfl ?_
  refine s_dup F dX2_joinLast_1 rfl ?_
  refine s_geti F ciX2 2 hq (by decide) rfl rfl m85 dX2_joinLast_2 ?_
  refine s_iconst F (v := 1) dX2_joinLast_5 (by decide) ?_
  refine s_isub F dX2_joinLast_6 ?_
  refine s_put F ciX2 (k := 2) hq (by decide) rfl rfl rfl rfl m85 dX2_joinLast_7 ?_
  refine s_letH (fun h_1 => ?_)
  refine s_aload_n F dX2_joinLast_10 rfl 0 rfl ?_
  have hw_2 := wf_ref F.2.2.2.2.2.2.1 hq 13 7 (.inr (0, 24)) rfl
  refine s_getr F ciX2 13 7 (.inr (0, 24)) hq (by decide) rfl rfl m118 dX2_joinLast_11 ?_
  refine s_iload_n F dX2_joinLast_14 rfl 1 rfl ?_
  refine s_iload_n F dX2_joinLast_15 rfl 2 rfl ?_
  refine s_callSi (f := fun hh => f_X2_loadPlace x1 x2 hh) (As := [.int x1, .int x2]) F ys_X2_loadPlace (ct_X2_loadPlace z.2.1 g x1 x2) (by decide) m591 rfl rfl (Nat.le_of_ble_eq_true rfl) dX2_joinLast_16 (fun v_4 h_3 e_v_4 => ?_)
  refine s_aload_n F dX2_joinLast_19 rfl 0 rfl ?_
  refine s_aload_n F dX2_joinLast_20 rfl 0 rfl ?_
  refine s_geti F ciX2 2 hq (by decide) rfl rfl m85 dX2_joinLast_21 ?_
  refine s_iload_n F dX2_joinLast_24 rfl 2 rfl ?_
  refine s_callVi (f := fun hh => f_X2_loadOf q (h_3 q 2) x2 hh) (As := [.int (h_3 q 2), .int x2]) F yv_X2_loadOf (ct_X2_loadOf z.2.1 g hq (h_3 q 2) x2) (by decide) m587 hq rfl rfl rfl (Nat.le_of_ble_eq_true rfl) dX2_joinLast_25 (fun v_6 h_5 e_v_6 => ?_)
  refine s_iast F hw_2 dX2_joinLast_28 ?_
  refine s_letH (fun h_7 => ?_)
  exact s_vret F dX2_joinLast_29
theorem dX2_allOf_0 : decode cX2_allOf 0 = .ok (.iconst 0, 1) := by decide +kernel
theorem dX2_allOf_1 : decode cX2_allOf 1 = .ok (.istore_n 2, 1) := by decide +kernel
theorem dX2_allOf_2 : decode cX2_allOf 2 = .ok (.iconst 0, 1) := by decide +kernel
theorem dX2_allOf_3 : decode cX2_allOf 3 = .ok (.istore_n 3, 1) := by decide +kernel
theorem dX2_allOf_4 : decode cX2_allOf 4 = .ok (.iload_n 3, 1) := by decide +kernel
theorem dX2_allOf_5 : decode cX2_allOf 5 = .ok (.iconst 4, 1) := by decide +kernel
theorem dX2_allOf_6 : decode cX2_allOf 6 = .ok (.if_icmp .ge 18, 3) := by decide +kernel
theorem dX2_allOf_9 : decode cX2_allOf 9 = .ok (.iload_n 2, 1) := by decide +kernel
theorem dX2_allOf_10 : decode cX2_allOf 10 = .ok (.aload_n 0, 1) := by decide +kernel
theorem dX2_allOf_11 : decode cX2_allOf 11 = .ok (.iload_n 1, 1) := by decide +kernel
theorem dX2_allOf_12 : decode cX2_allOf 12 = .ok (.iload_n 3, 1) := by decide +kernel
theorem dX2_allOf_13 : decode cX2_allOf 13 = .ok (.invokevirtual 81, 3) := by decide +kernel
theorem dX2_allOf_16 : decode cX2_allOf 16 = .ok (.iadd, 1) := by decide +kernel
theorem dX2_allOf_17 : decode cX2_allOf 17 = .ok (.istore_n 2, 1) := by decide +kernel
theorem dX2_allOf_18 : decode cX2_allOf 18 = .ok (.iinc 3 1, 3) := by decide +kernel
theorem dX2_allOf_21 : decode cX2_allOf 21 = .ok (.goto (-17), 3) := by decide +kernel
theorem dX2_allOf_24 : decode cX2_allOf 24 = .ok (.iload_n 2, 1) := by decide +kernel
theorem dX2_allOf_25 : decode cX2_allOf 25 = .ok (.ireturn, 1) := by decide +kernel
theorem yv_X2_allOf : YV yX2_allOf cX2_allOf 4 (some .int) 1 := ⟨m623, m624, m5, m625, ⟨by decide +kernel, by decide +kernel, by decide +kernel⟩, by decide⟩
def f_X2_allOf_4 (q : Nat) : Nat → Int32 → Int32 → Int32 → AH → Option (Int32 × AH)
  | 0, _, _, _, _ => none
  | n + 1, x1, x2, x3, h => if (4 : Int32) ≤ x3 then (some (x2, h)) else (bd (f_X2_loadOf q x1 x3 h) (fun v_2 h_1 => lt ((x2 + v_2)) (fun v_3 => lt (x3 + 1) (fun v_4 => (f_X2_allOf_4 q n) x1 v_3 v_4 h_1))))
set_option maxRecDepth 20000 in
set_option maxHeartbeats 4000000 in
theorem t_X2_allOf_4 {z : MC} {g : GC} {A : Nat → Prop} (F : Fx z cX2_allOf 4 RX2 (some .int) 3 g A) {q : Nat} (hq : (gL g)[q]? = some (.inl 2)) : ∀ (n : Nat) (x1 : Int32) (x2 : Int32) (x3 : Int32) (h : AH), Snd z 4 g A (QF z g A mkI) 4 [(0, .ref (gad g q)), (1, .int x1), (2, .int x2), (3, .int x3)] [] h (f_X2_allOf_4 q n x1 x2 x3 h) := by
  intro n
  induction n with
  | zero => intros; exact s_none
  | succ n ih =>
    intro x1 x2 x3 h
    unfold f_X2_allOf_4
    refine s_iload_n F dX2_allOf_4 rfl 3 rfl ?_
    refine s_iconst F (v := 4) dX2_allOf_5 (by decide) ?_
    refine s_icmp_ge F 24 dX2_allOf_6 (by decide) (fun _ => ?_) (fun _ => ?_)
    · refine s_iload_n F dX2_allOf_24 rfl 2 rfl ?_
      exact s_iret F dX2_allOf_25
    · refine s_iload_n F dX2_allOf_9 rfl 2 rfl ?_
      refine s_aload_n F dX2_allOf_10 rfl 0 rfl ?_
      refine s_iload_n F dX2_allOf_11 rfl 1 rfl ?_
      refine s_iload_n F dX2_allOf_12 rfl 3 rfl ?_
      refine s_callVi (f := fun hh => f_X2_loadOf q x1 x3 hh) (As := [.int x1, .int x3]) F yv_X2_loadOf (ct_X2_loadOf z.2.1 g hq x1 x3) (by decide) m587 hq rfl rfl rfl (Nat.le_of_ble_eq_true rfl) dX2_allOf_13 (fun v_2 h_1 e_v_2 => ?_)
      refine s_iadd F dX2_allOf_16 ?_
      refine s_leti (fun v_3 => ?_)
      refine s_istore_n F (lv' := [(2, .int v_3), (0, .ref (gad g q)), (1, .int x1), (3, .int x3)]) dX2_allOf_17 rfl (by decide) rfl ?_
      refine s_iincv F dX2_allOf_18 3 rfl (by decide) (c := 1) (by decide) (fun v_4 => ?_)
      refine s_lv (lv' := [(3, .int v_4), (2, .int v_3), (0, .ref (gad g q)), (1, .int x1)]) rfl ?_
      refine s_goto F 4 dX2_allOf_21 (by decide) ?_
      exact s_sub [2, 3, 1, 0] rfl (ih x1 v_3 v_4 h_1)
def f_X2_allOf (q : Nat) (x1 : Int32) (h : AH) : Option (Int32 × AH) := f_X2_allOf_4 q fu x1 0 0 h
set_option maxRecDepth 20000 in
set_option maxHeartbeats 4000000 in
theorem ct_X2_allOf (l : Launch) (g : GC) {q : Nat} (hq : (gL g)[q]? = some (.inl 2)) (x1 : Int32) : Ct l yX2_allOf cX2_allOf 4 (some .int) 3 [.ref (gad g q), .int x1] g mkI (fun h => f_X2_allOf q x1 h) := by
  refine Ct.of (by decide +kernel) (Nat.le_of_ble_eq_true rfl) (fun z A h _ F => ?_)
  show Snd z 4 g A (QF z g A mkI) 0 [(0, .ref (gad g q)), (1, .int x1)] [] h (f_X2_allOf q x1 h)
  unfold f_X2_allOf
  refine s_iconst F (v := 0) dX2_allOf_0 (by decide) ?_
  refine s_istore_n F (lv' := [(2, .int 0), (0, .ref (gad g q)), (1, .int x1)]) dX2_allOf_1 rfl (by decide) rfl ?_
  refine s_iconst F (v := 0) dX2_allOf_2 (by decide) ?_
  refine s_istore_n F (lv' := [(3, .int 0), (2, .int 0), (0, .ref (gad g q)), (1, .int x1)]) dX2_allOf_3 rfl (by decide) rfl ?_
  exact s_sub [2, 3, 1, 0] rfl (t_X2_allOf_4 F hq fu x1 0 0 h)
theorem dX2_clear_0 : decode cX2_clear 0 = .ok (.aload_n 0, 1) := by decide +kernel
theorem dX2_clear_1 : decode cX2_clear 1 = .ok (.iconst 0, 1) := by decide +kernel
theorem dX2_clear_2 : decode cX2_clear 2 = .ok (.putfield 36, 3) := by decide +kernel
theorem dX2_clear_5 : decode cX2_clear 5 = .ok (.aload_n 0, 1) := by decide +kernel
theorem dX2_clear_6 : decode cX2_clear 6 = .ok (.iconst 0, 1) := by decide +kernel
theorem dX2_clear_7 : decode cX2_clear 7 = .ok (.putfield 40, 3) := by decide +kernel
theorem dX2_clear_10 : decode cX2_clear 10 = .ok (.aload_n 0, 1) := by decide +kernel
theorem dX2_clear_11 : decode cX2_clear 11 = .ok (.iconst 0, 1) := by decide +kernel
theorem dX2_clear_12 : decode cX2_clear 12 = .ok (.putfield 44, 3) := by decide +kernel
theorem dX2_clear_15 : decode cX2_clear 15 = .ok (.aload_n 0, 1) := by decide +kernel
theorem dX2_clear_16 : decode cX2_clear 16 = .ok (.iconst 0, 1) := by decide +kernel
theorem dX2_clear_17 : decode cX2_clear 17 = .ok (.putfield 47, 3) := by decide +kernel
theorem dX2_clear_20 : decode cX2_clear 20 = .ok (.aload_n 0, 1) := by decide +kernel
theorem dX2_clear_21 : decode cX2_clear 21 = .ok (.iconst 0, 1) := by decide +kernel
theorem dX2_clear_22 : decode cX2_clear 22 = .ok (.putfield 50, 3) := by decide +kernel
theorem dX2_clear_25 : decode cX2_clear 25 = .ok (.aload_n 0, 1) := by decide +kernel
theorem dX2_clear_26 : decode cX2_clear 26 = .ok (.iconst 0, 1) := by decide +kernel
theorem dX2_clear_27 : decode cX2_clear 27 = .ok (.putfield 53, 3) := by decide +kernel
theorem dX2_clear_30 : decode cX2_clear 30 = .ok (.aload_n 0, 1) := by decide +kernel
theorem dX2_clear_31 : decode cX2_clear 31 = .ok (.iconst 0, 1) := by decide +kernel
theorem dX2_clear_32 : decode cX2_clear 32 = .ok (.putfield 56, 3) := by decide +kernel
theorem dX2_clear_35 : decode cX2_clear 35 = .ok (.aload_n 0, 1) := by decide +kernel
theorem dX2_clear_36 : decode cX2_clear 36 = .ok (.getfield 33, 3) := by decide +kernel
theorem dX2_clear_39 : decode cX2_clear 39 = .ok (.iconst 0, 1) := by decide +kernel
theorem dX2_clear_40 : decode cX2_clear 40 = .ok (.invokestatic 59, 3) := by decide +kernel
theorem dX2_clear_43 : decode cX2_clear 43 = .ok (.return_, 1) := by decide +kernel
theorem yv_X2_clear : YV yX2_clear cX2_clear 1 none 0 := ⟨m358, m359, m5, m360, ⟨by decide +kernel, by decide +kernel, by decide +kernel⟩, by decide⟩
def f_X2_clear (q : Nat) (h : AH) : Option (Unit × AH) := gz 0 (lt (hset h q 0 0) (fun h_1 => lt (hset h_1 q 1 0) (fun h_2 => lt (hset h_2 q 2 0) (fun h_3 => lt (hset h_3 q 3 0) (fun h_4 => lt (hset h_4 q 4 0) (fun h_5 => lt (hset h_5 q 5 0) (fun h_6 => lt (hset h_6 q 6 0) (fun h_7 => bd (f_J7_fill_53178 (q + 8) 24 0 h_7) (fun _ h_9 => some ((), h_9))))))))))
set_option maxRecDepth 20000 in
set_option maxHeartbeats 4000000 in
theorem ct_X2_clear (l : Launch) (g : GC) {q : Nat} (hq : (gL g)[q]? = some (.inl 2)) : Ct l yX2_clear cX2_clear 1 none 2 [.ref (gad g q)] g mkU (fun h => f_X2_clear q h) := by
  refine Ct.of (by decide +kernel) (Nat.le_of_ble_eq_true rfl) (fun z A h _ F => ?_)
  show Snd z 1 g A (QF z g A mkU) 0 [(0, .ref (gad g q))] [] h (f_X2_clear q h)
  unfold f_X2_clear
  refine s_aload_n F dX2_clear_0 rfl 0 rfl ?_
  refine s_iconst F (v := 0) dX2_clear_1 (by decide) ?_
  refine s_putZ F ciX2 (k := 0) hq (by decide) rfl rfl rfl rfl m78 dX2_clear_2 ?_
  refine s_letH (fun h_1 => ?_)
  refine s_aload_n F dX2_clear_5 rfl 0 rfl ?_
  refine s_iconst F (v := 0) dX2_clear_6 (by decide) ?_
  refine s_put F ciX2 (k := 1) hq (by decide) rfl rfl rfl rfl m81 dX2_clear_7 ?_
  refine s_letH (fun h_2 => ?_)
  refine s_aload_n F dX2_clear_10 rfl 0 rfl ?_
  refine s_iconst F (v := 0) dX2_clear_11 (by decide) ?_
  refine s_put F ciX2 (k := 2) hq (by decide) rfl rfl rfl rfl m85 dX2_clear_12 ?_
  refine s_letH (fun h_3 => ?_)
  refine s_aload_n F dX2_clear_15 rfl 0 rfl ?_
  refine s_iconst F (v := 0) dX2_clear_16 (by decide) ?_
  refine s_put F ciX2 (k := 3) hq (by decide) rfl rfl rfl rfl m89 dX2_clear_17 ?_
  refine s_letH (fun h_4 => ?_)
  refine s_aload_n F dX2_clear_20 rfl 0 rfl ?_
  refine s_iconst F (v := 0) dX2_clear_21 (by decide) ?_
  refine s_put F ciX2 (k := 4) hq (by decide) rfl rfl rfl rfl m92 dX2_clear_22 ?_
  refine s_letH (fun h_5 => ?_)
  refine s_aload_n F dX2_clear_25 rfl 0 rfl ?_
  refine s_iconst F (v := 0) dX2_clear_26 (by decide) ?_
  refine s_put F ciX2 (k := 5) hq (by decide) rfl rfl rfl rfl m94 dX2_clear_27 ?_
  refine s_letH (fun h_6 => ?_)
  refine s_aload_n F dX2_clear_30 rfl 0 rfl ?_
  refine s_iconst F (v := 0) dX2_clear_31 (by decide) ?_
  refine s_put F ciX2 (k := 6) hq (by decide) rfl rfl rfl rfl m97 dX2_clear_32 ?_
  refine s_letH (fun h_7 => ?_)
  refine s_aload_n F dX2_clear_35 rfl 0 rfl ?_
  have hw_8 := wf_ref F.2.2.2.2.2.2.1 hq 14 8 (.inr (0, 24)) rfl
  refine s_getr F ciX2 14 8 (.inr (0, 24)) hq (by decide) rfl rfl m120 dX2_clear_36 ?_
  refine s_iconst F (v := 0) dX2_clear_39 (by decide) ?_
  refine s_callSu (f := fun hh => f_J7_fill_53178 (q + 8) 24 0 hh) (As := [.ref (gad g (q + 8)), .int 0]) F ys_J7_fill_53178 (ct_J7_fill_53178 z.2.1 g hw_8 0) (by decide) m361 rfl rfl (Nat.le_of_ble_eq_true rfl) dX2_clear_40 (fun _ h_9 e_v_10 => ?_)
  exact s_vret F dX2_clear_43
theorem dX2_become_0 : decode cX2_become 0 = .ok (.aload_n 0, 1) := by decide +kernel
theorem dX2_become_1 : decode cX2_become 1 = .ok (.aload_n 1, 1) := by decide +kernel
theorem dX2_become_2 : decode cX2_become 2 = .ok (.getfield 36, 3) := by decide +kernel
theorem dX2_become_5 : decode cX2_become 5 = .ok (.putfield 36, 3) := by decide +kernel
theorem dX2_become_8 : decode cX2_become 8 = .ok (.aload_n 0, 1) := by decide +kernel
theorem dX2_become_9 : decode cX2_become 9 = .ok (.aload_n 1, 1) := by decide +kernel
theorem dX2_become_10 : decode cX2_become 10 = .ok (.getfield 40, 3) := by decide +kernel
theorem dX2_become_13 : decode cX2_become 13 = .ok (.putfield 40, 3) := by decide +kernel
theorem dX2_become_16 : decode cX2_become 16 = .ok (.aload_n 0, 1) := by decide +kernel
theorem dX2_become_17 : decode cX2_become 17 = .ok (.aload_n 1, 1) := by decide +kernel
theorem dX2_become_18 : decode cX2_become 18 = .ok (.getfield 44, 3) := by decide +kernel
theorem dX2_become_21 : decode cX2_become 21 = .ok (.putfield 44, 3) := by decide +kernel
theorem dX2_become_24 : decode cX2_become 24 = .ok (.aload_n 0, 1) := by decide +kernel
theorem dX2_become_25 : decode cX2_become 25 = .ok (.aload_n 1, 1) := by decide +kernel
theorem dX2_become_26 : decode cX2_become 26 = .ok (.getfield 47, 3) := by decide +kernel
theorem dX2_become_29 : decode cX2_become 29 = .ok (.putfield 47, 3) := by decide +kernel
theorem dX2_become_32 : decode cX2_become 32 = .ok (.aload_n 0, 1) := by decide +kernel
theorem dX2_become_33 : decode cX2_become 33 = .ok (.aload_n 1, 1) := by decide +kernel
theorem dX2_become_34 : decode cX2_become 34 = .ok (.getfield 50, 3) := by decide +kernel
theorem dX2_become_37 : decode cX2_become 37 = .ok (.putfield 50, 3) := by decide +kernel
theorem dX2_become_40 : decode cX2_become 40 = .ok (.aload_n 0, 1) := by decide +kernel
theorem dX2_become_41 : decode cX2_become 41 = .ok (.aload_n 1, 1) := by decide +kernel
theorem dX2_become_42 : decode cX2_become 42 = .ok (.getfield 53, 3) := by decide +kernel
theorem dX2_become_45 : decode cX2_become 45 = .ok (.putfield 53, 3) := by decide +kernel
theorem dX2_become_48 : decode cX2_become 48 = .ok (.aload_n 0, 1) := by decide +kernel
theorem dX2_become_49 : decode cX2_become 49 = .ok (.aload_n 1, 1) := by decide +kernel
theorem dX2_become_50 : decode cX2_become 50 = .ok (.getfield 56, 3) := by decide +kernel
theorem dX2_become_53 : decode cX2_become 53 = .ok (.putfield 56, 3) := by decide +kernel
theorem dX2_become_56 : decode cX2_become 56 = .ok (.aload_n 1, 1) := by decide +kernel
theorem dX2_become_57 : decode cX2_become 57 = .ok (.getfield 9, 3) := by decide +kernel
theorem dX2_become_60 : decode cX2_become 60 = .ok (.iconst 0, 1) := by decide +kernel
theorem dX2_become_61 : decode cX2_become 61 = .ok (.aload_n 0, 1) := by decide +kernel
theorem dX2_become_62 : decode cX2_become 62 = .ok (.getfield 9, 3) := by decide +kernel
theorem dX2_become_65 : decode cX2_become 65 = .ok (.iconst 0, 1) := by decide +kernel
theorem dX2_become_66 : decode cX2_become 66 = .ok (.aload_n 0, 1) := by decide +kernel
theorem dX2_become_67 : decode cX2_become 67 = .ok (.getfield 9, 3) := by decide +kernel
theorem dX2_become_70 : decode cX2_become 70 = .ok (.arraylength, 1) := by decide +kernel
theorem dX2_become_71 : decode cX2_become 71 = .ok (.invokestatic 65, 3) := by decide +kernel
theorem dX2_become_74 : decode cX2_become 74 = .ok (.aload_n 1, 1) := by decide +kernel
theorem dX2_become_75 : decode cX2_become 75 = .ok (.getfield 15, 3) := by decide +kernel
theorem dX2_become_78 : decode cX2_become 78 = .ok (.iconst 0, 1) := by decide +kernel
theorem dX2_become_79 : decode cX2_become 79 = .ok (.aload_n 0, 1) := by decide +kernel
theorem dX2_become_80 : decode cX2_become 80 = .ok (.getfield 15, 3) := by decide +kernel
theorem dX2_become_83 : decode cX2_become 83 = .ok (.iconst 0, 1) := by decide +kernel
theorem dX2_become_84 : decode cX2_become 84 = .ok (.aload_n 0, 1) := by decide +kernel
theorem dX2_become_85 : decode cX2_become 85 = .ok (.getfield 15, 3) := by decide +kernel
theorem dX2_become_88 : decode cX2_become 88 = .ok (.arraylength, 1) := by decide +kernel
theorem dX2_become_89 : decode cX2_become 89 = .ok (.invokestatic 65, 3) := by decide +kernel
theorem dX2_become_92 : decode cX2_become 92 = .ok (.aload_n 1, 1) := by decide +kernel
theorem dX2_become_93 : decode cX2_become 93 = .ok (.getfield 18, 3) := by decide +kernel
theorem dX2_become_96 : decode cX2_become 96 = .ok (.iconst 0, 1) := by decide +kernel
theorem dX2_become_97 : decode cX2_become 97 = .ok (.aload_n 0, 1) := by decide +kernel
theorem dX2_become_98 : decode cX2_become 98 = .ok (.getfield 18, 3) := by decide +kernel
theorem dX2_become_101 : decode cX2_become 101 = .ok (.iconst 0, 1) := by decide +kernel
theorem dX2_become_102 : decode cX2_become 102 = .ok (.aload_n 0, 1) := by decide +kernel
theorem dX2_become_103 : decode cX2_become 103 = .ok (.getfield 18, 3) := by decide +kernel
theorem dX2_become_106 : decode cX2_become 106 = .ok (.arraylength, 1) := by decide +kernel
theorem dX2_become_107 : decode cX2_become 107 = .ok (.invokestatic 65, 3) := by decide +kernel
theorem dX2_become_110 : decode cX2_become 110 = .ok (.aload_n 1, 1) := by decide +kernel
theorem dX2_become_111 : decode cX2_become 111 = .ok (.getfield 21, 3) := by decide +kernel
theorem dX2_become_114 : decode cX2_become 114 = .ok (.iconst 0, 1) := by decide +kernel
theorem dX2_become_115 : decode cX2_become 115 = .ok (.aload_n 0, 1) := by decide +kernel
theorem dX2_become_116 : decode cX2_become 116 = .ok (.getfield 21, 3) := by decide +kernel
theorem dX2_become_119 : decode cX2_become 119 = .ok (.iconst 0, 1) := by decide +kernel
theorem dX2_become_120 : decode cX2_become 120 = .ok (.aload_n 0, 1) := by decide +kernel
theorem dX2_become_121 : decode cX2_become 121 = .ok (.getfield 21, 3) := by decide +kernel
theorem dX2_become_124 : decode cX2_become 124 = .ok (.arraylength, 1) := by decide +kernel
theorem dX2_become_125 : decode cX2_become 125 = .ok (.invokestatic 65, 3) := by decide +kernel
theorem dX2_become_128 : decode cX2_become 128 = .ok (.aload_n 1, 1) := by decide +kernel
theorem dX2_become_129 : decode cX2_become 129 = .ok (.getfield 24, 3) := by decide +kernel
theorem dX2_become_132 : decode cX2_become 132 = .ok (.iconst 0, 1) := by decide +kernel
theorem dX2_become_133 : decode cX2_become 133 = .ok (.aload_n 0, 1) := by decide +kernel
theorem dX2_become_134 : decode cX2_become 134 = .ok (.getfield 24, 3) := by decide +kernel
theorem dX2_become_137 : decode cX2_become 137 = .ok (.iconst 0, 1) := by decide +kernel
theorem dX2_become_138 : decode cX2_become 138 = .ok (.aload_n 0, 1) := by decide +kernel
theorem dX2_become_139 : decode cX2_become 139 = .ok (.getfield 24, 3) := by decide +kernel
theorem dX2_become_142 : decode cX2_become 142 = .ok (.arraylength, 1) := by decide +kernel
theorem dX2_become_143 : decode cX2_become 143 = .ok (.invokestatic 65, 3) := by decide +kernel
theorem dX2_become_146 : decode cX2_become 146 = .ok (.aload_n 1, 1) := by decide +kernel
theorem dX2_become_147 : decode cX2_become 147 = .ok (.getfield 27, 3) := by decide +kernel
theorem dX2_become_150 : decode cX2_become 150 = .ok (.iconst 0, 1) := by decide +kernel
theorem dX2_become_151 : decode cX2_become 151 = .ok (.aload_n 0, 1) := by decide +kernel
theorem dX2_become_152 : decode cX2_become 152 = .ok (.getfield 27, 3) := by decide +kernel
theorem dX2_become_155 : decode cX2_become 155 = .ok (.iconst 0, 1) := by decide +kernel
theorem dX2_become_156 : decode cX2_become 156 = .ok (.aload_n 0, 1) := by decide +kernel
theorem dX2_become_157 : decode cX2_become 157 = .ok (.getfield 27, 3) := by decide +kernel
theorem dX2_become_160 : decode cX2_become 160 = .ok (.arraylength, 1) := by decide +kernel
theorem dX2_become_161 : decode cX2_become 161 = .ok (.invokestatic 65, 3) := by decide +kernel
theorem dX2_become_164 : decode cX2_become 164 = .ok (.aload_n 1, 1) := by decide +kernel
theorem dX2_become_165 : decode cX2_become 165 = .ok (.getfield 30, 3) := by decide +kernel
theorem dX2_become_168 : decode cX2_become 168 = .ok (.iconst 0, 1) := by decide +kernel
theorem dX2_become_169 : decode cX2_become 169 = .ok (.aload_n 0, 1) := by decide +kernel
theorem dX2_become_170 : decode cX2_become 170 = .ok (.getfield 30, 3) := by decide +kernel
theorem dX2_become_173 : decode cX2_become 173 = .ok (.iconst 0, 1) := by decide +kernel
theorem dX2_become_174 : decode cX2_become 174 = .ok (.aload_n 0, 1) := by decide +kernel
theorem dX2_become_175 : decode cX2_become 175 = .ok (.getfield 30, 3) := by decide +kernel
theorem dX2_become_178 : decode cX2_become 178 = .ok (.arraylength, 1) := by decide +kernel
theorem dX2_become_179 : decode cX2_become 179 = .ok (.invokestatic 65, 3) := by decide +kernel
theorem dX2_become_182 : decode cX2_become 182 = .ok (.aload_n 1, 1) := by decide +kernel
theorem dX2_become_183 : decode cX2_become 183 = .ok (.getfield 33, 3) := by decide +kernel
theorem dX2_become_186 : decode cX2_become 186 = .ok (.iconst 0, 1) := by decide +kernel
theorem dX2_become_187 : decode cX2_become 187 = .ok (.aload_n 0, 1) := by decide +kernel
theorem dX2_become_188 : decode cX2_become 188 = .ok (.getfield 33, 3) := by decide +kernel
theorem dX2_become_191 : decode cX2_become 191 = .ok (.iconst 0, 1) := by decide +kernel
theorem dX2_become_192 : decode cX2_become 192 = .ok (.aload_n 0, 1) := by decide +kernel
theorem dX2_become_193 : decode cX2_become 193 = .ok (.getfield 33, 3) := by decide +kernel
theorem dX2_become_196 : decode cX2_become 196 = .ok (.arraylength, 1) := by decide +kernel
theorem dX2_become_197 : decode cX2_become 197 = .ok (.invokestatic 65, 3) := by decide +kernel
theorem dX2_become_200 : decode cX2_become 200 = .ok (.return_, 1) := by decide +kernel
theorem yv_X2_become : YV yX2_become cX2_become 2 none 1 := ⟨m515, m516, m5, m517, ⟨by decide +kernel, by decide +kernel, by decide +kernel⟩, by decide⟩
def f_X2_become (q : Nat) (r1 : Nat) (h : AH) : Option (Unit × AH) := lt (h r1 0) (fun v_1 => gz v_1 (lt (hset h q 0 v_1) (fun h_2 => lt (hset h_2 q 1 (h_2 r1 1)) (fun h_3 => lt (hset h_3 q 2 (h_3 r1 2)) (fun h_4 => lt (hset h_4 q 3 (h_4 r1 3)) (fun h_5 => lt (hset h_5 q 4 (h_5 r1 4)) (fun h_6 => lt (hset h_6 q 5 (h_6 r1 5)) (fun h_7 => lt (hset h_7 q 6 (h_7 r1 6)) (fun h_8 => bh (cpy h_8 (r1 + 1) 12 0 (q + 1) 12 0 12) (fun h_12 => bh (cpy h_12 (r1 + 2) 12 0 (q + 2) 12 0 12) (fun h_16 => bh (cpy h_16 (r1 + 3) 6 0 (q + 3) 6 0 6) (fun h_20 => bh (cpy h_20 (r1 + 4) 6 0 (q + 4) 6 0 6) (fun h_24 => bh (cpy h_24 (r1 + 5) 6 0 (q + 5) 6 0 6) (fun h_28 => bh (cpy h_28 (r1 + 6) 6 0 (q + 6) 6 0 6) (fun h_32 => bh (cpy h_32 (r1 + 7) 24 0 (q + 7) 24 0 24) (fun h_36 => bh (cpy h_36 (r1 + 8) 24 0 (q + 8) 24 0 24) (fun h_40 => some ((), h_40))))))))))))))))))
set_option maxRecDepth 20000 in
set_option maxHeartbeats 4000000 in
theorem ct_X2_become (l : Launch) (g : GC) {q : Nat} (hq : (gL g)[q]? = some (.inl 2)) {r1 : Nat} (hr1 : (gL g)[r1]? = some (.inl 2)) : Ct l yX2_become cX2_become 2 none 1 [.ref (gad g q), .ref (gad g r1)] g mkU (fun h => f_X2_become q r1 h) := by
  refine Ct.of (by decide +kernel) (Nat.le_of_ble_eq_true rfl) (fun z A h _ F => ?_)
  show Snd z 2 g A (QF z g A mkU) 0 [(0, .ref (gad g q)), (1, .ref (gad g r1))] [] h (f_X2_become q r1 h)
  unfold f_X2_become
  refine s_aload_n F dX2_become_0 rfl 0 rfl ?_
  refine s_aload_n F dX2_become_1 rfl 1 rfl ?_
  refine s_geti F ciX2 0 hr1 (by decide) rfl rfl m78 dX2_become_2 ?_
  refine s_leti (fun v_1 => ?_)
  refine s_putZ F ciX2 (k := 0) hq (by decide) rfl rfl rfl rfl m78 dX2_become_5 ?_
  refine s_letH (fun h_2 => ?_)
  refine s_aload_n F dX2_become_8 rfl 0 rfl ?_
  refine s_aload_n F dX2_become_9 rfl 1 rfl ?_
  refine s_geti F ciX2 1 hr1 (by decide) rfl rfl m81 dX2_become_10 ?_
  refine s_put F ciX2 (k := 1) hq (by decide) rfl rfl rfl rfl m81 dX2_become_13 ?_
  refine s_letH (fun h_3 => ?_)
  refine s_aload_n F dX2_become_16 rfl 0 rfl ?_
  refine s_aload_n F dX2_become_17 rfl 1 rfl ?_
  refine s_geti F ciX2 2 hr1 (by decide) rfl rfl m85 dX2_become_18 ?_
  refine s_put F ciX2 (k := 2) hq (by decide) rfl rfl rfl rfl m85 dX2_become_21 ?_
  refine s_letH (fun h_4 => ?_)
  refine s_aload_n F dX2_become_24 rfl 0 rfl ?_
  refine s_aload_n F dX2_become_25 rfl 1 rfl ?_
  refine s_geti F ciX2 3 hr1 (by decide) rfl rfl m89 dX2_become_26 ?_
  refine s_put F ciX2 (k := 3) hq (by decide) rfl rfl rfl rfl m89 dX2_become_29 ?_
  refine s_letH (fun h_5 => ?_)
  refine s_aload_n F dX2_become_32 rfl 0 rfl ?_
  refine s_aload_n F dX2_become_33 rfl 1 rfl ?_
  refine s_geti F ciX2 4 hr1 (by decide) rfl rfl m92 dX2_become_34 ?_
  refine s_put F ciX2 (k := 4) hq (by decide) rfl rfl rfl rfl m92 dX2_become_37 ?_
  refine s_letH (fun h_6 => ?_)
  refine s_aload_n F dX2_become_40 rfl 0 rfl ?_
  refine s_aload_n F dX2_become_41 rfl 1 rfl ?_
  refine s_geti F ciX2 5 hr1 (by decide) rfl rfl m94 dX2_become_42 ?_
  refine s_put F ciX2 (k := 5) hq (by decide) rfl rfl rfl rfl m94 dX2_become_45 ?_
  refine s_letH (fun h_7 => ?_)
  refine s_aload_n F dX2_become_48 rfl 0 rfl ?_
  refine s_aload_n F dX2_become_49 rfl 1 rfl ?_
  refine s_geti F ciX2 6 hr1 (by decide) rfl rfl m97 dX2_become_50 ?_
  refine s_put F ciX2 (k := 6) hq (by decide) rfl rfl rfl rfl m97 dX2_become_53 ?_
  refine s_letH (fun h_8 => ?_)
  refine s_aload_n F dX2_become_56 rfl 1 rfl ?_
  have hw_9 := wf_ref F.2.2.2.2.2.2.1 hr1 7 1 (.inr (0, 12)) rfl
  refine s_getr F ciX2 7 1 (.inr (0, 12)) hr1 (by decide) rfl rfl m99 dX2_become_57 ?_
  refine s_iconst F (v := 0) dX2_become_60 (by decide) ?_
  refine s_aload_n F dX2_become_61 rfl 0 rfl ?_
  have hw_10 := wf_ref F.2.2.2.2.2.2.1 hq 7 1 (.inr (0, 12)) rfl
  refine s_getr F ciX2 7 1 (.inr (0, 12)) hq (by decide) rfl rfl m99 dX2_become_62 ?_
  refine s_iconst F (v := 0) dX2_become_65 (by decide) ?_
  refine s_aload_n F dX2_become_66 rfl 0 rfl ?_
  have hw_11 := wf_ref F.2.2.2.2.2.2.1 hq 7 1 (.inr (0, 12)) rfl
  refine s_getr F ciX2 7 1 (.inr (0, 12)) hq (by decide) rfl rfl m99 dX2_become_67 ?_
  refine s_alen F (v := 12) hw_11 rfl dX2_become_70 ?_
  refine s_cpy F (by decide) hw_9 hw_10 m518 m327 m326 m10 (Nat.le_of_ble_eq_true rfl) dX2_become_71 (fun h_12 => ?_)
  refine s_aload_n F dX2_become_74 rfl 1 rfl ?_
  have hw_13 := wf_ref F.2.2.2.2.2.2.1 hr1 8 2 (.inr (0, 12)) rfl
  refine s_getr F ciX2 8 2 (.inr (0, 12)) hr1 (by decide) rfl rfl m102 dX2_become_75 ?_
  refine s_iconst F (v := 0) dX2_become_78 (by decide) ?_
  refine s_aload_n F dX2_become_79 rfl 0 rfl ?_
  have hw_14 := wf_ref F.2.2.2.2.2.2.1 hq 8 2 (.inr (0, 12)) rfl
  refine s_getr F ciX2 8 2 (.inr (0, 12)) hq (by decide) rfl rfl m102 dX2_become_80 ?_
  refine s_iconst F (v := 0) dX2_become_83 (by decide) ?_
  refine s_aload_n F dX2_become_84 rfl 0 rfl ?_
  have hw_15 := wf_ref F.2.2.2.2.2.2.1 hq 8 2 (.inr (0, 12)) rfl
  refine s_getr F ciX2 8 2 (.inr (0, 12)) hq (by decide) rfl rfl m102 dX2_become_85 ?_
  refine s_alen F (v := 12) hw_15 rfl dX2_become_88 ?_
  refine s_cpy F (by decide) hw_13 hw_14 m518 m327 m326 m10 (Nat.le_of_ble_eq_true rfl) dX2_become_89 (fun h_16 => ?_)
  refine s_aload_n F dX2_become_92 rfl 1 rfl ?_
  have hw_17 := wf_ref F.2.2.2.2.2.2.1 hr1 9 3 (.inr (0, 6)) rfl
  refine s_getr F ciX2 9 3 (.inr (0, 6)) hr1 (by decide) rfl rfl m104 dX2_become_93 ?_
  refine s_iconst F (v := 0) dX2_become_96 (by decide) ?_
  refine s_aload_n F dX2_become_97 rfl 0 rfl ?_
  have hw_18 := wf_ref F.2.2.2.2.2.2.1 hq 9 3 (.inr (0, 6)) rfl
  refine s_getr F ciX2 9 3 (.inr (0, 6)) hq (by decide) rfl rfl m104 dX2_become_98 ?_
  refine s_iconst F (v := 0) dX2_become_101 (by decide) ?_
  refine s_aload_n F dX2_become_102 rfl 0 rfl ?_
  have hw_19 := wf_ref F.2.2.2.2.2.2.1 hq 9 3 (.inr (0, 6)) rfl
  refine s_getr F ciX2 9 3 (.inr (0, 6)) hq (by decide) rfl rfl m104 dX2_become_103 ?_
  refine s_alen F (v := 6) hw_19 rfl dX2_become_106 ?_
  refine s_cpy F (by decide) hw_17 hw_18 m518 m327 m326 m10 (Nat.le_of_ble_eq_true rfl) dX2_become_107 (fun h_20 => ?_)
  refine s_aload_n F dX2_become_110 rfl 1 rfl ?_
  have hw_21 := wf_ref F.2.2.2.2.2.2.1 hr1 10 4 (.inr (0, 6)) rfl
  refine s_getr F ciX2 10 4 (.inr (0, 6)) hr1 (by decide) rfl rfl m107 dX2_become_111 ?_
  refine s_iconst F (v := 0) dX2_become_114 (by decide) ?_
  refine s_aload_n F dX2_become_115 rfl 0 rfl ?_
  have hw_22 := wf_ref F.2.2.2.2.2.2.1 hq 10 4 (.inr (0, 6)) rfl
  refine s_getr F ciX2 10 4 (.inr (0, 6)) hq (by decide) rfl rfl m107 dX2_become_116 ?_
  refine s_iconst F (v := 0) dX2_become_119 (by decide) ?_
  refine s_aload_n F dX2_become_120 rfl 0 rfl ?_
  have hw_23 := wf_ref F.2.2.2.2.2.2.1 hq 10 4 (.inr (0, 6)) rfl
  refine s_getr F ciX2 10 4 (.inr (0, 6)) hq (by decide) rfl rfl m107 dX2_become_121 ?_
  refine s_alen F (v := 6) hw_23 rfl dX2_become_124 ?_
  refine s_cpy F (by decide) hw_21 hw_22 m518 m327 m326 m10 (Nat.le_of_ble_eq_true rfl) dX2_become_125 (fun h_24 => ?_)
  refine s_aload_n F dX2_become_128 rfl 1 rfl ?_
  have hw_25 := wf_ref F.2.2.2.2.2.2.1 hr1 11 5 (.inr (0, 6)) rfl
  refine s_getr F ciX2 11 5 (.inr (0, 6)) hr1 (by decide) rfl rfl m110 dX2_become_129 ?_
  refine s_iconst F (v := 0) dX2_become_132 (by decide) ?_
  refine s_aload_n F dX2_become_133 rfl 0 rfl ?_
  have hw_26 := wf_ref F.2.2.2.2.2.2.1 hq 11 5 (.inr (0, 6)) rfl
  refine s_getr F ciX2 11 5 (.inr (0, 6)) hq (by decide) rfl rfl m110 dX2_become_134 ?_
  refine s_iconst F (v := 0) dX2_become_137 (by decide) ?_
  refine s_aload_n F dX2_become_138 rfl 0 rfl ?_
  have hw_27 := wf_ref F.2.2.2.2.2.2.1 hq 11 5 (.inr (0, 6)) rfl
  refine s_getr F ciX2 11 5 (.inr (0, 6)) hq (by decide) rfl rfl m110 dX2_become_139 ?_
  refine s_alen F (v := 6) hw_27 rfl dX2_become_142 ?_
  refine s_cpy F (by decide) hw_25 hw_26 m518 m327 m326 m10 (Nat.le_of_ble_eq_true rfl) dX2_become_143 (fun h_28 => ?_)
  refine s_aload_n F dX2_become_146 rfl 1 rfl ?_
  have hw_29 := wf_ref F.2.2.2.2.2.2.1 hr1 12 6 (.inr (0, 6)) rfl
  refine s_getr F ciX2 12 6 (.inr (0, 6)) hr1 (by decide) rfl rfl m114 dX2_become_147 ?_
  refine s_iconst F (v := 0) dX2_become_150 (by decide) ?_
  refine s_aload_n F dX2_become_151 rfl 0 rfl ?_
  have hw_30 := wf_ref F.2.2.2.2.2.2.1 hq 12 6 (.inr (0, 6)) rfl
  refine s_getr F ciX2 12 6 (.inr (0, 6)) hq (by decide) rfl rfl m114 dX2_become_152 ?_
  refine s_iconst F (v := 0) dX2_become_155 (by decide) ?_
  refine s_aload_n F dX2_become_156 rfl 0 rfl ?_
  have hw_31 := wf_ref F.2.2.2.2.2.2.1 hq 12 6 (.inr (0, 6)) rfl
  refine s_getr F ciX2 12 6 (.inr (0, 6)) hq (by decide) rfl rfl m114 dX2_become_157 ?_
  refine s_alen F (v := 6) hw_31 rfl dX2_become_160 ?_
  refine s_cpy F (by decide) hw_29 hw_30 m518 m327 m326 m10 (Nat.le_of_ble_eq_true rfl) dX2_become_161 (fun h_32 => ?_)
  refine s_aload_n F dX2_become_164 rfl 1 rfl ?_
  have hw_33 := wf_ref F.2.2.2.2.2.2.1 hr1 13 7 (.inr (0, 24)) rfl
  refine s_getr F ciX2 13 7 (.inr (0, 24)) hr1 (by decide) rfl rfl m118 dX2_become_165 ?_
  refine s_iconst F (v := 0) dX2_become_168 (by decide) ?_
  refine s_aload_n F dX2_become_169 rfl 0 rfl ?_
  have hw_34 := wf_ref F.2.2.2.2.2.2.1 hq 13 7 (.inr (0, 24)) rfl
  refine s_getr F ciX2 13 7 (.inr (0, 24)) hq (by decide) rfl rfl m118 dX2_become_170 ?_
  refine s_iconst F (v := 0) dX2_become_173 (by decide) ?_
  refine s_aload_n F dX2_become_174 rfl 0 rfl ?_
  have hw_35 := wf_ref F.2.2.2.2.2.2.1 hq 13 7 (.inr (0, 24)) rfl
  refine s_getr F ciX2 13 7 (.inr (0, 24)) hq (by decide) rfl rfl m118 dX2_become_175 ?_
  refine s_alen F (v := 24) hw_35 rfl dX2_become_178 ?_
  refine s_cpy F (by decide) hw_33 hw_34 m518 m327 m326 m10 (Nat.le_of_ble_eq_true rfl) dX2_become_179 (fun h_36 => ?_)
  refine s_aload_n F dX2_become_182 rfl 1 rfl ?_
  have hw_37 := wf_ref F.2.2.2.2.2.2.1 hr1 14 8 (.inr (0, 24)) rfl
  refine s_getr F ciX2 14 8 (.inr (0, 24)) hr1 (by decide) rfl rfl m120 dX2_become_183 ?_
  refine s_iconst F (v := 0) dX2_become_186 (by decide) ?_
  refine s_aload_n F dX2_become_187 rfl 0 rfl ?_
  have hw_38 := wf_ref F.2.2.2.2.2.2.1 hq 14 8 (.inr (0, 24)) rfl
  refine s_getr F ciX2 14 8 (.inr (0, 24)) hq (by decide) rfl rfl m120 dX2_become_188 ?_
  refine s_iconst F (v := 0) dX2_become_191 (by decide) ?_
  refine s_aload_n F dX2_become_192 rfl 0 rfl ?_
  have hw_39 := wf_ref F.2.2.2.2.2.2.1 hq 14 8 (.inr (0, 24)) rfl
  refine s_getr F ciX2 14 8 (.inr (0, 24)) hq (by decide) rfl rfl m120 dX2_become_193 ?_
  refine s_alen F (v := 24) hw_39 rfl dX2_become_196 ?_
  refine s_cpy F (by decide) hw_37 hw_38 m518 m327 m326 m10 (Nat.le_of_ble_eq_true rfl) dX2_become_197 (fun h_40 => ?_)
  exact s_vret F dX2_become_200
theorem dX2_isArch_0 : decode cX2_isArch 0 = .ok (.iload_n 1, 1) := by decide +kernel
theorem dX2_isArch_1 : decode cX2_isArch 1 = .ok (.ifCond .lt 15, 3) := by decide +kernel
theorem dX2_isArch_4 : decode cX2_isArch 4 = .ok (.iload_n 1, 1) := by decide +kernel
theorem dX2_isArch_5 : decode cX2_isArch 5 = .ok (.aload_n 0, 1) := by decide +kernel
theorem dX2_isArch_6 : decode cX2_isArch 6 = .ok (.getfield 40, 3) := by decide +kernel
theorem dX2_isArch_9 : decode cX2_isArch 9 = .ok (.if_icmp .ge 7, 3) := by decide +kernel
theorem dX2_isArch_12 : decode cX2_isArch 12 = .ok (.iconst 1, 1) := by decide +kernel
theorem dX2_isArch_13 : decode cX2_isArch 13 = .ok (.goto 4, 3) := by decide +kernel
theorem dX2_isArch_16 : decode cX2_isArch 16 = .ok (.iconst 0, 1) := by decide +kernel
theorem dX2_isArch_17 : decode cX2_isArch 17 = .ok (.ireturn, 1) := by decide +kernel
theorem yv_X2_isArch : YV yX2_isArch cX2_isArch 2 (some .boolean) 1 := ⟨m532, m533, m5, m534, ⟨by decide +kernel, by decide +kernel, by decide +kernel⟩, by decide⟩
def f_X2_isArch (q : Nat) (x1 : Int32) (h : AH) : Option (Int32 × AH) := if x1 < 0 then (some (0, h)) else (if (h q 1) ≤ x1 then (some (0, h)) else (some (1, h)))
set_option maxRecDepth 20000 in
set_option maxHeartbeats 4000000 in
theorem ct_X2_isArch (l : Launch) (g : GC) {q : Nat} (hq : (gL g)[q]? = some (.inl 2)) (x1 : Int32) : Ct l yX2_isArch cX2_isArch 2 (some .boolean) 1 [.ref (gad g q), .int x1] g mkI (fun h => f_X2_isArch q x1 h) := by
  refine Ct.of (by decide +kernel) (Nat.le_of_ble_eq_true rfl) (fun z A h _ F => ?_)
  show Snd z 2 g A (QF z g A mkI) 0 [(0, .ref (gad g q)), (1, .int x1)] [] h (f_X2_isArch q x1 h)
  unfold f_X2_isArch
  refine s_iload_n F dX2_isArch_0 rfl 1 rfl ?_
  refine s_if_lt F 16 dX2_isArch_1 (by decide) (fun _ => ?_) (fun _ => ?_)
  · refine s_iconst F (v := 0) dX2_isArch_16 (by decide) ?_
    exact s_zret1 F (by decide) dX2_isArch_17
  · refine s_iload_n F dX2_isArch_4 rfl 1 rfl ?_
    refine s_aload_n F dX2_isArch_5 rfl 0 rfl ?_
    refine s_geti F ciX2 1 hq (by decide) rfl rfl m81 dX2_isArch_6 ?_
    refine s_icmp_ge F 16 dX2_isArch_9 (by decide) (fun _ => ?_) (fun _ => ?_)
    · refine s_iconst F (v := 0) dX2_isArch_16 (by decide) ?_
      exact s_zret1 F (by decide) dX2_isArch_17
    · refine s_iconst F (v := 1) dX2_isArch_12 (by decide) ?_
      refine s_goto F 17 dX2_isArch_13 (by decide) ?_
      exact s_zret1 F (by decide) dX2_isArch_17
theorem dX2_isBoat_0 : decode cX2_isBoat 0 = .ok (.iload_n 1, 1) := by decide +kernel
theorem dX2_isBoat_1 : decode cX2_isBoat 1 = .ok (.ifCond .lt 15, 3) := by decide +kernel
theorem dX2_isBoat_4 : decode cX2_isBoat 4 = .ok (.iload_n 1, 1) := by decide +kernel
theorem dX2_isBoat_5 : decode cX2_isBoat 5 = .ok (.aload_n 0, 1) := by decide +kernel
theorem dX2_isBoat_6 : decode cX2_isBoat 6 = .ok (.getfield 44, 3) := by decide +kernel
theorem dX2_isBoat_9 : decode cX2_isBoat 9 = .ok (.if_icmp .ge 7, 3) := by decide +kernel
theorem dX2_isBoat_12 : decode cX2_isBoat 12 = .ok (.iconst 1, 1) := by decide +kernel
theorem dX2_isBoat_13 : decode cX2_isBoat 13 = .ok (.goto 4, 3) := by decide +kernel
theorem dX2_isBoat_16 : decode cX2_isBoat 16 = .ok (.iconst 0, 1) := by decide +kernel
theorem dX2_isBoat_17 : decode cX2_isBoat 17 = .ok (.ireturn, 1) := by decide +kernel
theorem yv_X2_isBoat : YV yX2_isBoat cX2_isBoat 2 (some .boolean) 1 := ⟨m563, m564, m5, m565, ⟨by decide +kernel, by decide +kernel, by decide +kernel⟩, by decide⟩
def f_X2_isBoat (q : Nat) (x1 : Int32) (h : AH) : Option (Int32 × AH) := if x1 < 0 then (some (0, h)) else (if (h q 2) ≤ x1 then (some (0, h)) else (some (1, h)))
set_option maxRecDepth 20000 in
set_option maxHeartbeats 4000000 in
theorem ct_X2_isBoat (l : Launch) (g : GC) {q : Nat} (hq : (gL g)[q]? = some (.inl 2)) (x1 : Int32) : Ct l yX2_isBoat cX2_isBoat 2 (some .boolean) 1 [.ref (gad g q), .int x1] g mkI (fun h => f_X2_isBoat q x1 h) := by
  refine Ct.of (by decide +kernel) (Nat.le_of_ble_eq_true rfl) (fun z A h _ F => ?_)
  show Snd z 2 g A (QF z g A mkI) 0 [(0, .ref (gad g q)), (1, .int x1)] [] h (f_X2_isBoat q x1 h)
  unfold f_X2_isBoat
  refine s_iload_n F dX2_isBoat_0 rfl 1 rfl ?_
  refine s_if_lt F 16 dX2_isBoat_1 (by decide) (fun _ => ?_) (fun _ => ?_)
  · refine s_iconst F (v := 0) dX2_isBoat_16 (by decide) ?_
    exact s_zret1 F (by decide) dX2_isBoat_17
  · refine s_iload_n F dX2_isBoat_4 rfl 1 rfl ?_
    refine s_aload_n F dX2_isBoat_5 rfl 0 rfl ?_
    refine s_geti F ciX2 2 hq (by decide) rfl rfl m85 dX2_isBoat_6 ?_
    refine s_icmp_ge F 16 dX2_isBoat_9 (by decide) (fun _ => ?_) (fun _ => ?_)
    · refine s_iconst F (v := 0) dX2_isBoat_16 (by decide) ?_
      exact s_zret1 F (by decide) dX2_isBoat_17
    · refine s_iconst F (v := 1) dX2_isBoat_12 (by decide) ?_
      refine s_goto F 17 dX2_isBoat_13 (by decide) ?_
      exact s_zret1 F (by decide) dX2_isBoat_17
theorem dX2_isShut_0 : decode cX2_isShut 0 = .ok (.aload_n 0, 1) := by decide +kernel
theorem dX2_isShut_1 : decode cX2_isShut 1 = .ok (.getfield 53, 3) := by decide +kernel
theorem dX2_isShut_4 : decode cX2_isShut 4 = .ok (.iload_n 1, 1) := by decide +kernel
theorem dX2_isShut_5 : decode cX2_isShut 5 = .ok (.invokestatic 71, 3) := by decide +kernel
theorem dX2_isShut_8 : decode cX2_isShut 8 = .ok (.iconst 1, 1) := by decide +kernel
theorem dX2_isShut_9 : decode cX2_isShut 9 = .ok (.if_icmp .ne 7, 3) := by decide +kernel
theorem dX2_isShut_12 : decode cX2_isShut 12 = .ok (.iconst 1, 1) := by decide +kernel
theorem dX2_isShut_13 : decode cX2_isShut 13 = .ok (.goto 4, 3) := by decide +kernel
theorem dX2_isShut_16 : decode cX2_isShut 16 = .ok (.iconst 0, 1) := by decide +kernel
theorem dX2_isShut_17 : decode cX2_isShut 17 = .ok (.ireturn, 1) := by decide +kernel
theorem yv_X2_isShut : YV yX2_isShut cX2_isShut 2 (some .boolean) 1 := ⟨m576, m577, m5, m578, ⟨by decide +kernel, by decide +kernel, by decide +kernel⟩, by decide⟩
def f_X2_isShut (q : Nat) (x1 : Int32) (h : AH) : Option (Int32 × AH) := bd (f_X7_bitOf (h q 5) x1 h) (fun v_2 h_1 => if v_2 = 1 then (some (1, h_1)) else (some (0, h_1)))
set_option maxRecDepth 20000 in
set_option maxHeartbeats 4000000 in
theorem ct_X2_isShut (l : Launch) (g : GC) {q : Nat} (hq : (gL g)[q]? = some (.inl 2)) (x1 : Int32) : Ct l yX2_isShut cX2_isShut 2 (some .boolean) 2 [.ref (gad g q), .int x1] g mkI (fun h => f_X2_isShut q x1 h) := by
  refine Ct.of (by decide +kernel) (Nat.le_of_ble_eq_true rfl) (fun z A h _ F => ?_)
  show Snd z 2 g A (QF z g A mkI) 0 [(0, .ref (gad g q)), (1, .int x1)] [] h (f_X2_isShut q x1 h)
  unfold f_X2_isShut
  refine s_aload_n F dX2_isShut_0 rfl 0 rfl ?_
  refine s_geti F ciX2 5 hq (by decide) rfl rfl m94 dX2_isShut_1 ?_
  refine s_iload_n F dX2_isShut_4 rfl 1 rfl ?_
  refine s_callSNi (f := fun hh => f_X7_bitOf (h q 5) x1 hh) (As := [.int (h q 5), .int x1]) F ys_X7_bitOf (ct_X7_bitOf z.2.1 g (h q 5) x1) (by decide) (List.mem_of_getElem? (i := 1) rfl) rfl rfl (Nat.le_of_ble_eq_true rfl) dX2_isShut_5 (fun v_2 h_1 e_v_2 => ?_)
  refine s_iconst F (v := 1) dX2_isShut_8 (by decide) ?_
  refine s_icmp_ne F 16 dX2_isShut_9 (by decide) (fun _ => ?_) (fun _ => ?_)
  · refine s_iconst F (v := 0) dX2_isShut_16 (by decide) ?_
    exact s_zret1 F (by decide) dX2_isShut_17
  · refine s_iconst F (v := 1) dX2_isShut_12 (by decide) ?_
    refine s_goto F 17 dX2_isShut_13 (by decide) ?_
    exact s_zret1 F (by decide) dX2_isShut_17
theorem dX2_isGone_0 : decode cX2_isGone 0 = .ok (.aload_n 0, 1) := by decide +kernel
theorem dX2_isGone_1 : decode cX2_isGone 1 = .ok (.getfield 56, 3) := by decide +kernel
theorem dX2_isGone_4 : decode cX2_isGone 4 = .ok (.iload_n 1, 1) := by decide +kernel
theorem dX2_isGone_5 : decode cX2_isGone 5 = .ok (.invokestatic 71, 3) := by decide +kernel
theorem dX2_isGone_8 : decode cX2_isGone 8 = .ok (.iconst 1, 1) := by decide +kernel
theorem dX2_isGone_9 : decode cX2_isGone 9 = .ok (.if_icmp .ne 7, 3) := by decide +kernel
theorem dX2_isGone_12 : decode cX2_isGone 12 = .ok (.iconst 1, 1) := by decide +kernel
theorem dX2_isGone_13 : decode cX2_isGone 13 = .ok (.goto 4, 3) := by decide +kernel
theorem dX2_isGone_16 : decode cX2_isGone 16 = .ok (.iconst 0, 1) := by decide +kernel
theorem dX2_isGone_17 : decode cX2_isGone 17 = .ok (.ireturn, 1) := by decide +kernel
theorem yv_X2_isGone : YV yX2_isGone cX2_isGone 2 (some .boolean) 1 := ⟨m567, m568, m5, m569, ⟨by decide +kernel, by decide +kernel, by decide +kernel⟩, by decide⟩
def f_X2_isGone (q : Nat) (x1 : Int32) (h : AH) : Option (Int32 × AH) := bd (f_X7_bitOf (h q 6) x1 h) (fun v_2 h_1 => if v_2 = 1 then (some (1, h_1)) else (some (0, h_1)))
set_option maxRecDepth 20000 in
set_option maxHeartbeats 4000000 in
theorem ct_X2_isGone (l : Launch) (g : GC) {q : Nat} (hq : (gL g)[q]? = some (.inl 2)) (x1 : Int32) : Ct l yX2_isGone cX2_isGone 2 (some .boolean) 2 [.ref (gad g q), .int x1] g mkI (fun h => f_X2_isGone q x1 h) := by
  refine Ct.of (by decide +kernel) (Nat.le_of_ble_eq_true rfl) (fun z A h _ F => ?_)
  show Snd z 2 g A (QF z g A mkI) 0 [(0, .ref (gad g q)), (1, .int x1)] [] h (f_X2_isGone q x1 h)
  unfold f_X2_isGone
  refine s_aload_n F dX2_isGone_0 rfl 0 rfl ?_
  refine s_geti F ciX2 6 hq (by decide) rfl rfl m97 dX2_isGone_1 ?_
  refine s_iload_n F dX2_isGone_4 rfl 1 rfl ?_
  refine s_callSNi (f := fun hh => f_X7_bitOf (h q 6) x1 hh) (As := [.int (h q 6), .int x1]) F ys_X7_bitOf (ct_X7_bitOf z.2.1 g (h q 6) x1) (by decide) (List.mem_of_getElem? (i := 1) rfl) rfl rfl (Nat.le_of_ble_eq_true rfl) dX2_isGone_5 (fun v_2 h_1 e_v_2 => ?_)
  refine s_iconst F (v := 1) dX2_isGone_8 (by decide) ?_
  refine s_icmp_ne F 16 dX2_isGone_9 (by decide) (fun _ => ?_) (fun _ => ?_)
  · refine s_iconst F (v := 0) dX2_isGone_16 (by decide) ?_
    exact s_zret1 F (by decide) dX2_isGone_17
  · refine s_iconst F (v := 1) dX2_isGone_12 (by decide) ?_
    refine s_goto F 17 dX2_isGone_13 (by decide) ?_
    exact s_zret1 F (by decide) dX2_isGone_17
theorem dX2_charterOf_0 : decode cX2_charterOf 0 = .ok (.aload_n 0, 1) := by decide +kernel
theorem dX2_charterOf_1 : decode cX2_charterOf 1 = .ok (.getfield 15, 3) := by decide +kernel
theorem dX2_charterOf_4 : decode cX2_charterOf 4 = .ok (.iload_n 1, 1) := by decide +kernel
theorem dX2_charterOf_5 : decode cX2_charterOf 5 = .ok (.iload_n 2, 1) := by decide +kernel
theorem dX2_charterOf_6 : decode cX2_charterOf 6 = .ok (.invokestatic 75, 3) := by decide +kernel
theorem dX2_charterOf_9 : decode cX2_charterOf 9 = .ok (.iaload, 1) := by decide +kernel
theorem dX2_charterOf_10 : decode cX2_charterOf 10 = .ok (.ireturn, 1) := by decide +kernel
theorem yv_X2_charterOf : YV yX2_charterOf cX2_charterOf 3 (some .int) 2 := ⟨m536, m537, m5, m538, ⟨by decide +kernel, by decide +kernel, by decide +kernel⟩, by decide⟩
def f_X2_charterOf (q : Nat) (x1 : Int32) (x2 : Int32) (h : AH) : Option (Int32 × AH) := bd (f_X2_charterPlace x1 x2 h) (fun v_3 h_2 => ck v_3 12 (some (h_2 (q + 2) (v_3 : Int32).toNatClampNeg, h_2)))
set_option maxRecDepth 20000 in
set_option maxHeartbeats 4000000 in
theorem ct_X2_charterOf (l : Launch) (g : GC) {q : Nat} (hq : (gL g)[q]? = some (.inl 2)) (x1 : Int32) (x2 : Int32) : Ct l yX2_charterOf cX2_charterOf 3 (some .int) 2 [.ref (gad g q), .int x1, .int x2] g mkI (fun h => f_X2_charterOf q x1 x2 h) := by
  refine Ct.of (by decide +kernel) (Nat.le_of_ble_eq_true rfl) (fun z A h _ F => ?_)
  show Snd z 3 g A (QF z g A mkI) 0 [(0, .ref (gad g q)), (1, .int x1), (2, .int x2)] [] h (f_X2_charterOf q x1 x2 h)
  unfold f_X2_charterOf
  refine s_aload_n F dX2_charterOf_0 rfl 0 rfl ?_
  have hw_1 := wf_ref F.2.2.2.2.2.2.1 hq 8 2 (.inr (0, 12)) rfl
  refine s_getr F ciX2 8 2 (.inr (0, 12)) hq (by decide) rfl rfl m102 dX2_charterOf_1 ?_
  refine s_iload_n F dX2_charterOf_4 rfl 1 rfl ?_
  refine s_iload_n F dX2_charterOf_5 rfl 2 rfl ?_
  refine s_callSi (f := fun hh => f_X2_charterPlace x1 x2 hh) (As := [.int x1, .int x2]) F ys_X2_charterPlace (ct_X2_charterPlace z.2.1 g x1 x2) (by decide) m539 rfl rfl (Nat.le_of_ble_eq_true rfl) dX2_charterOf_6 (fun v_3 h_2 e_v_3 => ?_)
  refine s_iald F hw_1 dX2_charterOf_9 ?_
  exact s_iret F dX2_charterOf_10
theorem dX2_weightOf_0 : decode cX2_weightOf 0 = .ok (.iconst 0, 1) := by decide +kernel
theorem dX2_weightOf_1 : decode cX2_weightOf 1 = .ok (.istore_n 2, 1) := by decide +kernel
theorem dX2_weightOf_2 : decode cX2_weightOf 2 = .ok (.iconst 0, 1) := by decide +kernel
theorem dX2_weightOf_3 : decode cX2_weightOf 3 = .ok (.istore_n 3, 1) := by decide +kernel
theorem dX2_weightOf_4 : decode cX2_weightOf 4 = .ok (.iload_n 3, 1) := by decide +kernel
theorem dX2_weightOf_5 : decode cX2_weightOf 5 = .ok (.iconst 4, 1) := by decide +kernel
theorem dX2_weightOf_6 : decode cX2_weightOf 6 = .ok (.if_icmp .ge 24, 3) := by decide +kernel
theorem dX2_weightOf_9 : decode cX2_weightOf 9 = .ok (.iload_n 2, 1) := by decide +kernel
theorem dX2_weightOf_10 : decode cX2_weightOf 10 = .ok (.aload_n 0, 1) := by decide +kernel
theorem dX2_weightOf_11 : decode cX2_weightOf 11 = .ok (.iload_n 1, 1) := by decide +kernel
theorem dX2_weightOf_12 : decode cX2_weightOf 12 = .ok (.iload_n 3, 1) := by decide +kernel
theorem dX2_weightOf_13 : decode cX2_weightOf 13 = .ok (.invokevirtual 81, 3) := by decide +kernel
theorem dX2_weightOf_16 : decode cX2_weightOf 16 = .ok (.getstatic 84, 3) := by decide +kernel
theorem dX2_weightOf_19 : decode cX2_weightOf 19 = .ok (.iload_n 3, 1) := by decide +kernel
theorem dX2_weightOf_20 : decode cX2_weightOf 20 = .ok (.iaload, 1) := by decide +kernel
theorem dX2_weightOf_21 : decode cX2_weightOf 21 = .ok (.imul, 1) := by decide +kernel
theorem dX2_weightOf_22 : decode cX2_weightOf 22 = .ok (.iadd, 1) := by decide +kernel
theorem dX2_weightOf_23 : decode cX2_weightOf 23 = .ok (.istore_n 2, 1) := by decide +kernel
theorem dX2_weightOf_24 : decode cX2_weightOf 24 = .ok (.iinc 3 1, 3) := by decide +kernel
theorem dX2_weightOf_27 : decode cX2_weightOf 27 = .ok (.goto (-23), 3) := by decide +kernel
theorem dX2_weightOf_30 : decode cX2_weightOf 30 = .ok (.iload_n 2, 1) := by decide +kernel
theorem dX2_weightOf_31 : decode cX2_weightOf 31 = .ok (.ireturn, 1) := by decide +kernel
theorem yv_X2_weightOf : YV yX2_weightOf cX2_weightOf 4 (some .int) 1 := ⟨m808, m809, m5, m810, ⟨by decide +kernel, by decide +kernel, by decide +kernel⟩, by decide⟩
def f_X2_weightOf_4 (q : Nat) : Nat → Int32 → Int32 → Int32 → AH → Option (Int32 × AH)
  | 0, _, _, _, _ => none
  | n + 1, x1, x2, x3, h => if (4 : Int32) ≤ x3 then (some (x2, h)) else (bd (f_X2_loadOf q x1 x3 h) (fun v_2 h_1 => ck x3 4 (lt ((x2 + (v_2 * ((stv 0).getD (x3 : Int32).toNatClampNeg 0)))) (fun v_3 => lt (x3 + 1) (fun v_4 => (f_X2_weightOf_4 q n) x1 v_3 v_4 h_1)))))
set_option maxRecDepth 20000 in
set_option maxHeartbeats 4000000 in
theorem t_X2_weightOf_4 {z : MC} {g : GC} {A : Nat → Prop} (F : Fx z cX2_weightOf 4 RX2 (some .int) 3 g A) {q : Nat} (hq : (gL g)[q]? = some (.inl 2)) : ∀ (n : Nat) (x1 : Int32) (x2 : Int32) (x3 : Int32) (h : AH), Snd z 4 g A (QF z g A mkI) 4 [(0, .ref (gad g q)), (1, .int x1), (2, .int x2), (3, .int x3)] [] h (f_X2_weightOf_4 q n x1 x2 x3 h) := by
  intro n
  induction n with
  | zero => intros; exact s_none
  | succ n ih =>
    intro x1 x2 x3 h
    unfold f_X2_weightOf_4
    refine s_iload_n F dX2_weightOf_4 rfl 3 rfl ?_
    refine s_iconst F (v := 4) dX2_weightOf_5 (by decide) ?_
    refine s_icmp_ge F 30 dX2_weightOf_6 (by decide) (fun _ => ?_) (fun _ => ?_)
    · refine s_iload_n F dX2_weightOf_30 rfl 2 rfl ?_
      exact s_iret F dX2_weightOf_31
    · refine s_iload_n F dX2_weightOf_9 rfl 2 rfl ?_
      refine s_aload_n F dX2_weightOf_10 rfl 0 rfl ?_
      refine s_iload_n F dX2_weightOf_11 rfl 1 rfl ?_
      refine s_iload_n F dX2_weightOf_12 rfl 3 rfl ?_
      refine s_callVi (f := fun hh => f_X2_loadOf q x1 x3 hh) (As := [.int x1, .int x3]) F yv_X2_loadOf (ct_X2_loadOf z.2.1 g hq x1 x3) (by decide) m587 hq rfl rfl rfl (Nat.le_of_ble_eq_true rfl) dX2_weightOf_13 (fun v_2 h_1 e_v_2 => ?_)
      refine s_getsN F 0 (by decide) rfl rfl (List.mem_of_getElem? (i := 15) rfl) dX2_weightOf_16 ?_
      refine s_iload_n F dX2_weightOf_19 rfl 3 rfl ?_
      refine s_tld F 0 (by decide) rfl dX2_weightOf_20 ?_
      refine s_imul F dX2_weightOf_21 ?_
      refine s_iadd F dX2_weightOf_22 ?_
      refine s_leti (fun v_3 => ?_)
      refine s_istore_n F (lv' := [(2, .int v_3), (0, .ref (gad g q)), (1, .int x1), (3, .int x3)]) dX2_weightOf_23 rfl (by decide) rfl ?_
      refine s_iincv F dX2_weightOf_24 3 rfl (by decide) (c := 1) (by decide) (fun v_4 => ?_)
      refine s_lv (lv' := [(3, .int v_4), (2, .int v_3), (0, .ref (gad g q)), (1, .int x1)]) rfl ?_
      refine s_goto F 4 dX2_weightOf_27 (by decide) ?_
      exact s_sub [2, 3, 1, 0] rfl (ih x1 v_3 v_4 h_1)
def f_X2_weightOf (q : Nat) (x1 : Int32) (h : AH) : Option (Int32 × AH) := f_X2_weightOf_4 q fu x1 0 0 h
set_option maxRecDepth 20000 in
set_option maxHeartbeats 4000000 in
theorem ct_X2_weightOf (l : Launch) (g : GC) {q : Nat} (hq : (gL g)[q]? = some (.inl 2)) (x1 : Int32) : Ct l yX2_weightOf cX2_weightOf 4 (some .int) 3 [.ref (gad g q), .int x1] g mkI (fun h => f_X2_weightOf q x1 h) := by
  refine Ct.of (by decide +kernel) (Nat.le_of_ble_eq_true rfl) (fun z A h _ F => ?_)
  show Snd z 4 g A (QF z g A mkI) 0 [(0, .ref (gad g q)), (1, .int x1)] [] h (f_X2_weightOf q x1 h)
  unfold f_X2_weightOf
  refine s_iconst F (v := 0) dX2_weightOf_0 (by decide) ?_
  refine s_istore_n F (lv' := [(2, .int 0), (0, .ref (gad g q)), (1, .int x1)]) dX2_weightOf_1 rfl (by decide) rfl ?_
  refine s_iconst F (v := 0) dX2_weightOf_2 (by decide) ?_
  refine s_istore_n F (lv' := [(3, .int 0), (2, .int 0), (0, .ref (gad g q)), (1, .int x1)]) dX2_weightOf_3 rfl (by decide) rfl ?_
  exact s_sub [2, 3, 1, 0] rfl (t_X2_weightOf_4 F hq fu x1 0 0 h)
theorem dX2_tradesOf_0 : decode cX2_tradesOf 0 = .ok (.iconst 0, 1) := by decide +kernel
theorem dX2_tradesOf_1 : decode cX2_tradesOf 1 = .ok (.istore_n 2, 1) := by decide +kernel
theorem dX2_tradesOf_2 : decode cX2_tradesOf 2 = .ok (.iconst 0, 1) := by decide +kernel
theorem dX2_tradesOf_3 : decode cX2_tradesOf 3 = .ok (.istore_n 3, 1) := by decide +kernel
theorem dX2_tradesOf_4 : decode cX2_tradesOf 4 = .ok (.iload_n 3, 1) := by decide +kernel
theorem dX2_tradesOf_5 : decode cX2_tradesOf 5 = .ok (.iconst 4, 1) := by decide +kernel
theorem dX2_tradesOf_6 : decode cX2_tradesOf 6 = .ok (.if_icmp .ge 29, 3) := by decide +kernel
theorem dX2_tradesOf_9 : decode cX2_tradesOf 9 = .ok (.iload_n 2, 1) := by decide +kernel
theorem dX2_tradesOf_10 : decode cX2_tradesOf 10 = .ok (.iload_n 3, 1) := by decide +kernel
theorem dX2_tradesOf_11 : decode cX2_tradesOf 11 = .ok (.aload_n 0, 1) := by decide +kernel
theorem dX2_tradesOf_12 : decode cX2_tradesOf 12 = .ok (.iload_n 1, 1) := by decide +kernel
theorem dX2_tradesOf_13 : decode cX2_tradesOf 13 = .ok (.iload_n 3, 1) := by decide +kernel
theorem dX2_tradesOf_14 : decode cX2_tradesOf 14 = .ok (.invokevirtual 81, 3) := by decide +kernel
theorem dX2_tradesOf_17 : decode cX2_tradesOf 17 = .ok (.ifCond .le 7, 3) := by decide +kernel
theorem dX2_tradesOf_20 : decode cX2_tradesOf 20 = .ok (.iconst 1, 1) := by decide +kernel
theorem dX2_tradesOf_21 : decode cX2_tradesOf 21 = .ok (.goto 4, 3) := by decide +kernel
theorem dX2_tradesOf_24 : decode cX2_tradesOf 24 = .ok (.iconst 0, 1) := by decide +kernel
theorem dX2_tradesOf_25 : decode cX2_tradesOf 25 = .ok (.invokestatic 87, 3) := by decide +kernel
theorem dX2_tradesOf_28 : decode cX2_tradesOf 28 = .ok (.istore_n 2, 1) := by decide +kernel
theorem dX2_tradesOf_29 : decode cX2_tradesOf 29 = .ok (.iinc 3 1, 3) := by decide +kernel
theorem dX2_tradesOf_32 : decode cX2_tradesOf 32 = .ok (.goto (-28), 3) := by decide +kernel
theorem dX2_tradesOf_35 : decode cX2_tradesOf 35 = .ok (.iload_n 2, 1) := by decide +kernel
theorem dX2_tradesOf_36 : decode cX2_tradesOf 36 = .ok (.ireturn, 1) := by decide +kernel
theorem yv_X2_tradesOf : YV yX2_tradesOf cX2_tradesOf 4 (some .int) 1 := ⟨m585, ms11, m5, m586, ⟨by decide +kernel, by decide +kernel, by decide +kernel⟩, by decide⟩
def f_X2_tradesOf_4 (q : Nat) : Nat → Int32 → Int32 → Int32 → AH → Option (Int32 × AH)
  | 0, _, _, _, _ => none
  | n + 1, x1, x2, x3, h => if (4 : Int32) ≤ x3 then (some (x2, h)) else (bd (f_X2_loadOf q x1 x3 h) (fun v_2 h_1 => if v_2 ≤ 0 then (bd (f_X7_withBit x2 x3 0 h_1) (fun v_4 h_3 => lt (x3 + 1) (fun v_5 => (f_X2_tradesOf_4 q n) x1 v_4 v_5 h_3))) else (bd (f_X7_withBit x2 x3 1 h_1) (fun v_7 h_6 => lt (x3 + 1) (fun v_8 => (f_X2_tradesOf_4 q n) x1 v_7 v_8 h_6)))))
set_option maxRecDepth 20000 in
set_option maxHeartbeats 4000000 in
theorem t_X2_tradesOf_4 {z : MC} {g : GC} {A : Nat → Prop} (F : Fx z cX2_tradesOf 4 RX2 (some .int) 3 g A) {q : Nat} (hq : (gL g)[q]? = some (.inl 2)) : ∀ (n : Nat) (x1 : Int32) (x2 : Int32) (x3 : Int32) (h : AH), Snd z 4 g A (QF z g A mkI) 4 [(0, .ref (gad g q)), (1, .int x1), (2, .int x2), (3, .int x3)] [] h (f_X2_tradesOf_4 q n x1 x2 x3 h) := by
  intro n
  induction n with
  | zero => intros; exact s_none
  | succ n ih =>
    intro x1 x2 x3 h
    unfold f_X2_tradesOf_4
    refine s_iload_n F dX2_tradesOf_4 rfl 3 rfl ?_
    refine s_iconst F (v := 4) dX2_tradesOf_5 (by decide) ?_
    refine s_icmp_ge F 35 dX2_tradesOf_6 (by decide) (fun _ => ?_) (fun _ => ?_)
    · refine s_iload_n F dX2_tradesOf_35 rfl 2 rfl ?_
      exact s_iret F dX2_tradesOf_36
    · refine s_iload_n F dX2_tradesOf_9 rfl 2 rfl ?_
      refine s_iload_n F dX2_tradesOf_10 rfl 3 rfl ?_
      refine s_aload_n F dX2_tradesOf_11 rfl 0 rfl ?_
      refine s_iload_n F dX2_tradesOf_12 rfl 1 rfl ?_
      refine s_iload_n F dX2_tradesOf_13 rfl 3 rfl ?_
      refine s_callVi (f := fun hh => f_X2_loadOf q x1 x3 hh) (As := [.int x1, .int x3]) F yv_X2_loadOf (ct_X2_loadOf z.2.1 g hq x1 x3) (by decide) m587 hq rfl rfl rfl (Nat.le_of_ble_eq_true rfl) dX2_tradesOf_14 (fun v_2 h_1 e_v_2 => ?_)
      refine s_if_le F 24 dX2_tradesOf_17 (by decide) (fun _ => ?_) (fun _ => ?_)
      · refine s_iconst F (v := 0) dX2_tradesOf_24 (by decide) ?_
        refine s_callSNi (f := fun hh => f_X7_withBit x2 x3 0 hh) (As := [.int x2, .int x3, .int 0]) F ys_X7_withBit (ct_X7_withBit z.2.1 g x2 x3 0) (by decide) (List.mem_of_getElem? (i := 2) rfl) rfl rfl (Nat.le_of_ble_eq_true rfl) dX2_tradesOf_25 (fun v_4 h_3 e_v_4 => ?_)
        refine s_istore_n F (lv' := [(2, .int v_4), (0, .ref (gad g q)), (1, .int x1), (3, .int x3)]) dX2_tradesOf_28 rfl (by decide) rfl ?_
        refine s_iincv F dX2_tradesOf_29 3 rfl (by decide) (c := 1) (by decide) (fun v_5 => ?_)
        refine s_lv (lv' := [(3, .int v_5), (2, .int v_4), (0, .ref (gad g q)), (1, .int x1)]) rfl ?_
        refine s_goto F 4 dX2_tradesOf_32 (by decide) ?_
        exact s_sub [2, 3, 1, 0] rfl (ih x1 v_4 v_5 h_3)
      · refine s_iconst F (v := 1) dX2_tradesOf_20 (by decide) ?_
        refine s_goto F 25 dX2_tradesOf_21 (by decide) ?_
        refine s_callSNi (f := fun hh => f_X7_withBit x2 x3 1 hh) (As := [.int x2, .int x3, .int 1]) F ys_X7_withBit (ct_X7_withBit z.2.1 g x2 x3 1) (by decide) (List.mem_of_getElem? (i := 2) rfl) rfl rfl (Nat.le_of_ble_eq_true rfl) dX2_tradesOf_25 (fun v_7 h_6 e_v_7 => ?_)
        refine s_istore_n F (lv' := [(2, .int v_7), (0, .ref (gad g q)), (1, .int x1), (3, .int x3)]) dX2_tradesOf_28 rfl (by decide) rfl ?_
        refine s_iincv F dX2_tradesOf_29 3 rfl (by decide) (c := 1) (by decide) (fun v_8 => ?_)
        refine s_lv (lv' := [(3, .int v_8), (2, .int v_7), (0, .ref (gad g q)), (1, .int x1)]) rfl ?_
        refine s_goto F 4 dX2_tradesOf_32 (by decide) ?_
        exact s_sub [2, 3, 1, 0] rfl (ih x1 v_7 v_8 h_6)
def f_X2_tradesOf (q : Nat) (x1 : Int32) (h : AH) : Option (Int32 × AH) := f_X2_tradesOf_4 q fu x1 0 0 h
set_option maxRecDepth 20000 in
set_option maxHeartbeats 4000000 in
theorem ct_X2_tradesOf (l : Launch) (g : GC) {q : Nat} (hq : (gL g)[q]? = some (.inl 2)) (x1 : Int32) : Ct l yX2_tradesOf cX2_tradesOf 4 (some .int) 3 [.ref (gad g q), .int x1] g mkI (fun h => f_X2_tradesOf q x1 h) := by
  refine Ct.of (by decide +kernel) (Nat.le_of_ble_eq_true rfl) (fun z A h _ F => ?_)
  show Snd z 4 g A (QF z g A mkI) 0 [(0, .ref (gad g q)), (1, .int x1)] [] h (f_X2_tradesOf q x1 h)
  unfold f_X2_tradesOf
  refine s_iconst F (v := 0) dX2_tradesOf_0 (by decide) ?_
  refine s_istore_n F (lv' := [(2, .int 0), (0, .ref (gad g q)), (1, .int x1)]) dX2_tradesOf_1 rfl (by decide) rfl ?_
  refine s_iconst F (v := 0) dX2_tradesOf_2 (by decide) ?_
  refine s_istore_n F (lv' := [(3, .int 0), (2, .int 0), (0, .ref (gad g q)), (1, .int x1)]) dX2_tradesOf_3 rfl (by decide) rfl ?_
  exact s_sub [2, 3, 1, 0] rfl (t_X2_tradesOf_4 F hq fu x1 0 0 h)
theorem dX2_isMixed_0 : decode cX2_isMixed 0 = .ok (.aload_n 0, 1) := by decide +kernel
theorem dX2_isMixed_1 : decode cX2_isMixed 1 = .ok (.iload_n 1, 1) := by decide +kernel
theorem dX2_isMixed_2 : decode cX2_isMixed 2 = .ok (.invokevirtual 91, 3) := by decide +kernel
theorem dX2_isMixed_5 : decode cX2_isMixed 5 = .ok (.invokestatic 95, 3) := by decide +kernel
theorem dX2_isMixed_8 : decode cX2_isMixed 8 = .ok (.iconst 1, 1) := by decide +kernel
theorem dX2_isMixed_9 : decode cX2_isMixed 9 = .ok (.if_icmp .le 7, 3) := by decide +kernel
theorem dX2_isMixed_12 : decode cX2_isMixed 12 = .ok (.iconst 1, 1) := by decide +kernel
theorem dX2_isMixed_13 : decode cX2_isMixed 13 = .ok (.goto 4, 3) := by decide +kernel
theorem dX2_isMixed_16 : decode cX2_isMixed 16 = .ok (.iconst 0, 1) := by decide +kernel
theorem dX2_isMixed_17 : decode cX2_isMixed 17 = .ok (.ireturn, 1) := by decide +kernel
theorem yv_X2_isMixed : YV yX2_isMixed cX2_isMixed 2 (some .boolean) 1 := ⟨m594, m595, m5, m596, ⟨by decide +kernel, by decide +kernel, by decide +kernel⟩, by decide⟩
def f_X2_isMixed (q : Nat) (x1 : Int32) (h : AH) : Option (Int32 × AH) := bd (f_X2_tradesOf q x1 h) (fun v_2 h_1 => bd (f_J6_bitCount_0f7a4 v_2 h_1) (fun v_4 h_3 => if v_4 ≤ 1 then (some (0, h_3)) else (some (1, h_3))))
set_option maxRecDepth 20000 in
set_option maxHeartbeats 4000000 in
theorem ct_X2_isMixed (l : Launch) (g : GC) {q : Nat} (hq : (gL g)[q]? = some (.inl 2)) (x1 : Int32) : Ct l yX2_isMixed cX2_isMixed 2 (some .boolean) 4 [.ref (gad g q), .int x1] g mkI (fun h => f_X2_isMixed q x1 h) := by
  refine Ct.of (by decide +kernel) (Nat.le_of_ble_eq_true rfl) (fun z A h _ F => ?_)
  show Snd z 2 g A (QF z g A mkI) 0 [(0, .ref (gad g q)), (1, .int x1)] [] h (f_X2_isMixed q x1 h)
  unfold f_X2_isMixed
  refine s_aload_n F dX2_isMixed_0 rfl 0 rfl ?_
  refine s_iload_n F dX2_isMixed_1 rfl 1 rfl ?_
  refine s_callVi (f := fun hh => f_X2_tradesOf q x1 hh) (As := [.int x1]) F yv_X2_tradesOf (ct_X2_tradesOf z.2.1 g hq x1) (by decide) m583 hq rfl rfl rfl (Nat.le_of_ble_eq_true rfl) dX2_isMixed_2 (fun v_2 h_1 e_v_2 => ?_)
  refine s_callSi (f := fun hh => f_J6_bitCount_0f7a4 v_2 hh) (As := [.int v_2]) F ys_J6_bitCount_0f7a4 (ct_J6_bitCount_0f7a4 z.2.1 g v_2) (by decide) m597 rfl rfl (Nat.le_of_ble_eq_true rfl) dX2_isMixed_5 (fun v_4 h_3 e_v_4 => ?_)
  refine s_iconst F (v := 1) dX2_isMixed_8 (by decide) ?_
  refine s_icmp_le F 16 dX2_isMixed_9 (by decide) (fun _ => ?_) (fun _ => ?_)
  · refine s_iconst F (v := 0) dX2_isMixed_16 (by decide) ?_
    exact s_zret1 F (by decide) dX2_isMixed_17
  · refine s_iconst F (v := 1) dX2_isMixed_12 (by decide) ?_
    refine s_goto F 17 dX2_isMixed_13 (by decide) ?_
    exact s_zret1 F (by decide) dX2_isMixed_17
theorem dX2_portersOf_0 : decode cX2_portersOf 0 = .ok (.iconst 0, 1) := by decide +kernel
theorem dX2_portersOf_1 : decode cX2_portersOf 1 = .ok (.istore_n 2, 1) := by decide +kernel
theorem dX2_portersOf_2 : decode cX2_portersOf 2 = .ok (.iconst 0, 1) := by decide +kernel
theorem dX2_portersOf_3 : decode cX2_portersOf 3 = .ok (.istore_n 3, 1) := by decide +kernel
theorem dX2_portersOf_4 : decode cX2_portersOf 4 = .ok (.iload_n 3, 1) := by decide +kernel
theorem dX2_portersOf_5 : decode cX2_portersOf 5 = .ok (.iconst 4, 1) := by decide +kernel
theorem dX2_portersOf_6 : decode cX2_portersOf 6 = .ok (.if_icmp .ge 20, 3) := by decide +kernel
theorem dX2_portersOf_9 : decode cX2_portersOf 9 = .ok (.iload_n 2, 1) := by decide +kernel
theorem dX2_portersOf_10 : decode cX2_portersOf 10 = .ok (.aload_n 0, 1) := by decide +kernel
theorem dX2_portersOf_11 : decode cX2_portersOf 11 = .ok (.iload_n 1, 1) := by decide +kernel
theorem dX2_portersOf_12 : decode cX2_portersOf 12 = .ok (.iload_n 3, 1) := by decide +kernel
theorem dX2_portersOf_13 : decode cX2_portersOf 13 = .ok (.invokevirtual 81, 3) := by decide +kernel
theorem dX2_portersOf_16 : decode cX2_portersOf 16 = .ok (.invokestatic 100, 3) := by decide +kernel
theorem dX2_portersOf_19 : decode cX2_portersOf 19 = .ok (.istore_n 2, 1) := by decide +kernel
theorem dX2_portersOf_20 : decode cX2_portersOf 20 = .ok (.iinc 3 1, 3) := by decide +kernel
theorem dX2_portersOf_23 : decode cX2_portersOf 23 = .ok (.goto (-19), 3) := by decide +kernel
theorem dX2_portersOf_26 : decode cX2_portersOf 26 = .ok (.aload_n 0, 1) := by decide +kernel
theorem dX2_portersOf_27 : decode cX2_portersOf 27 = .ok (.iload_n 1, 1) := by decide +kernel
theorem dX2_portersOf_28 : decode cX2_portersOf 28 = .ok (.invokevirtual 105, 3) := by decide +kernel
theorem dX2_portersOf_31 : decode cX2_portersOf 31 = .ok (.iload_n 2, 1) := by decide +kernel
theorem dX2_portersOf_32 : decode cX2_portersOf 32 = .ok (.isub, 1) := by decide +kernel
theorem dX2_portersOf_33 : decode cX2_portersOf 33 = .ok (.ireturn, 1) := by decide +kernel
theorem yv_X2_portersOf : YV yX2_portersOf cX2_portersOf 4 (some .int) 1 := ⟨m682, m683, m5, m684, ⟨by decide +kernel, by decide +kernel, by decide +kernel⟩, by decide⟩
def f_X2_portersOf_4 (q : Nat) : Nat → Int32 → Int32 → Int32 → AH → Option (Int32 × AH)
  | 0, _, _, _, _ => none
  | n + 1, x1, x2, x3, h => if (4 : Int32) ≤ x3 then (bd (f_X2_allOf q x1 h) (fun v_2 h_1 => some ((v_2 - x2), h_1))) else (bd (f_X2_loadOf q x1 x3 h) (fun v_4 h_3 => lt ((if x2 < v_4 then v_4 else x2)) (fun v_5 => lt (x3 + 1) (fun v_6 => (f_X2_portersOf_4 q n) x1 v_5 v_6 h_3))))
set_option maxRecDepth 20000 in
set_option maxHeartbeats 4000000 in
theorem t_X2_portersOf_4 {z : MC} {g : GC} {A : Nat → Prop} (F : Fx z cX2_portersOf 4 RX2 (some .int) 4 g A) {q : Nat} (hq : (gL g)[q]? = some (.inl 2)) : ∀ (n : Nat) (x1 : Int32) (x2 : Int32) (x3 : Int32) (h : AH), Snd z 4 g A (QF z g A mkI) 4 [(0, .ref (gad g q)), (1, .int x1), (2, .int x2), (3, .int x3)] [] h (f_X2_portersOf_4 q n x1 x2 x3 h) := by
  intro n
  induction n with
  | zero => intros; exact s_none
  | succ n ih =>
    intro x1 x2 x3 h
    unfold f_X2_portersOf_4
    refine s_iload_n F dX2_portersOf_4 rfl 3 rfl ?_
    refine s_iconst F (v := 4) dX2_portersOf_5 (by decide) ?_
    refine s_icmp_ge F 26 dX2_portersOf_6 (by decide) (fun _ => ?_) (fun _ => ?_)
    · refine s_aload_n F dX2_portersOf_26 rfl 0 rfl ?_
      refine s_iload_n F dX2_portersOf_27 rfl 1 rfl ?_
      refine s_callVi (f := fun hh => f_X2_allOf q x1 hh) (As := [.int x1]) F yv_X2_allOf (ct_X2_allOf z.2.1 g hq x1) (by decide) m622 hq rfl rfl rfl (Nat.le_of_ble_eq_true rfl) dX2_portersOf_28 (fun v_2 h_1 e_v_2 => ?_)
      refine s_iload_n F dX2_portersOf_31 rfl 2 rfl ?_
      refine s_isub F dX2_portersOf_32 ?_
      exact s_iret F dX2_portersOf_33
    · refine s_iload_n F dX2_portersOf_9 rfl 2 rfl ?_
      refine s_aload_n F dX2_portersOf_10 rfl 0 rfl ?_
      refine s_iload_n F dX2_portersOf_11 rfl 1 rfl ?_
      refine s_iload_n F dX2_portersOf_12 rfl 3 rfl ?_
      refine s_callVi (f := fun hh => f_X2_loadOf q x1 x3 hh) (As := [.int x1, .int x3]) F yv_X2_loadOf (ct_X2_loadOf z.2.1 g hq x1 x3) (by decide) m587 hq rfl rfl rfl (Nat.le_of_ble_eq_true rfl) dX2_portersOf_13 (fun v_4 h_3 e_v_4 => ?_)
      refine s_mmax F (by decide) m685 m686 m17 m687 (Nat.le_of_ble_eq_true rfl) dX2_portersOf_16 ?_
      refine s_leti (fun v_5 => ?_)
      refine s_istore_n F (lv' := [(2, .int v_5), (0, .ref (gad g q)), (1, .int x1), (3, .int x3)]) dX2_portersOf_19 rfl (by decide) rfl ?_
      refine s_iincv F dX2_portersOf_20 3 rfl (by decide) (c := 1) (by decide) (fun v_6 => ?_)
      refine s_lv (lv' := [(3, .int v_6), (2, .int v_5), (0, .ref (gad g q)), (1, .int x1)]) rfl ?_
      refine s_goto F 4 dX2_portersOf_23 (by decide) ?_
      exact s_sub [2, 3, 1, 0] rfl (ih x1 v_5 v_6 h_3)
def f_X2_portersOf (q : Nat) (x1 : Int32) (h : AH) : Option (Int32 × AH) := f_X2_portersOf_4 q fu x1 0 0 h
set_option maxRecDepth 20000 in
set_option maxHeartbeats 4000000 in
theorem ct_X2_portersOf (l : Launch) (g : GC) {q : Nat} (hq : (gL g)[q]? = some (.inl 2)) (x1 : Int32) : Ct l yX2_portersOf cX2_portersOf 4 (some .int) 4 [.ref (gad g q), .int x1] g mkI (fun h => f_X2_portersOf q x1 h) := by
  refine Ct.of (by decide +kernel) (Nat.le_of_ble_eq_true rfl) (fun z A h _ F => ?_)
  show Snd z 4 g A (QF z g A mkI) 0 [(0, .ref (gad g q)), (1, .int x1)] [] h (f_X2_portersOf q x1 h)
  unfold f_X2_portersOf
  refine s_iconst F (v := 0) dX2_portersOf_0 (by decide) ?_
  refine s_istore_n F (lv' := [(2, .int 0), (0, .ref (gad g q)), (1, .int x1)]) dX2_portersOf_1 rfl (by decide) rfl ?_
  refine s_iconst F (v := 0) dX2_portersOf_2 (by decide) ?_
  refine s_istore_n F (lv' := [(3, .int 0), (2, .int 0), (0, .ref (gad g q)), (1, .int x1)]) dX2_portersOf_3 rfl (by decide) rfl ?_
  exact s_sub [2, 3, 1, 0] rfl (t_X2_portersOf_4 F hq fu x1 0 0 h)
theorem dX2_tollOf_0 : decode cX2_tollOf 0 = .ok (.aload_n 0, 1) := by decide +kernel
theorem dX2_tollOf_1 : decode cX2_tollOf 1 = .ok (.getfield 21, 3) := by decide +kernel
theorem dX2_tollOf_4 : decode cX2_tollOf 4 = .ok (.iload_n 2, 1) := by decide +kernel
theorem dX2_tollOf_5 : decode cX2_tollOf 5 = .ok (.iaload, 1) := by decide +kernel
theorem dX2_tollOf_6 : decode cX2_tollOf 6 = .ok (.aload_n 0, 1) := by decide +kernel
theorem dX2_tollOf_7 : decode cX2_tollOf 7 = .ok (.iload_n 1, 1) := by decide +kernel
theorem dX2_tollOf_8 : decode cX2_tollOf 8 = .ok (.invokevirtual 105, 3) := by decide +kernel
theorem dX2_tollOf_11 : decode cX2_tollOf 11 = .ok (.imul, 1) := by decide +kernel
theorem dX2_tollOf_12 : decode cX2_tollOf 12 = .ok (.istore_n 3, 1) := by decide +kernel
theorem dX2_tollOf_13 : decode cX2_tollOf 13 = .ok (.aload_n 0, 1) := by decide +kernel
theorem dX2_tollOf_14 : decode cX2_tollOf 14 = .ok (.iload_n 1, 1) := by decide +kernel
theorem dX2_tollOf_15 : decode cX2_tollOf 15 = .ok (.invokevirtual 108, 3) := by decide +kernel
theorem dX2_tollOf_18 : decode cX2_tollOf 18 = .ok (.ifCond .eq 9, 3) := by decide +kernel
theorem dX2_tollOf_21 : decode cX2_tollOf 21 = .ok (.iconst 2, 1) := by decide +kernel
theorem dX2_tollOf_22 : decode cX2_tollOf 22 = .ok (.iload_n 3, 1) := by decide +kernel
theorem dX2_tollOf_23 : decode cX2_tollOf 23 = .ok (.imul, 1) := by decide +kernel
theorem dX2_tollOf_24 : decode cX2_tollOf 24 = .ok (.goto 4, 3) := by decide +kernel
theorem dX2_tollOf_27 : decode cX2_tollOf 27 = .ok (.iload_n 3, 1) := by decide +kernel
theorem dX2_tollOf_28 : decode cX2_tollOf 28 = .ok (.ireturn, 1) := by decide +kernel
theorem yv_X2_tollOf : YV yX2_tollOf cX2_tollOf 4 (some .int) 2 := ⟨m619, m620, m5, m621, ⟨by decide +kernel, by decide +kernel, by decide +kernel⟩, by decide⟩
def f_X2_tollOf (q : Nat) (x1 : Int32) (x2 : Int32) (h : AH) : Option (Int32 × AH) := ck x2 6 (bd (f_X2_allOf q x1 h) (fun v_3 h_2 => lt (((h (q + 4) (x2 : Int32).toNatClampNeg) * v_3)) (fun v_4 => bd (f_X2_isMixed q x1 h_2) (fun v_6 h_5 => if v_6 = 0 then (some (v_4, h_5)) else (some ((2 * v_4), h_5))))))
set_option maxRecDepth 20000 in
set_option maxHeartbeats 4000000 in
theorem ct_X2_tollOf (l : Launch) (g : GC) {q : Nat} (hq : (gL g)[q]? = some (.inl 2)) (x1 : Int32) (x2 : Int32) : Ct l yX2_tollOf cX2_tollOf 4 (some .int) 5 [.ref (gad g q), .int x1, .int x2] g mkI (fun h => f_X2_tollOf q x1 x2 h) := by
  refine Ct.of (by decide +kernel) (Nat.le_of_ble_eq_true rfl) (fun z A h _ F => ?_)
  show Snd z 4 g A (QF z g A mkI) 0 [(0, .ref (gad g q)), (1, .int x1), (2, .int x2)] [] h (f_X2_tollOf q x1 x2 h)
  unfold f_X2_tollOf
  refine s_aload_n F dX2_tollOf_0 rfl 0 rfl ?_
  have hw_1 := wf_ref F.2.2.2.2.2.2.1 hq 10 4 (.inr (0, 6)) rfl
  refine s_getr F ciX2 10 4 (.inr (0, 6)) hq (by decide) rfl rfl m107 dX2_tollOf_1 ?_
  refine s_iload_n F dX2_tollOf_4 rfl 2 rfl ?_
  refine s_iald F hw_1 dX2_tollOf_5 ?_
  refine s_aload_n F dX2_tollOf_6 rfl 0 rfl ?_
  refine s_iload_n F dX2_tollOf_7 rfl 1 rfl ?_
  refine s_callVi (f := fun hh => f_X2_allOf q x1 hh) (As := [.int x1]) F yv_X2_allOf (ct_X2_allOf z.2.1 g hq x1) (by decide) m622 hq rfl rfl rfl (Nat.le_of_ble_eq_true rfl) dX2_tollOf_8 (fun v_3 h_2 e_v_3 => ?_)
  refine s_imul F dX2_tollOf_11 ?_
  refine s_leti (fun v_4 => ?_)
  refine s_istore_n F (lv' := [(3, .int v_4), (0, .ref (gad g q)), (1, .int x1), (2, .int x2)]) dX2_tollOf_12 rfl (by decide) rfl ?_
  refine s_aload_n F dX2_tollOf_13 rfl 1 rfl ?_
  refine s_iload_n F dX2_tollOf_14 rfl 2 rfl ?_
  refine s_callVi (f := fun hh => f_X2_isMixed q x1 hh) (As := [.int x1]) F yv_X2_isMixed (ct_X2_isMixed z.2.1 g hq x1) (by decide) m593 hq rfl rfl rfl (Nat.le_of_ble_eq_true rfl) dX2_tollOf_15 (fun v_6 h_5 e_v_6 => ?_)
  refine s_if_eq F 27 dX2_tollOf_18 (by decide) (fun _ => ?_) (fun _ => ?_)
  · refine s_iload_n F dX2_tollOf_27 rfl 0 rfl ?_
    exact s_iret F dX2_tollOf_28
  · refine s_iconst F (v := 2) dX2_tollOf_21 (by decide) ?_
    refine s_iload_n F dX2_tollOf_22 rfl 0 rfl ?_
    refine s_imul F dX2_tollOf_23 ?_
    refine s_goto F 28 dX2_tollOf_24 (by decide) ?_
    exact s_iret F dX2_tollOf_28
theorem dX2_chartersFor_0 : decode cX2_chartersFor 0 = .ok (.aload_n 0, 1) := by decide +kernel
theorem dX2_chartersFor_1 : decode cX2_chartersFor 1 = .ok (.iload_n 1, 1) := by decide +kernel
theorem dX2_chartersFor_2 : decode cX2_chartersFor 2 = .ok (.invokevirtual 91, 3) := by decide +kernel
theorem dX2_chartersFor_5 : decode cX2_chartersFor 5 = .ok (.istore_n 2, 1) := by decide +kernel
theorem dX2_chartersFor_6 : decode cX2_chartersFor 6 = .ok (.iload_n 2, 1) := by decide +kernel
theorem dX2_chartersFor_7 : decode cX2_chartersFor 7 = .ok (.ifCond .ne 6, 3) := by decide +kernel
theorem dX2_chartersFor_10 : decode cX2_chartersFor 10 = .ok (.bipush 31, 2) := by decide +kernel
theorem dX2_chartersFor_12 : decode cX2_chartersFor 12 = .ok (.ireturn, 1) := by decide +kernel
theorem dX2_chartersFor_13 : decode cX2_chartersFor 13 = .ok (.aload_n 0, 1) := by decide +kernel
theorem dX2_chartersFor_14 : decode cX2_chartersFor 14 = .ok (.iload_n 1, 1) := by decide +kernel
theorem dX2_chartersFor_15 : decode cX2_chartersFor 15 = .ok (.invokevirtual 108, 3) := by decide +kernel
theorem dX2_chartersFor_18 : decode cX2_chartersFor 18 = .ok (.ifCond .eq 8, 3) := by decide +kernel
theorem dX2_chartersFor_21 : decode cX2_chartersFor 21 = .ok (.bipush 16, 2) := by decide +kernel
theorem dX2_chartersFor_23 : decode cX2_chartersFor 23 = .ok (.goto 7, 3) := by decide +kernel
theorem dX2_chartersFor_26 : decode cX2_chartersFor 26 = .ok (.bipush 16, 2) := by decide +kernel
theorem dX2_chartersFor_28 : decode cX2_chartersFor 28 = .ok (.iload_n 2, 1) := by decide +kernel
theorem dX2_chartersFor_29 : decode cX2_chartersFor 29 = .ok (.ior, 1) := by decide +kernel
theorem dX2_chartersFor_30 : decode cX2_chartersFor 30 = .ok (.ireturn, 1) := by decide +kernel
theorem yv_X2_chartersFor : YV yX2_chartersFor cX2_chartersFor 3 (some .int) 1 := ⟨m580, m581, m5, m582, ⟨by decide +kernel, by decide +kernel, by decide +kernel⟩, by decide⟩
def f_X2_chartersFor (q : Nat) (x1 : Int32) (h : AH) : Option (Int32 × AH) := bd (f_X2_tradesOf q x1 h) (fun v_2 h_1 => if v_2 = 0 then (some (31, h_1)) else (bd (f_X2_isMixed q x1 h_1) (fun v_4 h_3 => if v_4 = 0 then (some ((16 ||| v_2), h_3)) else (some (16, h_3)))))
set_option maxRecDepth 20000 in
set_option maxHeartbeats 4000000 in
theorem ct_X2_chartersFor (l : Launch) (g : GC) {q : Nat} (hq : (gL g)[q]? = some (.inl 2)) (x1 : Int32) : Ct l yX2_chartersFor cX2_chartersFor 3 (some .int) 5 [.ref (gad g q), .int x1] g mkI (fun h => f_X2_chartersFor q x1 h) := by
  refine Ct.of (by decide +kernel) (Nat.le_of_ble_eq_true rfl) (fun z A h _ F => ?_)
  show Snd z 3 g A (QF z g A mkI) 0 [(0, .ref (gad g q)), (1, .int x1)] [] h (f_X2_chartersFor q x1 h)
  unfold f_X2_chartersFor
  refine s_aload_n F dX2_chartersFor_0 rfl 0 rfl ?_
  refine s_iload_n F dX2_chartersFor_1 rfl 1 rfl ?_
  refine s_callVi (f := fun hh => f_X2_tradesOf q x1 hh) (As := [.int x1]) F yv_X2_tradesOf (ct_X2_tradesOf z.2.1 g hq x1) (by decide) m583 hq rfl rfl rfl (Nat.le_of_ble_eq_true rfl) dX2_chartersFor_2 (fun v_2 h_1 e_v_2 => ?_)
  refine s_istore_n F (lv' := [(2, .int v_2), (0, .ref (gad g q)), (1, .int x1)]) dX2_chartersFor_5 rfl (by decide) rfl ?_
  refine s_iload_n F dX2_chartersFor_6 rfl 0 rfl ?_
  refine s_if_ne F 13 dX2_chartersFor_7 (by decide) (fun _ => ?_) (fun _ => ?_)
  · refine s_aload_n F dX2_chartersFor_13 rfl 1 rfl ?_
    refine s_iload_n F dX2_chartersFor_14 rfl 2 rfl ?_
    refine s_callVi (f := fun hh => f_X2_isMixed q x1 hh) (As := [.int x1]) F yv_X2_isMixed (ct_X2_isMixed z.2.1 g hq x1) (by decide) m593 hq rfl rfl rfl (Nat.le_of_ble_eq_true rfl) dX2_chartersFor_15 (fun v_4 h_3 e_v_4 => ?_)
    refine s_if_eq F 26 dX2_chartersFor_18 (by decide) (fun _ => ?_) (fun _ => ?_)
    · refine s_bipush F (v := 16) dX2_chartersFor_26 (by decide) ?_
      refine s_iload_n F dX2_chartersFor_28 rfl 0 rfl ?_
      refine s_ior F dX2_chartersFor_29 ?_
      exact s_iret F dX2_chartersFor_30
    · refine s_bipush F (v := 16) dX2_chartersFor_21 (by decide) ?_
      refine s_goto F 30 dX2_chartersFor_23 (by decide) ?_
      exact s_iret F dX2_chartersFor_30
  · refine s_bipush F (v := 31) dX2_chartersFor_10 (by decide) ?_
    exact s_iret F dX2_chartersFor_12
theorem dX2_hasRoom_0 : decode cX2_hasRoom 0 = .ok (.aload_n 0, 1) := by decide +kernel
theorem dX2_hasRoom_1 : decode cX2_hasRoom 1 = .ok (.getfield 18, 3) := by decide +kernel
theorem dX2_hasRoom_4 : decode cX2_hasRoom 4 = .ok (.iload_n 2, 1) := by decide +kernel
theorem dX2_hasRoom_5 : decode cX2_hasRoom 5 = .ok (.iaload, 1) := by decide +kernel
theorem dX2_hasRoom_6 : decode cX2_hasRoom 6 = .ok (.iload_n 3, 1) := by decide +kernel
theorem dX2_hasRoom_7 : decode cX2_hasRoom 7 = .ok (.isub, 1) := by decide +kernel
theorem dX2_hasRoom_8 : decode cX2_hasRoom 8 = .ok (.istore 4, 2) := by decide +kernel
theorem dX2_hasRoom_10 : decode cX2_hasRoom 10 = .ok (.aload_n 0, 1) := by decide +kernel
theorem dX2_hasRoom_11 : decode cX2_hasRoom 11 = .ok (.getfield 24, 3) := by decide +kernel
theorem dX2_hasRoom_14 : decode cX2_hasRoom 14 = .ok (.iload_n 1, 1) := by decide +kernel
theorem dX2_hasRoom_15 : decode cX2_hasRoom 15 = .ok (.iaload, 1) := by decide +kernel
theorem dX2_hasRoom_16 : decode cX2_hasRoom 16 = .ok (.tableswitch 80 3 5 #[28, 47, 58], 28) := by decide +kernel
theorem dX2_hasRoom_44 : decode cX2_hasRoom 44 = .ok (.iload 4, 2) := by decide +kernel
theorem dX2_hasRoom_46 : decode cX2_hasRoom 46 = .ok (.aload_n 0, 1) := by decide +kernel
theorem dX2_hasRoom_47 : decode cX2_hasRoom 47 = .ok (.getfield 27, 3) := by decide +kernel
theorem dX2_hasRoom_50 : decode cX2_hasRoom 50 = .ok (.iload_n 1, 1) := by decide +kernel
theorem dX2_hasRoom_51 : decode cX2_hasRoom 51 = .ok (.iaload, 1) := by decide +kernel
theorem dX2_hasRoom_52 : decode cX2_hasRoom 52 = .ok (.iconst 2, 1) := by decide +kernel
theorem dX2_hasRoom_53 : decode cX2_hasRoom 53 = .ok (.idiv, 1) := by decide +kernel
theorem dX2_hasRoom_54 : decode cX2_hasRoom 54 = .ok (.if_icmp .lt 7, 3) := by decide +kernel
theorem dX2_hasRoom_57 : decode cX2_hasRoom 57 = .ok (.iconst 1, 1) := by decide +kernel
theorem dX2_hasRoom_58 : decode cX2_hasRoom 58 = .ok (.goto 4, 3) := by decide +kernel
theorem dX2_hasRoom_61 : decode cX2_hasRoom 61 = .ok (.iconst 0, 1) := by decide +kernel
theorem dX2_hasRoom_62 : decode cX2_hasRoom 62 = .ok (.ireturn, 1) := by decide +kernel
theorem dX2_hasRoom_63 : decode cX2_hasRoom 63 = .ok (.iload 4, 2) := by decide +kernel
theorem dX2_hasRoom_65 : decode cX2_hasRoom 65 = .ok (.ifCond .lt 7, 3) := by decide +kernel
theorem dX2_hasRoom_68 : decode cX2_hasRoom 68 = .ok (.iconst 1, 1) := by decide +kernel
theorem dX2_hasRoom_69 : decode cX2_hasRoom 69 = .ok (.goto 4, 3) := by decide +kernel
theorem dX2_hasRoom_72 : decode cX2_hasRoom 72 = .ok (.iconst 0, 1) := by decide +kernel
theorem dX2_hasRoom_73 : decode cX2_hasRoom 73 = .ok (.ireturn, 1) := by decide +kernel
theorem dX2_hasRoom_74 : decode cX2_hasRoom 74 = .ok (.iload 4, 2) := by decide +kernel
theorem dX2_hasRoom_76 : decode cX2_hasRoom 76 = .ok (.ifCond .lt 18, 3) := by decide +kernel
theorem dX2_hasRoom_79 : decode cX2_hasRoom 79 = .ok (.aload_n 0, 1) := by decide +kernel
theorem dX2_hasRoom_80 : decode cX2_hasRoom 80 = .ok (.getfield 18, 3) := by decide +kernel
theorem dX2_hasRoom_83 : decode cX2_hasRoom 83 = .ok (.iload_n 2, 1) := by decide +kernel
theorem dX2_hasRoom_84 : decode cX2_hasRoom 84 = .ok (.iaload, 1) := by decide +kernel
theorem dX2_hasRoom_85 : decode cX2_hasRoom 85 = .ok (.bipush 10, 2) := by decide +kernel
theorem dX2_hasRoom_87 : decode cX2_hasRoom 87 = .ok (.if_icmp .lt 7, 3) := by decide +kernel
theorem dX2_hasRoom_90 : decode cX2_hasRoom 90 = .ok (.iconst 1, 1) := by decide +kernel
theorem dX2_hasRoom_91 : decode cX2_hasRoom 91 = .ok (.goto 4, 3) := by decide +kernel
theorem dX2_hasRoom_94 : decode cX2_hasRoom 94 = .ok (.iconst 0, 1) := by decide +kernel
theorem dX2_hasRoom_95 : decode cX2_hasRoom 95 = .ok (.ireturn, 1) := by decide +kernel
theorem dX2_hasRoom_96 : decode cX2_hasRoom 96 = .ok (.iload 4, 2) := by decide +kernel
theorem dX2_hasRoom_98 : decode cX2_hasRoom 98 = .ok (.aload_n 0, 1) := by decide +kernel
theorem dX2_hasRoom_99 : decode cX2_hasRoom 99 = .ok (.getfield 27, 3) := by decide +kernel
theorem dX2_hasRoom_102 : decode cX2_hasRoom 102 = .ok (.iload_n 1, 1) := by decide +kernel
theorem dX2_hasRoom_103 : decode cX2_hasRoom 103 = .ok (.iaload, 1) := by decide +kernel
theorem dX2_hasRoom_104 : decode cX2_hasRoom 104 = .ok (.if_icmp .lt 7, 3) := by decide +kernel
theorem dX2_hasRoom_107 : decode cX2_hasRoom 107 = .ok (.iconst 1, 1) := by decide +kernel
theorem dX2_hasRoom_108 : decode cX2_hasRoom 108 = .ok (.goto 4, 3) := by decide +kernel
theorem dX2_hasRoom_111 : decode cX2_hasRoom 111 = .ok (.iconst 0, 1) := by decide +kernel
theorem dX2_hasRoom_112 : decode cX2_hasRoom 112 = .ok (.ireturn, 1) := by decide +kernel
theorem yv_X2_hasRoom : YV yX2_hasRoom cX2_hasRoom 5 (some .boolean) 3 := ⟨m609, m610, m5, m611, ⟨by decide +kernel, by decide +kernel, by decide +kernel⟩, by decide⟩
def f_X2_hasRoom (q : Nat) (x1 : Int32) (x2 : Int32) (x3 : Int32) (h : AH) : Option (Int32 × AH) := ck x2 6 (lt (((h (q + 3) (x2 : Int32).toNatClampNeg) - x3)) (fun v_2 => ck x1 6 (lt (h (q + 5) (x1 : Int32).toNatClampNeg) (fun v_4 => if v_4 = 3 then (ck x1 6 (if v_2 < ((h (q + 6) (x1 : Int32).toNatClampNeg) / 2) then (some (0, h)) else (some (1, h)))) else (if v_4 = 4 then (if v_2 < 0 then (some (0, h)) else (some (1, h))) else (if v_4 = 5 then (if v_2 < 0 then (some (0, h)) else (ck x2 6 (if (h (q + 3) (x2 : Int32).toNatClampNeg) < 10 then (some (0, h)) else (some (1, h))))) else (ck x1 6 (if v_2 < (h (q + 6) (x1 : Int32).toNatClampNeg) then (some (0, h)) else (some (1, h))))))))))
set_option maxRecDepth 20000 in
set_option maxHeartbeats 4000000 in
theorem ct_X2_hasRoom (l : Launch) (g : GC) {q : Nat} (hq : (gL g)[q]? = some (.inl 2)) (x1 : Int32) (x2 : Int32) (x3 : Int32) : Ct l yX2_hasRoom cX2_hasRoom 5 (some .boolean) 1 [.ref (gad g q), .int x1, .int x2, .int x3] g mkI (fun h => f_X2_hasRoom q x1 x2 x3 h) := by
  refine Ct.of (by decide +kernel) (Nat.le_of_ble_eq_true rfl) (fun z A h _ F => ?_)
  show Snd z 5 g A (QF z g A mkI) 0 [(0, .ref (gad g q)), (1, .int x1), (2, .int x2), (3, .int x3)] [] h (f_X2_hasRoom q x1 x2 x3 h)
  unfold f_X2_hasRoom
  refine s_aload_n F dX2_hasRoom_0 rfl 0 rfl ?_
  have hw_1 := wf_ref F.2.2.2.2.2.2.1 hq 9 3 (.inr (0, 6)) rfl
  refine s_getr F ciX2 9 3 (.inr (0, 6)) hq (by decide) rfl rfl m104 dX2_hasRoom_1 ?_
  refine s_iload_n F dX2_hasRoom_4 rfl 2 rfl ?_
  refine s_iald F hw_1 dX2_hasRoom_5 ?_
  refine s_iload_n F dX2_hasRoom_6 rfl 3 rfl ?_
  refine s_isub F dX2_hasRoom_7 ?_
  refine s_leti (fun v_2 => ?_)
  refine s_istore F (lv' := [(4, .int v_2), (0, .ref (gad g q)), (1, .int x1), (2, .int x2), (3, .int x3)]) dX2_hasRoom_8 (by decide) rfl ?_
  refine s_aload_n F dX2_hasRoom_10 rfl 1 rfl ?_
  have hw_3 := wf_ref F.2.2.2.2.2.2.1 hq 11 5 (.inr (0, 6)) rfl
  refine s_getr F ciX2 11 5 (.inr (0, 6)) hq (by decide) rfl rfl m110 dX2_hasRoom_11 ?_
  refine s_iload_n F dX2_hasRoom_14 rfl 2 rfl ?_
  refine s_iald F hw_3 dX2_hasRoom_15 ?_
  refine s_leti (fun v_4 => ?_)
  refine s_case 3 ?_ (fun n3 => ?_)
  · refine s_tabIn F (off := 28) 44 dX2_hasRoom_16 (by decide) (by decide) rfl (by decide) ?_
    refine s_iload F dX2_hasRoom_44 0 rfl ?_
    refine s_aload_n F dX2_hasRoom_46 rfl 1 rfl ?_
    have hw_5 := wf_ref F.2.2.2.2.2.2.1 hq 12 6 (.inr (0, 6)) rfl
    refine s_getr F ciX2 12 6 (.inr (0, 6)) hq (by decide) rfl rfl m114 dX2_hasRoom_47 ?_
    refine s_iload_n F dX2_hasRoom_50 rfl 2 rfl ?_
    refine s_iald F hw_5 dX2_hasRoom_51 ?_
    refine s_iconst F (v := 2) dX2_hasRoom_52 (by decide) ?_
    refine s_idivN F dX2_hasRoom_53 (by decide) ?_
    refine s_icmp_lt F 61 dX2_hasRoom_54 (by decide) (fun _ => ?_) (fun _ => ?_)
    · refine s_iconst F (v := 0) dX2_hasRoom_61 (by decide) ?_
      exact s_zret1 F (by decide) dX2_hasRoom_62
    · refine s_iconst F (v := 1) dX2_hasRoom_57 (by decide) ?_
      refine s_goto F 62 dX2_hasRoom_58 (by decide) ?_
      exact s_zret1 F (by decide) dX2_hasRoom_62
  refine s_case 4 ?_ (fun n4 => ?_)
  · refine s_tabIn F (off := 47) 63 dX2_hasRoom_16 (by decide) (by decide) rfl (by decide) ?_
    refine s_iload F dX2_hasRoom_63 0 rfl ?_
    refine s_if_lt F 72 dX2_hasRoom_65 (by decide) (fun _ => ?_) (fun _ => ?_)
    · refine s_iconst F (v := 0) dX2_hasRoom_72 (by decide) ?_
      exact s_zret1 F (by decide) dX2_hasRoom_73
    · refine s_iconst F (v := 1) dX2_hasRoom_68 (by decide) ?_
      refine s_goto F 73 dX2_hasRoom_69 (by decide) ?_
      exact s_zret1 F (by decide) dX2_hasRoom_73
  refine s_case 5 ?_ (fun n5 => ?_)
  · refine s_tabIn F (off := 58) 74 dX2_hasRoom_16 (by decide) (by decide) rfl (by decide) ?_
    refine s_iload F dX2_hasRoom_74 0 rfl ?_
    refine s_if_lt F 94 dX2_hasRoom_76 (by decide) (fun _ => ?_) (fun _ => ?_)
    · refine s_iconst F (v := 0) dX2_hasRoom_94 (by decide) ?_
      exact s_zret1 F (by decide) dX2_hasRoom_95
    · refine s_aload_n F dX2_hasRoom_79 rfl 1 rfl ?_
      have hw_6 := wf_ref F.2.2.2.2.2.2.1 hq 9 3 (.inr (0, 6)) rfl
      refine s_getr F ciX2 9 3 (.inr (0, 6)) hq (by decide) rfl rfl m104 dX2_hasRoom_80 ?_
      refine s_iload_n F dX2_hasRoom_83 rfl 3 rfl ?_
      refine s_iald F hw_6 dX2_hasRoom_84 ?_
      refine s_bipush F (v := 10) dX2_hasRoom_85 (by decide) ?_
      refine s_icmp_lt F 94 dX2_hasRoom_87 (by decide) (fun _ => ?_) (fun _ => ?_)
      · refine s_iconst F (v := 0) dX2_hasRoom_94 (by decide) ?_
        exact s_zret1 F (by decide) dX2_hasRoom_95
      · refine s_iconst F (v := 1) dX2_hasRoom_90 (by decide) ?_
        refine s_goto F 95 dX2_hasRoom_91 (by decide) ?_
        exact s_zret1 F (by decide) dX2_hasRoom_95
  refine s_tabOut F 96 dX2_hasRoom_16 (by decide) (s_out 3 5 3 (by decide) (by decide) (by decide) (fun j hj => ?_)) ?_
  · rcases (show j = 0 ∨ j = 1 ∨ j = 2 by omega) with rfl | rfl | rfl
    · exact n3
    · exact n4
    · exact n5
  refine s_iload F dX2_hasRoom_96 0 rfl ?_
  refine s_aload_n F dX2_hasRoom_98 rfl 1 rfl ?_
  have hw_7 := wf_ref F.2.2.2.2.2.2.1 hq 12 6 (.inr (0, 6)) rfl
  refine s_getr F ciX2 12 6 (.inr (0, 6)) hq (by decide) rfl rfl m114 dX2_hasRoom_99 ?_
  refine s_iload_n F dX2_hasRoom_102 rfl 2 rfl ?_
  refine s_iald F hw_7 dX2_hasRoom_103 ?_
  refine s_icmp_lt F 111 dX2_hasRoom_104 (by decide) (fun _ => ?_) (fun _ => ?_)
  · refine s_iconst F (v := 0) dX2_hasRoom_111 (by decide) ?_
    exact s_zret1 F (by decide) dX2_hasRoom_112
  · refine s_iconst F (v := 1) dX2_hasRoom_107 (by decide) ?_
    refine s_goto F 112 dX2_hasRoom_108 (by decide) ?_
    exact s_zret1 F (by decide) dX2_hasRoom_112
theorem dX2_letsBy_0 : decode cX2_letsBy 0 = .ok (.aload_n 0, 1) := by decide +kernel
theorem dX2_letsBy_1 : decode cX2_letsBy 1 = .ok (.iload_n 2, 1) := by decide +kernel
theorem dX2_letsBy_2 : decode cX2_letsBy 2 = .ok (.invokevirtual 112, 3) := by decide +kernel
theorem dX2_letsBy_5 : decode cX2_letsBy 5 = .ok (.ifCond .ne 44, 3) := by decide +kernel
theorem dX2_letsBy_8 : decode cX2_letsBy 8 = .ok (.aload_n 0, 1) := by decide +kernel
theorem dX2_letsBy_9 : decode cX2_letsBy 9 = .ok (.iload_n 1, 1) := by decide +kernel
theorem dX2_letsBy_10 : decode cX2_letsBy 10 = .ok (.invokevirtual 115, 3) := by decide +kernel
theorem dX2_letsBy_13 : decode cX2_letsBy 13 = .ok (.aload_n 0, 1) := by decide +kernel
theorem dX2_letsBy_14 : decode cX2_letsBy 14 = .ok (.aload_n 0, 1) := by decide +kernel
theorem dX2_letsBy_15 : decode cX2_letsBy 15 = .ok (.iload_n 1, 1) := by decide +kernel
theorem dX2_letsBy_16 : decode cX2_letsBy 16 = .ok (.invokevirtual 118, 3) := by decide +kernel
theorem dX2_letsBy_19 : decode cX2_letsBy 19 = .ok (.iload_n 2, 1) := by decide +kernel
theorem dX2_letsBy_20 : decode cX2_letsBy 20 = .ok (.invokevirtual 121, 3) := by decide +kernel
theorem dX2_letsBy_23 : decode cX2_letsBy 23 = .ok (.invokestatic 71, 3) := by decide +kernel
theorem dX2_letsBy_26 : decode cX2_letsBy 26 = .ok (.iconst 1, 1) := by decide +kernel
theorem dX2_letsBy_27 : decode cX2_letsBy 27 = .ok (.if_icmp .ne 22, 3) := by decide +kernel
theorem dX2_letsBy_30 : decode cX2_letsBy 30 = .ok (.aload_n 0, 1) := by decide +kernel
theorem dX2_letsBy_31 : decode cX2_letsBy 31 = .ok (.iload_n 1, 1) := by decide +kernel
theorem dX2_letsBy_32 : decode cX2_letsBy 32 = .ok (.iload_n 2, 1) := by decide +kernel
theorem dX2_letsBy_33 : decode cX2_letsBy 33 = .ok (.aload_n 0, 1) := by decide +kernel
theorem dX2_letsBy_34 : decode cX2_letsBy 34 = .ok (.getfield 9, 3) := by decide +kernel
theorem dX2_letsBy_37 : decode cX2_letsBy 37 = .ok (.iload_n 3, 1) := by decide +kernel
theorem dX2_letsBy_38 : decode cX2_letsBy 38 = .ok (.iaload, 1) := by decide +kernel
theorem dX2_letsBy_39 : decode cX2_letsBy 39 = .ok (.invokevirtual 124, 3) := by decide +kernel
theorem dX2_letsBy_42 : decode cX2_letsBy 42 = .ok (.ifCond .eq 7, 3) := by decide +kernel
theorem dX2_letsBy_45 : decode cX2_letsBy 45 = .ok (.iconst 1, 1) := by decide +kernel
theorem dX2_letsBy_46 : decode cX2_letsBy 46 = .ok (.goto 4, 3) := by decide +kernel
theorem dX2_letsBy_49 : decode cX2_letsBy 49 = .ok (.iconst 0, 1) := by decide +kernel
theorem dX2_letsBy_50 : decode cX2_letsBy 50 = .ok (.ireturn, 1) := by decide +kernel
theorem yv_X2_letsBy : YV yX2_letsBy cX2_letsBy 4 (some .boolean) 3 := ⟨m572, m573, m5, m574, ⟨by decide +kernel, by decide +kernel, by decide +kernel⟩, by decide⟩
def f_X2_letsBy (q : Nat) (x1 : Int32) (x2 : Int32) (x3 : Int32) (h : AH) : Option (Int32 × AH) := bd (f_X2_isShut q x2 h) (fun v_2 h_1 => if v_2 = 0 then (bd (f_X2_chartersFor q x1 h_1) (fun v_4 h_3 => bd (f_X2_sideOf q x1 h_3) (fun v_6 h_5 => bd (f_X2_charterOf q v_6 x2 h_5) (fun v_8 h_7 => bd (f_X7_bitOf v_4 v_8 h_7) (fun v_10 h_9 => if v_10 = 1 then (ck x3 12 (bd (f_X2_hasRoom q x1 x2 (h_9 (q + 1) (x3 : Int32).toNatClampNeg) h_9) (fun v_13 h_12 => if v_13 = 0 then (some (0, h_12)) else (some (1, h_12))))) else (some (0, h_9))))))) else (some (0, h_1)))
set_option maxRecDepth 20000 in
set_option maxHeartbeats 4000000 in
theorem ct_X2_letsBy (l : Launch) (g : GC) {q : Nat} (hq : (gL g)[q]? = some (.inl 2)) (x1 : Int32) (x2 : Int32) (x3 : Int32) : Ct l yX2_letsBy cX2_letsBy 4 (some .boolean) 6 [.ref (gad g q), .int x1, .int x2, .int x3] g mkI (fun h => f_X2_letsBy q x1 x2 x3 h) := by
  refine Ct.of (by decide +kernel) (Nat.le_of_ble_eq_true rfl) (fun z A h _ F => ?_)
  show Snd z 4 g A (QF z g A mkI) 0 [(0, .ref (gad g q)), (1, .int x1), (2, .int x2), (3, .int x3)] [] h (f_X2_letsBy q x1 x2 x3 h)
  unfold f_X2_letsBy
  refine s_aload_n F dX2_letsBy_0 rfl 0 rfl ?_
  refine s_iload_n F dX2_letsBy_1 rfl 2 rfl ?_
  refine s_callVi (f := fun hh => f_X2_isShut q x2 hh) (As := [.int x2]) F yv_X2_isShut (ct_X2_isShut z.2.1 g hq x2) (by decide) m575 hq rfl rfl rfl (Nat.le_of_ble_eq_true rfl) dX2_letsBy_2 (fun v_2 h_1 e_v_2 => ?_)
  refine s_if_ne F 49 dX2_letsBy_5 (by decide) (fun _ => ?_) (fun _ => ?_)
  · refine s_iconst F (v := 0) dX2_letsBy_49 (by decide) ?_
    exact s_zret1 F (by decide) dX2_letsBy_50
  · refine s_aload_n F dX2_letsBy_8 rfl 0 rfl ?_
    refine s_iload_n F dX2_letsBy_9 rfl 1 rfl ?_
    refine s_callVi (f := fun hh => f_X2_chartersFor q x1 hh) (As := [.int x1]) F yv_X2_chartersFor (ct_X2_chartersFor z.2.1 g hq x1) (by decide) m579 hq rfl rfl rfl (Nat.le_of_ble_eq_true rfl) dX2_letsBy_10 (fun v_4 h_3 e_v_4 => ?_)
    refine s_aload_n F dX2_letsBy_13 rfl 0 rfl ?_
    refine s_aload_n F dX2_letsBy_14 rfl 0 rfl ?_
    refine s_iload_n F dX2_letsBy_15 rfl 1 rfl ?_
    refine s_callVi (f := fun hh => f_X2_sideOf q x1 hh) (As := [.int x1]) F yv_X2_sideOf (ct_X2_sideOf z.2.1 g hq x1) (by decide) m603 hq rfl rfl rfl (Nat.le_of_ble_eq_true rfl) dX2_letsBy_16 (fun v_6 h_5 e_v_6 => ?_)
    refine s_iload_n F dX2_letsBy_19 rfl 2 rfl ?_
    refine s_callVi (f := fun hh => f_X2_charterOf q v_6 x2 hh) (As := [.int v_6, .int x2]) F yv_X2_charterOf (ct_X2_charterOf z.2.1 g hq v_6 x2) (by decide) m607 hq rfl rfl rfl (Nat.le_of_ble_eq_true rfl) dX2_letsBy_20 (fun v_8 h_7 e_v_8 => ?_)
    refine s_callSNi (f := fun hh => f_X7_bitOf v_4 v_8 hh) (As := [.int v_4, .int v_8]) F ys_X7_bitOf (ct_X7_bitOf z.2.1 g v_4 v_8) (by decide) (List.mem_of_getElem? (i := 1) rfl) rfl rfl (Nat.le_of_ble_eq_true rfl) dX2_letsBy_23 (fun v_10 h_9 e_v_10 => ?_)
    refine s_iconst F (v := 1) dX2_letsBy_26 (by decide) ?_
    refine s_icmp_ne F 49 dX2_letsBy_27 (by decide) (fun _ => ?_) (fun _ => ?_)
    · refine s_iconst F (v := 0) dX2_letsBy_49 (by decide) ?_
      exact s_zret1 F (by decide) dX2_letsBy_50
    · refine s_aload_n F dX2_letsBy_30 rfl 0 rfl ?_
      refine s_iload_n F dX2_letsBy_31 rfl 1 rfl ?_
      refine s_iload_n F dX2_letsBy_32 rfl 2 rfl ?_
      refine s_aload_n F dX2_letsBy_33 rfl 0 rfl ?_
      have hw_11 := wf_ref F.2.2.2.2.2.2.1 hq 7 1 (.inr (0, 12)) rfl
      refine s_getr F ciX2 7 1 (.inr (0, 12)) hq (by decide) rfl rfl m99 dX2_letsBy_34 ?_
      refine s_iload_n F dX2_letsBy_37 rfl 3 rfl ?_
      refine s_iald F hw_11 dX2_letsBy_38 ?_
      refine s_callVi (f := fun hh => f_X2_hasRoom q x1 x2 (h_9 (q + 1) (x3 : Int32).toNatClampNeg) hh) (As := [.int x1, .int x2, .int (h_9 (q + 1) (x3 : Int32).toNatClampNeg)]) F yv_X2_hasRoom (ct_X2_hasRoom z.2.1 g hq x1 x2 (h_9 (q + 1) (x3 : Int32).toNatClampNeg)) (by decide) m608 hq rfl rfl rfl (Nat.le_of_ble_eq_true rfl) dX2_letsBy_39 (fun v_13 h_12 e_v_13 => ?_)
      refine s_if_eq F 49 dX2_letsBy_42 (by decide) (fun _ => ?_) (fun _ => ?_)
      · refine s_iconst F (v := 0) dX2_letsBy_49 (by decide) ?_
        exact s_zret1 F (by decide) dX2_letsBy_50
      · refine s_iconst F (v := 1) dX2_letsBy_45 (by decide) ?_
        refine s_goto F 50 dX2_letsBy_46 (by decide) ?_
        exact s_zret1 F (by decide) dX2_letsBy_50
theorem dX2_tradesCutOff_0 : decode cX2_tradesCutOff 0 = .ok (.iconst 0, 1) := by decide +kernel
theorem dX2_tradesCutOff_1 : decode cX2_tradesCutOff 1 = .ok (.istore_n 3, 1) := by decide +kernel
theorem dX2_tradesCutOff_2 : decode cX2_tradesCutOff 2 = .ok (.iconst 0, 1) := by decide +kernel
theorem dX2_tradesCutOff_3 : decode cX2_tradesCutOff 3 = .ok (.istore 4, 2) := by decide +kernel
theorem dX2_tradesCutOff_5 : decode cX2_tradesCutOff 5 = .ok (.iload 4, 2) := by decide +kernel
theorem dX2_tradesCutOff_7 : decode cX2_tradesCutOff 7 = .ok (.aload_n 0, 1) := by decide +kernel
theorem dX2_tradesCutOff_8 : decode cX2_tradesCutOff 8 = .ok (.getfield 40, 3) := by decide +kernel
theorem dX2_tradesCutOff_11 : decode cX2_tradesCutOff 11 = .ok (.if_icmp .ge 43, 3) := by decide +kernel
theorem dX2_tradesCutOff_14 : decode cX2_tradesCutOff 14 = .ok (.aload_n 0, 1) := by decide +kernel
theorem dX2_tradesCutOff_15 : decode cX2_tradesCutOff 15 = .ok (.iload 4, 2) := by decide +kernel
theorem dX2_tradesCutOff_17 : decode cX2_tradesCutOff 17 = .ok (.invokevirtual 112, 3) := by decide +kernel
theorem dX2_tradesCutOff_20 : decode cX2_tradesCutOff 20 = .ok (.ifCond .ne 28, 3) := by decide +kernel
theorem dX2_tradesCutOff_23 : decode cX2_tradesCutOff 23 = .ok (.aload_n 0, 1) := by decide +kernel
theorem dX2_tradesCutOff_24 : decode cX2_tradesCutOff 24 = .ok (.getfield 18, 3) := by decide +kernel
theorem dX2_tradesCutOff_27 : decode cX2_tradesCutOff 27 = .ok (.iload 4, 2) := by decide +kernel
theorem dX2_tradesCutOff_29 : decode cX2_tradesCutOff 29 = .ok (.iaload, 1) := by decide +kernel
theorem dX2_tradesCutOff_30 : decode cX2_tradesCutOff 30 = .ok (.iload_n 1, 1) := by decide +kernel
theorem dX2_tradesCutOff_31 : decode cX2_tradesCutOff 31 = .ok (.isub, 1) := by decide +kernel
theorem dX2_tradesCutOff_32 : decode cX2_tradesCutOff 32 = .ok (.iload_n 2, 1) := by decide +kernel
theorem dX2_tradesCutOff_33 : decode cX2_tradesCutOff 33 = .ok (.if_icmp .lt 15, 3) := by decide +kernel
theorem dX2_tradesCutOff_36 : decode cX2_tradesCutOff 36 = .ok (.iload_n 3, 1) := by decide +kernel
theorem dX2_tradesCutOff_37 : decode cX2_tradesCutOff 37 = .ok (.iconst 1, 1) := by decide +kernel
theorem dX2_tradesCutOff_38 : decode cX2_tradesCutOff 38 = .ok (.aload_n 0, 1) := by decide +kernel
theorem dX2_tradesCutOff_39 : decode cX2_tradesCutOff 39 = .ok (.iconst 0, 1) := by decide +kernel
theorem dX2_tradesCutOff_40 : decode cX2_tradesCutOff 40 = .ok (.iload 4, 2) := by decide +kernel
theorem dX2_tradesCutOff_42 : decode cX2_tradesCutOff 42 = .ok (.invokevirtual 121, 3) := by decide +kernel
theorem dX2_tradesCutOff_45 : decode cX2_tradesCutOff 45 = .ok (.ishl, 1) := by decide +kernel
theorem dX2_tradesCutOff_46 : decode cX2_tradesCutOff 46 = .ok (.ior, 1) := by decide +kernel
theorem dX2_tradesCutOff_47 : decode cX2_tradesCutOff 47 = .ok (.istore_n 3, 1) := by decide +kernel
theorem dX2_tradesCutOff_48 : decode cX2_tradesCutOff 48 = .ok (.iinc 4 1, 3) := by decide +kernel
theorem dX2_tradesCutOff_51 : decode cX2_tradesCutOff 51 = .ok (.goto (-46), 3) := by decide +kernel
theorem dX2_tradesCutOff_54 : decode cX2_tradesCutOff 54 = .ok (.bipush 15, 2) := by decide +kernel
theorem dX2_tradesCutOff_56 : decode cX2_tradesCutOff 56 = .ok (.istore 4, 2) := by decide +kernel
theorem dX2_tradesCutOff_58 : decode cX2_tradesCutOff 58 = .ok (.iload_n 3, 1) := by decide +kernel
theorem dX2_tradesCutOff_59 : decode cX2_tradesCutOff 59 = .ok (.iconst 4, 1) := by decide +kernel
theorem dX2_tradesCutOff_60 : decode cX2_tradesCutOff 60 = .ok (.invokestatic 71, 3) := by decide +kernel
theorem dX2_tradesCutOff_63 : decode cX2_tradesCutOff 63 = .ok (.iconst 1, 1) := by decide +kernel
theorem dX2_tradesCutOff_64 : decode cX2_tradesCutOff 64 = .ok (.if_icmp .ne 7, 3) := by decide +kernel
theorem dX2_tradesCutOff_67 : decode cX2_tradesCutOff 67 = .ok (.iconst 0, 1) := by decide +kernel
theorem dX2_tradesCutOff_68 : decode cX2_tradesCutOff 68 = .ok (.goto 9, 3) := by decide +kernel
theorem dX2_tradesCutOff_71 : decode cX2_tradesCutOff 71 = .ok (.iload 4, 2) := by decide +kernel
theorem dX2_tradesCutOff_73 : decode cX2_tradesCutOff 73 = .ok (.iload_n 3, 1) := by decide +kernel
theorem dX2_tradesCutOff_74 : decode cX2_tradesCutOff 74 = .ok (.iconst (-1), 1) := by decide +kernel
theorem dX2_tradesCutOff_75 : decode cX2_tradesCutOff 75 = .ok (.ixor, 1) := by decide +kernel
theorem dX2_tradesCutOff_76 : decode cX2_tradesCutOff 76 = .ok (.iand, 1) := by decide +kernel
theorem dX2_tradesCutOff_77 : decode cX2_tradesCutOff 77 = .ok (.ireturn, 1) := by decide +kernel
theorem yv_X2_tradesCutOff : YV yX2_tradesCutOff cX2_tradesCutOff 5 (some .int) 2 := ⟨m785, m786, m5, m787, ⟨by decide +kernel, by decide +kernel, by decide +kernel⟩, by decide⟩
def f_X2_tradesCutOff_5 (q : Nat) : Nat → Int32 → Int32 → Int32 → Int32 → AH → Option (Int32 × AH)
  | 0, _, _, _, _, _ => none
  | n + 1, x1, x2, x3, x4, h => if (h q 1) ≤ x4 then (bd (f_X7_bitOf x3 4 h) (fun v_2 h_1 => if v_2 = 1 then (some (0, h_1)) else (some ((15 &&& (x3 ^^^ (-1))), h_1)))) else (bd (f_X2_isShut q x4 h) (fun v_4 h_3 => if v_4 = 0 then (ck x4 6 (if ((h_3 (q + 3) (x4 : Int32).toNatClampNeg) - x1) < x2 then (lt (x4 + 1) (fun v_7 => (f_X2_tradesCutOff_5 q n) x1 x2 x3 v_7 h_3)) else (bd (f_X2_charterOf q 0 x4 h_3) (fun v_9 h_8 => lt ((x3 ||| (1 <<< (v_9 &&& 31)))) (fun v_10 => lt (x4 + 1) (fun v_11 => (f_X2_tradesCutOff_5 q n) x1 x2 v_10 v_11 h_8)))))) else (lt (x4 + 1) (fun v_5 => (f_X2_tradesCutOff_5 q n) x1 x2 x3 v_5 h_3))))
set_option maxRecDepth 20000 in
set_option maxHeartbeats 4000000 in
theorem t_X2_tradesCutOff_5 {z : MC} {g : GC} {A : Nat → Prop} (F : Fx z cX2_tradesCutOff 5 RX2 (some .int) 3 g A) {q : Nat} (hq : (gL g)[q]? = some (.inl 2)) : ∀ (n : Nat) (x1 : Int32) (x2 : Int32) (x3 : Int32) (x4 : Int32) (h : AH), Snd z 5 g A (QF z g A mkI) 5 [(0, .ref (gad g q)), (1, .int x1), (2, .int x2), (3, .int x3), (4, .int x4)] [] h (f_X2_tradesCutOff_5 q n x1 x2 x3 x4 h) := by
  intro n
  induction n with
  | zero => intros; exact s_none
  | succ n ih =>
    intro x1 x2 x3 x4 h
    unfold f_X2_tradesCutOff_5
    refine s_iload F dX2_tradesCutOff_5 4 rfl ?_
    refine s_aload_n F dX2_tradesCutOff_7 rfl 0 rfl ?_
    refine s_geti F ciX2 1 hq (by decide) rfl rfl m81 dX2_tradesCutOff_8 ?_
    refine s_icmp_ge F 54 dX2_tradesCutOff_11 (by decide) (fun _ => ?_) (fun _ => ?_)
    · refine s_bipush F (v := 15) dX2_tradesCutOff_54 (by decide) ?_
      refine s_istore F (lv' := [(4, .int 15), (0, .ref (gad g q)), (1, .int x1), (2, .int x2), (3, .int x3)]) dX2_tradesCutOff_56 (by decide) rfl ?_
      refine s_iload_n F dX2_tradesCutOff_58 rfl 4 rfl ?_
      refine s_iconst F (v := 4) dX2_tradesCutOff_59 (by decide) ?_
      refine s_callSNi (f := fun hh => f_X7_bitOf x3 4 hh) (As := [.int x3, .int 4]) F ys_X7_bitOf (ct_X7_bitOf z.2.1 g x3 4) (by decide) (List.mem_of_getElem? (i := 1) rfl) rfl rfl (Nat.le_of_ble_eq_true rfl) dX2_tradesCutOff_60 (fun v_2 h_1 e_v_2 => ?_)
      refine s_iconst F (v := 1) dX2_tradesCutOff_63 (by decide) ?_
      refine s_icmp_ne F 71 dX2_tradesCutOff_64 (by decide) (fun _ => ?_) (fun _ => ?_)
      · refine s_iload F dX2_tradesCutOff_71 0 rfl ?_
        refine s_iload_n F dX2_tradesCutOff_73 rfl 4 rfl ?_
        refine s_iconst F (v := (-1)) dX2_tradesCutOff_74 (by decide) ?_
        refine s_ixor F dX2_tradesCutOff_75 ?_
        refine s_iand F dX2_tradesCutOff_76 ?_
        exact s_iret F dX2_tradesCutOff_77
      · refine s_iconst F (v := 0) dX2_tradesCutOff_67 (by decide) ?_
        refine s_goto F 77 dX2_tradesCutOff_68 (by decide) ?_
        exact s_iret F dX2_tradesCutOff_77
    · refine s_aload_n F dX2_tradesCutOff_14 rfl 0 rfl ?_
      refine s_iload F dX2_tradesCutOff_15 4 rfl ?_
      refine s_callVi (f := fun hh => f_X2_isShut q x4 hh) (As := [.int x4]) F yv_X2_isShut (ct_X2_isShut z.2.1 g hq x4) (by decide) m575 hq rfl rfl rfl (Nat.le_of_ble_eq_true rfl) dX2_tradesCutOff_17 (fun v_4 h_3 e_v_4 => ?_)
      refine s_if_ne F 48 dX2_tradesCutOff_20 (by decide) (fun _ => ?_) (fun _ => ?_)
      · refine s_iincv F dX2_tradesCutOff_48 4 rfl (by decide) (c := 1) (by decide) (fun v_5 => ?_)
        refine s_lv (lv' := [(4, .int v_5), (0, .ref (gad g q)), (1, .int x1), (2, .int x2), (3, .int x3)]) rfl ?_
        refine s_goto F 5 dX2_tradesCutOff_51 (by decide) ?_
        exact s_sub [1, 2, 3, 4, 0] rfl (ih x1 x2 x3 v_5 h_3)
      · refine s_aload_n F dX2_tradesCutOff_23 rfl 0 rfl ?_
        have hw_6 := wf_ref F.2.2.2.2.2.2.1 hq 9 3 (.inr (0, 6)) rfl
        refine s_getr F ciX2 9 3 (.inr (0, 6)) hq (by decide) rfl rfl m104 dX2_tradesCutOff_24 ?_
        refine s_iload F dX2_tradesCutOff_27 4 rfl ?_
        refine s_iald F hw_6 dX2_tradesCutOff_29 ?_
        refine s_iload_n F dX2_tradesCutOff_30 rfl 1 rfl ?_
        refine s_isub F dX2_tradesCutOff_31 ?_
        refine s_iload_n F dX2_tradesCutOff_32 rfl 2 rfl ?_
        refine s_icmp_lt F 48 dX2_tradesCutOff_33 (by decide) (fun _ => ?_) (fun _ => ?_)
        · refine s_iincv F dX2_tradesCutOff_48 4 rfl (by decide) (c := 1) (by decide) (fun v_7 => ?_)
          refine s_lv (lv' := [(4, .int v_7), (0, .ref (gad g q)), (1, .int x1), (2, .int x2), (3, .int x3)]) rfl ?_
          refine s_goto F 5 dX2_tradesCutOff_51 (by decide) ?_
          exact s_sub [1, 2, 3, 4, 0] rfl (ih x1 x2 x3 v_7 h_3)
        · refine s_iload_n F dX2_tradesCutOff_36 rfl 3 rfl ?_
          refine s_iconst F (v := 1) dX2_tradesCutOff_37 (by decide) ?_
          refine s_aload_n F dX2_tradesCutOff_38 rfl 0 rfl ?_
          refine s_iconst F (v := 0) dX2_tradesCutOff_39 (by decide) ?_
          refine s_iload F dX2_tradesCutOff_40 4 rfl ?_
          refine s_callVi (f := fun hh => f_X2_charterOf q 0 x4 hh) (As := [.int 0, .int x4]) F yv_X2_charterOf (ct_X2_charterOf z.2.1 g hq 0 x4) (by decide) m607 hq rfl rfl rfl (Nat.le_of_ble_eq_true rfl) dX2_tradesCutOff_42 (fun v_9 h_8 e_v_9 => ?_)
          refine s_ishl F dX2_tradesCutOff_45 ?_
          refine s_ior F dX2_tradesCutOff_46 ?_
          refine s_leti (fun v_10 => ?_)
          refine s_istore_n F (lv' := [(3, .int v_10), (0, .ref (gad g q)), (1, .int x1), (2, .int x2), (4, .int x4)]) dX2_tradesCutOff_47 rfl (by decide) rfl ?_
          refine s_iincv F dX2_tradesCutOff_48 4 rfl (by decide) (c := 1) (by decide) (fun v_11 => ?_)
          refine s_lv (lv' := [(4, .int v_11), (3, .int v_10), (0, .ref (gad g q)), (1, .int x1), (2, .int x2)]) rfl ?_
          refine s_goto F 5 dX2_tradesCutOff_51 (by decide) ?_
          exact s_sub [2, 3, 4, 1, 0] rfl (ih x1 x2 v_10 v_11 h_8)
def f_X2_tradesCutOff (q : Nat) (x1 : Int32) (x2 : Int32) (h : AH) : Option (Int32 × AH) := f_X2_tradesCutOff_5 q fu x1 x2 0 0 h
set_option maxRecDepth 20000 in
set_option maxHeartbeats 4000000 in
theorem ct_X2_tradesCutOff (l : Launch) (g : GC) {q : Nat} (hq : (gL g)[q]? = some (.inl 2)) (x1 : Int32) (x2 : Int32) : Ct l yX2_tradesCutOff cX2_tradesCutOff 5 (some .int) 3 [.ref (gad g q), .int x1, .int x2] g mkI (fun h => f_X2_tradesCutOff q x1 x2 h) := by
  refine Ct.of (by decide +kernel) (Nat.le_of_ble_eq_true rfl) (fun z A h _ F => ?_)
  show Snd z 5 g A (QF z g A mkI) 0 [(0, .ref (gad g q)), (1, .int x1), (2, .int x2)] [] h (f_X2_tradesCutOff q x1 x2 h)
  unfold f_X2_tradesCutOff
  refine s_iconst F (v := 0) dX2_tradesCutOff_0 (by decide) ?_
  refine s_istore_n F (lv' := [(3, .int 0), (0, .ref (gad g q)), (1, .int x1), (2, .int x2)]) dX2_tradesCutOff_1 rfl (by decide) rfl ?_
  refine s_iconst F (v := 0) dX2_tradesCutOff_2 (by decide) ?_
  refine s_istore F (lv' := [(4, .int 0), (3, .int 0), (0, .ref (gad g q)), (1, .int x1), (2, .int x2)]) dX2_tradesCutOff_3 (by decide) rfl ?_
  exact s_sub [2, 3, 4, 1, 0] rfl (t_X2_tradesCutOff_5 F hq fu x1 x2 0 0 h)
theorem dX2_wentIn_0 : decode cX2_wentIn 0 = .ok (.aload_n 0, 1) := by decide +kernel
theorem dX2_wentIn_1 : decode cX2_wentIn 1 = .ok (.getfield 33, 3) := by decide +kernel
theorem dX2_wentIn_4 : decode cX2_wentIn 4 = .ok (.iload_n 1, 1) := by decide +kernel
theorem dX2_wentIn_5 : decode cX2_wentIn 5 = .ok (.bipush 12, 2) := by decide +kernel
theorem dX2_wentIn_7 : decode cX2_wentIn 7 = .ok (.imul, 1) := by decide +kernel
theorem dX2_wentIn_8 : decode cX2_wentIn 8 = .ok (.aload_n 0, 1) := by decide +kernel
theorem dX2_wentIn_9 : decode cX2_wentIn 9 = .ok (.getfield 47, 3) := by decide +kernel
theorem dX2_wentIn_12 : decode cX2_wentIn 12 = .ok (.iadd, 1) := by decide +kernel
theorem dX2_wentIn_13 : decode cX2_wentIn 13 = .ok (.iaload, 1) := by decide +kernel
theorem dX2_wentIn_14 : decode cX2_wentIn 14 = .ok (.iload_n 2, 1) := by decide +kernel
theorem dX2_wentIn_15 : decode cX2_wentIn 15 = .ok (.invokestatic 71, 3) := by decide +kernel
theorem dX2_wentIn_18 : decode cX2_wentIn 18 = .ok (.ireturn, 1) := by decide +kernel
theorem yv_X2_wentIn : YV yX2_wentIn cX2_wentIn 3 (some .int) 2 := ⟨m614, m615, m5, m616, ⟨by decide +kernel, by decide +kernel, by decide +kernel⟩, by decide⟩
def f_X2_wentIn (q : Nat) (x1 : Int32) (x2 : Int32) (h : AH) : Option (Int32 × AH) := lt (((x1 * 12) + (h q 3))) (fun v_2 => ck v_2 24 (bd (f_X7_bitOf (h (q + 8) (v_2 : Int32).toNatClampNeg) x2 h) (fun v_4 h_3 => some (v_4, h_3))))
set_option maxRecDepth 20000 in
set_option maxHeartbeats 4000000 in
theorem ct_X2_wentIn (l : Launch) (g : GC) {q : Nat} (hq : (gL g)[q]? = some (.inl 2)) (x1 : Int32) (x2 : Int32) : Ct l yX2_wentIn cX2_wentIn 3 (some .int) 2 [.ref (gad g q), .int x1, .int x2] g mkI (fun h => f_X2_wentIn q x1 x2 h) := by
  refine Ct.of (by decide +kernel) (Nat.le_of_ble_eq_true rfl) (fun z A h _ F => ?_)
  show Snd z 3 g A (QF z g A mkI) 0 [(0, .ref (gad g q)), (1, .int x1), (2, .int x2)] [] h (f_X2_wentIn q x1 x2 h)
  unfold f_X2_wentIn
  refine s_aload_n F dX2_wentIn_0 rfl 0 rfl ?_
  have hw_1 := wf_ref F.2.2.2.2.2.2.1 hq 14 8 (.inr (0, 24)) rfl
  refine s_getr F ciX2 14 8 (.inr (0, 24)) hq (by decide) rfl rfl m120 dX2_wentIn_1 ?_
  refine s_iload_n F dX2_wentIn_4 rfl 1 rfl ?_
  refine s_bipush F (v := 12) dX2_wentIn_5 (by decide) ?_
  refine s_imul F dX2_wentIn_7 ?_
  refine s_aload_n F dX2_wentIn_8 rfl 0 rfl ?_
  refine s_geti F ciX2 3 hq (by decide) rfl rfl m89 dX2_wentIn_9 ?_
  refine s_iadd F dX2_wentIn_12 ?_
  refine s_leti (fun v_2 => ?_)
  refine s_iald F hw_1 dX2_wentIn_13 ?_
  refine s_iload_n F dX2_wentIn_14 rfl 2 rfl ?_
  refine s_callSNi (f := fun hh => f_X7_bitOf (h (q + 8) (v_2 : Int32).toNatClampNeg) x2 hh) (As := [.int (h (q + 8) (v_2 : Int32).toNatClampNeg), .int x2]) F ys_X7_bitOf (ct_X7_bitOf z.2.1 g (h (q + 8) (v_2 : Int32).toNatClampNeg) x2) (by decide) (List.mem_of_getElem? (i := 1) rfl) rfl rfl (Nat.le_of_ble_eq_true rfl) dX2_wentIn_15 (fun v_4 h_3 e_v_4 => ?_)
  exact s_iret F dX2_wentIn_18
theorem dX2_goBy_0 : decode cX2_goBy 0 = .ok (.aload_n 0, 1) := by decide +kernel
theorem dX2_goBy_1 : decode cX2_goBy 1 = .ok (.aload_n 0, 1) := by decide +kernel
theorem dX2_goBy_2 : decode cX2_goBy 2 = .ok (.getfield 56, 3) := by decide +kernel
theorem dX2_goBy_5 : decode cX2_goBy 5 = .ok (.iload_n 1, 1) := by decide +kernel
theorem dX2_goBy_6 : decode cX2_goBy 6 = .ok (.iconst 1, 1) := by decide +kernel
theorem dX2_goBy_7 : decode cX2_goBy 7 = .ok (.invokestatic 87, 3) := by decide +kernel
theorem dX2_goBy_10 : decode cX2_goBy 10 = .ok (.putfield 56, 3) := by decide +kernel
theorem dX2_goBy_13 : decode cX2_goBy 13 = .ok (.aload_n 0, 1) := by decide +kernel
theorem dX2_goBy_14 : decode cX2_goBy 14 = .ok (.aload_n 0, 1) := by decide +kernel
theorem dX2_goBy_15 : decode cX2_goBy 15 = .ok (.iload_n 1, 1) := by decide +kernel
theorem dX2_goBy_16 : decode cX2_goBy 16 = .ok (.invokevirtual 118, 3) := by decide +kernel
theorem dX2_goBy_19 : decode cX2_goBy 19 = .ok (.iload_n 2, 1) := by decide +kernel
theorem dX2_goBy_20 : decode cX2_goBy 20 = .ok (.iconst 1, 1) := by decide +kernel
theorem dX2_goBy_21 : decode cX2_goBy 21 = .ok (.invokevirtual 128, 3) := by decide +kernel
theorem dX2_goBy_24 : decode cX2_goBy 24 = .ok (.aload_n 0, 1) := by decide +kernel
theorem dX2_goBy_25 : decode cX2_goBy 25 = .ok (.dup, 1) := by decide +kernel
theorem dX2_goBy_26 : decode cX2_goBy 26 = .ok (.getfield 50, 3) := by decide +kernel
theorem dX2_goBy_29 : decode cX2_goBy 29 = .ok (.iload_n 3, 1) := by decide +kernel
theorem dX2_goBy_30 : decode cX2_goBy 30 = .ok (.iadd, 1) := by decide +kernel
theorem dX2_goBy_31 : decode cX2_goBy 31 = .ok (.putfield 50, 3) := by decide +kernel
theorem dX2_goBy_34 : decode cX2_goBy 34 = .ok (.return_, 1) := by decide +kernel
theorem yv_X2_goBy : YV yX2_goBy cX2_goBy 4 none 3 := ⟨m627, m628, m5, m629, ⟨by decide +kernel, by decide +kernel, by decide +kernel⟩, by decide⟩
def f_X2_goBy (q : Nat) (x1 : Int32) (x2 : Int32) (x3 : Int32) (h : AH) : Option (Unit × AH) := bd (f_X7_withBit (h q 6) x1 1 h) (fun v_2 h_1 => lt (hset h_1 q 6 v_2) (fun h_3 => bd (f_X2_sideOf q x1 h_3) (fun v_5 h_4 => bd (f_X2_markWent q v_5 x2 1 h_4) (fun _ h_6 => lt (hset h_6 q 4 ((h_6 q 4) + x3)) (fun h_8 => some ((), h_8))))))
set_option maxRecDepth 20000 in
set_option maxHeartbeats 4000000 in
theorem ct_X2_goBy (l : Launch) (g : GC) {q : Nat} (hq : (gL g)[q]? = some (.inl 2)) (x1 : Int32) (x2 : Int32) (x3 : Int32) : Ct l yX2_goBy cX2_goBy 4 none 3 [.ref (gad g q), .int x1, .int x2, .int x3] g mkU (fun h => f_X2_goBy q x1 x2 x3 h) := by
  refine Ct.of (by decide +kernel) (Nat.le_of_ble_eq_true rfl) (fun z A h _ F => ?_)
  show Snd z 4 g A (QF z g A mkU) 0 [(0, .ref (gad g q)), (1, .int x1), (2, .int x2), (3, .int x3)] [] h (f_X2_goBy q x1 x2 x3 h)
  unfold f_X2_goBy
  refine s_aload_n F dX2_goBy_0 rfl 0 rfl ?_
  refine s_aload_n F dX2_goBy_1 rfl 0 rfl ?_
  refine s_geti F ciX2 6 hq (by decide) rfl rfl m97 dX2_goBy_2 ?_
  refine s_iload_n F dX2_goBy_5 rfl 1 rfl ?_
  refine s_iconst F (v := 1) dX2_goBy_6 (by decide) ?_
  refine s_callSNi (f := fun hh => f_X7_withBit (h q 6) x1 1 hh) (As := [.int (h q 6), .int x1, .int 1]) F ys_X7_withBit (ct_X7_withBit z.2.1 g (h q 6) x1 1) (by decide) (List.mem_of_getElem? (i := 2) rfl) rfl rfl (Nat.le_of_ble_eq_true rfl) dX2_goBy_7 (fun v_2 h_1 e_v_2 => ?_)
  refine s_put F ciX2 (k := 6) hq (by decide) rfl rfl rfl rfl m97 dX2_goBy_10 ?_
  refine s_letH (fun h_3 => ?_)
  refine s_aload_n F dX2_goBy_13 rfl 0 rfl ?_
  refine s_aload_n F dX2_goBy_14 rfl 0 rfl ?_
  refine s_iload_n F dX2_goBy_15 rfl 1 rfl ?_
  refine s_callVi (f := fun hh => f_X2_sideOf q x1 hh) (As := [.int x1]) F yv_X2_sideOf (ct_X2_sideOf z.2.1 g hq x1) (by decide) m603 hq rfl rfl rfl (Nat.le_of_ble_eq_true rfl) dX2_goBy_16 (fun v_5 h_4 e_v_5 => ?_)
  refine s_iload_n F dX2_goBy_19 rfl 2 rfl ?_
  refine s_iconst F (v := 1) dX2_goBy_20 (by decide) ?_
  refine s_callVu (f := fun hh => f_X2_markWent q v_5 x2 1 hh) (As := [.int v_5, .int x2, .int 1]) F yv_X2_markWent (ct_X2_markWent z.2.1 g hq v_5 x2 1) (by decide) m630 hq rfl rfl rfl (Nat.le_of_ble_eq_true rfl) dX2_goBy_21 (fun _ h_6 e_v_7 => ?_)
  refine s_aload_n F dX2_goBy_24 rfl 0 rfl ?_
  refine s_dup F dX2_goBy_25 rfl ?_
  refine s_geti F ciX2 4 hq (by decide) rfl rfl m92 dX2_goBy_26 ?_
  refine s_iload_n F dX2_goBy_29 rfl 3 rfl ?_
  refine s_iadd F dX2_goBy_30 ?_
  refine s_put F ciX2 (k := 4) hq (by decide) rfl rfl rfl rfl m92 dX2_goBy_31 ?_
  refine s_letH (fun h_8 => ?_)
  exact s_vret F dX2_goBy_34
theorem dX2_splitOff_0 : decode cX2_splitOff 0 = .ok (.aload_n 0, 1) := by decide +kernel
theorem dX2_splitOff_1 : decode cX2_splitOff 1 = .ok (.getfield 44, 3) := by decide +kernel
theorem dX2_splitOff_4 : decode cX2_splitOff 4 = .ok (.istore_n 3, 1) := by decide +kernel
theorem dX2_splitOff_5 : decode cX2_splitOff 5 = .ok (.aload_n 0, 1) := by decide +kernel
theorem dX2_splitOff_6 : decode cX2_splitOff 6 = .ok (.dup, 1) := by decide +kernel
theorem dX2_splitOff_7 : decode cX2_splitOff 7 = .ok (.getfield 44, 3) := by decide +kernel
theorem dX2_splitOff_10 : decode cX2_splitOff 10 = .ok (.iconst 1, 1) := by decide +kernel
theorem dX2_splitOff_11 : decode cX2_splitOff 11 = .ok (.iadd, 1) := by decide +kernel
theorem dX2_splitOff_12 : decode cX2_splitOff 12 = .ok (.putfield 44, 3) := by decide +kernel
theorem dX2_splitOff_15 : decode cX2_splitOff 15 = .ok (.aload_n 0, 1) := by decide +kernel
theorem dX2_splitOff_16 : decode cX2_splitOff 16 = .ok (.getfield 24, 3) := by decide +kernel
theorem dX2_splitOff_19 : decode cX2_splitOff 19 = .ok (.iload_n 3, 1) := by decide +kernel
theorem dX2_splitOff_20 : decode cX2_splitOff 20 = .ok (.aload_n 0, 1) := by decide +kernel
theorem dX2_splitOff_21 : decode cX2_splitOff 21 = .ok (.getfield 24, 3) := by decide +kernel
theorem dX2_splitOff_24 : decode cX2_splitOff 24 = .ok (.iload_n 1, 1) := by decide +kernel
theorem dX2_splitOff_25 : decode cX2_splitOff 25 = .ok (.iaload, 1) := by decide +kernel
theorem dX2_splitOff_26 : decode cX2_splitOff 26 = .ok (.iastore, 1) := by decide +kernel
theorem dX2_splitOff_27 : decode cX2_splitOff 27 = .ok (.aload_n 0, 1) := by decide +kernel
theorem dX2_splitOff_28 : decode cX2_splitOff 28 = .ok (.getfield 27, 3) := by decide +kernel
theorem dX2_splitOff_31 : decode cX2_splitOff 31 = .ok (.iload_n 3, 1) := by decide +kernel
theorem dX2_splitOff_32 : decode cX2_splitOff 32 = .ok (.aload_n 0, 1) := by decide +kernel
theorem dX2_splitOff_33 : decode cX2_splitOff 33 = .ok (.getfield 27, 3) := by decide +kernel
theorem dX2_splitOff_36 : decode cX2_splitOff 36 = .ok (.iload_n 1, 1) := by decide +kernel
theorem dX2_splitOff_37 : decode cX2_splitOff 37 = .ok (.iaload, 1) := by decide +kernel
theorem dX2_splitOff_38 : decode cX2_splitOff 38 = .ok (.iastore, 1) := by decide +kernel
theorem dX2_splitOff_39 : decode cX2_splitOff 39 = .ok (.iconst 0, 1) := by decide +kernel
theorem dX2_splitOff_40 : decode cX2_splitOff 40 = .ok (.istore 4, 2) := by decide +kernel
theorem dX2_splitOff_42 : decode cX2_splitOff 42 = .ok (.iload 4, 2) := by decide +kernel
theorem dX2_splitOff_44 : decode cX2_splitOff 44 = .ok (.iconst 4, 1) := by decide +kernel
theorem dX2_splitOff_45 : decode cX2_splitOff 45 = .ok (.if_icmp .ge 21, 3) := by decide +kernel
theorem dX2_splitOff_48 : decode cX2_splitOff 48 = .ok (.aload_n 0, 1) := by decide +kernel
theorem dX2_splitOff_49 : decode cX2_splitOff 49 = .ok (.getfield 30, 3) := by decide +kernel
theorem dX2_splitOff_52 : decode cX2_splitOff 52 = .ok (.iload_n 3, 1) := by decide +kernel
theorem dX2_splitOff_53 : decode cX2_splitOff 53 = .ok (.iload 4, 2) := by decide +kernel
theorem dX2_splitOff_55 : decode cX2_splitOff 55 = .ok (.invokestatic 78, 3) := by decide +kernel
theorem dX2_splitOff_58 : decode cX2_splitOff 58 = .ok (.iconst 0, 1) := by decide +kernel
theorem dX2_splitOff_59 : decode cX2_splitOff 59 = .ok (.iastore, 1) := by decide +kernel
theorem dX2_splitOff_60 : decode cX2_splitOff 60 = .ok (.iinc 4 1, 3) := by decide +kernel
theorem dX2_splitOff_63 : decode cX2_splitOff 63 = .ok (.goto (-21), 3) := by decide +kernel
theorem dX2_splitOff_66 : decode cX2_splitOff 66 = .ok (.aload_n 0, 1) := by decide +kernel
theorem dX2_splitOff_67 : decode cX2_splitOff 67 = .ok (.getfield 30, 3) := by decide +kernel
theorem dX2_splitOff_70 : decode cX2_splitOff 70 = .ok (.iload_n 3, 1) := by decide +kernel
theorem dX2_splitOff_71 : decode cX2_splitOff 71 = .ok (.iload_n 2, 1) := by decide +kernel
theorem dX2_splitOff_72 : decode cX2_splitOff 72 = .ok (.invokestatic 78, 3) := by decide +kernel
theorem dX2_splitOff_75 : decode cX2_splitOff 75 = .ok (.aload_n 0, 1) := by decide +kernel
theorem dX2_splitOff_76 : decode cX2_splitOff 76 = .ok (.iload_n 1, 1) := by decide +kernel
theorem dX2_splitOff_77 : decode cX2_splitOff 77 = .ok (.iload_n 2, 1) := by decide +kernel
theorem dX2_splitOff_78 : decode cX2_splitOff 78 = .ok (.invokevirtual 81, 3) := by decide +kernel
theorem dX2_splitOff_81 : decode cX2_splitOff 81 = .ok (.iastore, 1) := by decide +kernel
theorem dX2_splitOff_82 : decode cX2_splitOff 82 = .ok (.aload_n 0, 1) := by decide +kernel
theorem dX2_splitOff_83 : decode cX2_splitOff 83 = .ok (.getfield 30, 3) := by decide +kernel
theorem dX2_splitOff_86 : decode cX2_splitOff 86 = .ok (.iload_n 1, 1) := by decide +kernel
theorem dX2_splitOff_87 : decode cX2_splitOff 87 = .ok (.iload_n 2, 1) := by decide +kernel
theorem dX2_splitOff_88 : decode cX2_splitOff 88 = .ok (.invokestatic 78, 3) := by decide +kernel
theorem dX2_splitOff_91 : decode cX2_splitOff 91 = .ok (.iconst 0, 1) := by decide +kernel
theorem dX2_splitOff_92 : decode cX2_splitOff 92 = .ok (.iastore, 1) := by decide +kernel
theorem dX2_splitOff_93 : decode cX2_splitOff 93 = .ok (.iload_n 3, 1) := by decide +kernel
theorem dX2_splitOff_94 : decode cX2_splitOff 94 = .ok (.ireturn, 1) := by decide +kernel
theorem yv_X2_splitOff : YV yX2_splitOff cX2_splitOff 5 (some .int) 2 := ⟨m644, m645, m5, m646, ⟨by decide +kernel, by decide +kernel, by decide +kernel⟩, by decide⟩
def f_X2_splitOff_42 (q : Nat) : Nat → Int32 → Int32 → Int32 → Int32 → AH → Option (Int32 × AH)
  | 0, _, _, _, _, _ => none
  | n + 1, x1, x2, x3, x4, h => if (4 : Int32) ≤ x4 then (bd (f_X2_loadPlace x3 x2 h) (fun v_3 h_2 => bd (f_X2_loadOf q x1 x2 h_2) (fun v_5 h_4 => ck v_3 24 (lt (hset h_4 (q + 7) (v_3 : Int32).toNatClampNeg v_5) (fun h_6 => bd (f_X2_loadPlace x1 x2 h_6) (fun v_9 h_8 => ck v_9 24 (lt (hset h_8 (q + 7) (v_9 : Int32).toNatClampNeg 0) (fun h_10 => some (x3, h_10))))))))) else (bd (f_X2_loadPlace x3 x4 h) (fun v_13 h_12 => ck v_13 24 (lt (hset h_12 (q + 7) (v_13 : Int32).toNatClampNeg 0) (fun h_14 => lt (x4 + 1) (fun v_15 => (f_X2_splitOff_42 q n) x1 x2 x3 v_15 h_14)))))
set_option maxRecDepth 20000 in
set_option maxHeartbeats 4000000 in
theorem t_X2_splitOff_42 {z : MC} {g : GC} {A : Nat → Prop} (F : Fx z cX2_splitOff 5 RX2 (some .int) 3 g A) {q : Nat} (hq : (gL g)[q]? = some (.inl 2)) : ∀ (n : Nat) (x1 : Int32) (x2 : Int32) (x3 : Int32) (x4 : Int32) (h : AH), Snd z 5 g A (QF z g A mkI) 42 [(0, .ref (gad g q)), (1, .int x1), (2, .int x2), (3, .int x3), (4, .int x4)] [] h (f_X2_splitOff_42 q n x1 x2 x3 x4 h) := by
  intro n
  induction n with
  | zero => intros; exact s_none
  | succ n ih =>
    intro x1 x2 x3 x4 h
    unfold f_X2_splitOff_42
    refine s_iload F dX2_splitOff_42 4 rfl ?_
    refine s_iconst F (v := 4) dX2_splitOff_44 (by decide) ?_
    refine s_icmp_ge F 66 dX2_splitOff_45 (by decide) (fun _ => ?_) (fun _ => ?_)
    · refine s_aload_n F dX2_splitOff_66 rfl 0 rfl ?_
      have hw_1 := wf_ref F.2.2.2.2.2.2.1 hq 13 7 (.inr (0, 24)) rfl
      refine s_getr F ciX2 13 7 (.inr (0, 24)) hq (by decide) rfl rfl m118 dX2_splitOff_67 ?_
      refine s_iload_n F dX2_splitOff_70 rfl 3 rfl ?_
      refine s_iload_n F dX2_splitOff_71 rfl 2 rfl ?_
      refine s_callSi (f := fun hh => f_X2_loadPlace x3 x2 hh) (As := [.int x3, .int x2]) F ys_X2_loadPlace (ct_X2_loadPlace z.2.1 g x3 x2) (by decide) m591 rfl rfl (Nat.le_of_ble_eq_true rfl) dX2_splitOff_72 (fun v_3 h_2 e_v_3 => ?_)
      refine s_aload_n F dX2_splitOff_75 rfl 0 rfl ?_
      refine s_iload_n F dX2_splitOff_76 rfl 1 rfl ?_
      refine s_iload_n F dX2_splitOff_77 rfl 2 rfl ?_
      refine s_callVi (f := fun hh => f_X2_loadOf q x1 x2 hh) (As := [.int x1, .int x2]) F yv_X2_loadOf (ct_X2_loadOf z.2.1 g hq x1 x2) (by decide) m587 hq rfl rfl rfl (Nat.le_of_ble_eq_true rfl) dX2_splitOff_78 (fun v_5 h_4 e_v_5 => ?_)
      refine s_iast F hw_1 dX2_splitOff_81 ?_
      refine s_letH (fun h_6 => ?_)
      refine s_aload_n F dX2_splitOff_82 rfl 0 rfl ?_
      have hw_7 := wf_ref F.2.2.2.2.2.2.1 hq 13 7 (.inr (0, 24)) rfl
      refine s_getr F ciX2 13 7 (.inr (0, 24)) hq (by decide) rfl rfl m118 dX2_splitOff_83 ?_
      refine s_iload_n F dX2_splitOff_86 rfl 1 rfl ?_
      refine s_iload_n F dX2_splitOff_87 rfl 2 rfl ?_
      refine s_callSi (f := fun hh => f_X2_loadPlace x1 x2 hh) (As := [.int x1, .int x2]) F ys_X2_loadPlace (ct_X2_loadPlace z.2.1 g x1 x2) (by decide) m591 rfl rfl (Nat.le_of_ble_eq_true rfl) dX2_splitOff_88 (fun v_9 h_8 e_v_9 => ?_)
      refine s_iconst F (v := 0) dX2_splitOff_91 (by decide) ?_
      refine s_iast F hw_7 dX2_splitOff_92 ?_
      refine s_letH (fun h_10 => ?_)
      refine s_iload_n F dX2_splitOff_93 rfl 3 rfl ?_
      exact s_iret F dX2_splitOff_94
    · refine s_aload_n F dX2_splitOff_48 rfl 0 rfl ?_
      have hw_11 := wf_ref F.2.2.2.2.2.2.1 hq 13 7 (.inr (0, 24)) rfl
      refine s_getr F ciX2 13 7 (.inr (0, 24)) hq (by decide) rfl rfl m118 dX2_splitOff_49 ?_
      refine s_iload_n F dX2_splitOff_52 rfl 3 rfl ?_
      refine s_iload F dX2_splitOff_53 4 rfl ?_
      refine s_callSi (f := fun hh => f_X2_loadPlace x3 x4 hh) (As := [.int x3, .int x4]) F ys_X2_loadPlace (ct_X2_loadPlace z.2.1 g x3 x4) (by decide) m591 rfl rfl (Nat.le_of_ble_eq_true rfl) dX2_splitOff_55 (fun v_13 h_12 e_v_13 => ?_)
      refine s_iconst F (v := 0) dX2_splitOff_58 (by decide) ?_
      refine s_iast F hw_11 dX2_splitOff_59 ?_
      refine s_letH (fun h_14 => ?_)
      refine s_iincv F dX2_splitOff_60 4 rfl (by decide) (c := 1) (by decide) (fun v_15 => ?_)
      refine s_lv (lv' := [(4, .int v_15), (0, .ref (gad g q)), (1, .int x1), (2, .int x2), (3, .int x3)]) rfl ?_
      refine s_goto F 42 dX2_splitOff_63 (by decide) ?_
      exact s_sub [1, 2, 3, 4, 0] rfl (ih x1 x2 x3 v_15 h_14)
def f_X2_splitOff (q : Nat) (x1 : Int32) (x2 : Int32) (h : AH) : Option (Int32 × AH) := lt (h q 2) (fun v_1 => lt (hset h q 2 ((h q 2) + 1)) (fun h_2 => ck x1 6 (ck v_1 6 (lt (hset h_2 (q + 5) (v_1 : Int32).toNatClampNeg (h_2 (q + 5) (x1 : Int32).toNatClampNeg)) (fun h_5 => ck x1 6 (ck v_1 6 (lt (hset h_5 (q + 6) (v_1 : Int32).toNatClampNeg (h_5 (q + 6) (x1 : Int32).toNatClampNeg)) (fun h_8 => f_X2_splitOff_42 q fu x1 x2 v_1 0 h_8))))))))
set_option maxRecDepth 20000 in
set_option maxHeartbeats 4000000 in
theorem ct_X2_splitOff (l : Launch) (g : GC) {q : Nat} (hq : (gL g)[q]? = some (.inl 2)) (x1 : Int32) (x2 : Int32) : Ct l yX2_splitOff cX2_splitOff 5 (some .int) 3 [.ref (gad g q), .int x1, .int x2] g mkI (fun h => f_X2_splitOff q x1 x2 h) := by
  refine Ct.of (by decide +kernel) (Nat.le_of_ble_eq_true rfl) (fun z A h _ F => ?_)
  show Snd z 5 g A (QF z g A mkI) 0 [(0, .ref (gad g q)), (1, .int x1), (2, .int x2)] [] h (f_X2_splitOff q x1 x2 h)
  unfold f_X2_splitOff
  refine s_aload_n F dX2_splitOff_0 rfl 0 rfl ?_
  refine s_geti F ciX2 2 hq (by decide) rfl rfl m85 dX2_splitOff_1 ?_
  refine s_leti (fun v_1 => ?_)
  refine s_istore_n F (lv' := [(3, .int v_1), (0, .ref (gad g q)), (1, .int x1), (2, .int x2)]) dX2_splitOff_4 rfl (by decide) rfl ?_
  refine s_aload_n F dX2_splitOff_5 rfl 1 rfl ?_
  refine s_dup F dX2_splitOff_6 rfl ?_
  refine s_geti F ciX2 2 hq (by decide) rfl rfl m85 dX2_splitOff_7 ?_
  refine s_iconst F (v := 1) dX2_splitOff_10 (by decide) ?_
  refine s_iadd F dX2_splitOff_11 ?_
  refine s_put F ciX2 (k := 2) hq (by decide) rfl rfl rfl rfl m85 dX2_splitOff_12 ?_
  refine s_letH (fun h_2 => ?_)
  refine s_aload_n F dX2_splitOff_15 rfl 1 rfl ?_
  have hw_3 := wf_ref F.2.2.2.2.2.2.1 hq 11 5 (.inr (0, 6)) rfl
  refine s_getr F ciX2 11 5 (.inr (0, 6)) hq (by decide) rfl rfl m110 dX2_splitOff_16 ?_
  refine s_iload_n F dX2_splitOff_19 rfl 0 rfl ?_
  refine s_aload_n F dX2_splitOff_20 rfl 1 rfl ?_
  have hw_4 := wf_ref F.2.2.2.2.2.2.1 hq 11 5 (.inr (0, 6)) rfl
  refine s_getr F ciX2 11 5 (.inr (0, 6)) hq (by decide) rfl rfl m110 dX2_splitOff_21 ?_
  refine s_iload_n F dX2_splitOff_24 rfl 2 rfl ?_
  refine s_iald F hw_4 dX2_splitOff_25 ?_
  refine s_iast F hw_3 dX2_splitOff_26 ?_
  refine s_letH (fun h_5 => ?_)
  refine s_aload_n F dX2_splitOff_27 rfl 1 rfl ?_
  have hw_6 := wf_ref F.2.2.2.2.2.2.1 hq 12 6 (.inr (0, 6)) rfl
  refine s_getr F ciX2 12 6 (.inr (0, 6)) hq (by decide) rfl rfl m114 dX2_splitOff_28 ?_
  refine s_iload_n F dX2_splitOff_31 rfl 0 rfl ?_
  refine s_aload_n F dX2_splitOff_32 rfl 1 rfl ?_
  have hw_7 := wf_ref F.2.2.2.2.2.2.1 hq 12 6 (.inr (0, 6)) rfl
  refine s_getr F ciX2 12 6 (.inr (0, 6)) hq (by decide) rfl rfl m114 dX2_splitOff_33 ?_
  refine s_iload_n F dX2_splitOff_36 rfl 2 rfl ?_
  refine s_iald F hw_7 dX2_splitOff_37 ?_
  refine s_iast F hw_6 dX2_splitOff_38 ?_
  refine s_letH (fun h_8 => ?_)
  refine s_iconst F (v := 0) dX2_splitOff_39 (by decide) ?_
  refine s_istore F (lv' := [(4, .int 0), (3, .int v_1), (0, .ref (gad g q)), (1, .int x1), (2, .int x2)]) dX2_splitOff_40 (by decide) rfl ?_
  exact s_sub [2, 3, 4, 1, 0] rfl (t_X2_splitOff_42 F hq fu x1 x2 v_1 0 h_8)
end
