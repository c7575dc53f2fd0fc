-- ===== PART A: goes FIRST, ahead of the names: the tables' words, and 'selects' of the private methods out of them =====
/-- a private method of a class that the tables say can be made, by its rows of tables_1 -/
def lw_okq (q : MethodName × Nat) : Prop := (q.1.cls ≠ "java/lang/invoke/MethodHandle" ∧ q.1.cls ≠ "java/lang/invoke/VarHandle") ∧ Cond.instantiable q.1.cls q.2 ∈ tables_1 ∧ Cond.privateMethod q.1 ∈ tables_1 ∧ Cond.instanceMethod q.1 ∈ tables_1
theorem lw_p0 : lw_okq (⟨"UntilHeConfesses$Reader", "startAnew", "()V"⟩, 16) := ⟨⟨by decide +kernel, by decide +kernel⟩, List.mem_of_getElem? (i := 237) (by decide +kernel), List.mem_of_getElem? (i := 485) (by decide +kernel), List.mem_of_getElem? (i := 486) (by decide +kernel)⟩
theorem lw_p1 : lw_okq (⟨"UntilHeConfesses$Tape", "goesOn", "(I)Z"⟩, 7) := ⟨⟨by decide +kernel, by decide +kernel⟩, List.mem_of_getElem? (i := 204) (by decide +kernel), List.mem_of_getElem? (i := 493) (by decide +kernel), List.mem_of_getElem? (i := 494) (by decide +kernel)⟩
theorem lw_p2 : lw_okq (⟨"UntilHeConfesses$Tape", "startToken", "(I)V"⟩, 7) := ⟨⟨by decide +kernel, by decide +kernel⟩, List.mem_of_getElem? (i := 204) (by decide +kernel), List.mem_of_getElem? (i := 506) (by decide +kernel), List.mem_of_getElem? (i := 507) (by decide +kernel)⟩
theorem lw_p3 : lw_okq (⟨"UntilHeConfesses$Tape", "nameToken", "(I)V"⟩, 7) := ⟨⟨by decide +kernel, by decide +kernel⟩, List.mem_of_getElem? (i := 204) (by decide +kernel), List.mem_of_getElem? (i := 510) (by decide +kernel), List.mem_of_getElem? (i := 511) (by decide +kernel)⟩
theorem lw_p4 : lw_okq (⟨"UntilHeConfesses$Tape", "numberAt", "(II)I"⟩, 7) := ⟨⟨by decide +kernel, by decide +kernel⟩, List.mem_of_getElem? (i := 204) (by decide +kernel), List.mem_of_getElem? (i := 514) (by decide +kernel), List.mem_of_getElem? (i := 515) (by decide +kernel)⟩
theorem lw_p5 : lw_okq (⟨"UntilHeConfesses$Tape", "wordKind", "(II)I"⟩, 7) := ⟨⟨by decide +kernel, by decide +kernel⟩, List.mem_of_getElem? (i := 204) (by decide +kernel), List.mem_of_getElem? (i := 521) (by decide +kernel), List.mem_of_getElem? (i := 522) (by decide +kernel)⟩
theorem lw_p6 : lw_okq (⟨"UntilHeConfesses$Tape", "isWord", "(Ljava/lang/String;II)Z"⟩, 7) := ⟨⟨by decide +kernel, by decide +kernel⟩, List.mem_of_getElem? (i := 204) (by decide +kernel), List.mem_of_getElem? (i := 552) (by decide +kernel), List.mem_of_getElem? (i := 553) (by decide +kernel)⟩
theorem lw_p7 : lw_okq (⟨"UntilHeConfesses$Reader", "goOn", "()V"⟩, 16) := ⟨⟨by decide +kernel, by decide +kernel⟩, List.mem_of_getElem? (i := 237) (by decide +kernel), List.mem_of_getElem? (i := 607) (by decide +kernel), List.mem_of_getElem? (i := 608) (by decide +kernel)⟩
theorem lw_p8 : lw_okq (⟨"UntilHeConfesses$Reader", "readClause", "()V"⟩, 16) := ⟨⟨by decide +kernel, by decide +kernel⟩, List.mem_of_getElem? (i := 237) (by decide +kernel), List.mem_of_getElem? (i := 611) (by decide +kernel), List.mem_of_getElem? (i := 612) (by decide +kernel)⟩
theorem lw_p9 : lw_okq (⟨"UntilHeConfesses$Reader", "fail", "(I)V"⟩, 16) := ⟨⟨by decide +kernel, by decide +kernel⟩, List.mem_of_getElem? (i := 237) (by decide +kernel), List.mem_of_getElem? (i := 615) (by decide +kernel), List.mem_of_getElem? (i := 616) (by decide +kernel)⟩
theorem lw_p10 : lw_okq (⟨"UntilHeConfesses$Reader", "readSum", "(I)V"⟩, 16) := ⟨⟨by decide +kernel, by decide +kernel⟩, List.mem_of_getElem? (i := 237) (by decide +kernel), List.mem_of_getElem? (i := 619) (by decide +kernel), List.mem_of_getElem? (i := 620) (by decide +kernel)⟩
theorem lw_p11 : lw_okq (⟨"UntilHeConfesses$Reader", "readOne", "(I)V"⟩, 16) := ⟨⟨by decide +kernel, by decide +kernel⟩, List.mem_of_getElem? (i := 237) (by decide +kernel), List.mem_of_getElem? (i := 623) (by decide +kernel), List.mem_of_getElem? (i := 624) (by decide +kernel)⟩
theorem lw_p12 : lw_okq (⟨"UntilHeConfesses$Reader", "readNumber", "(II)I"⟩, 16) := ⟨⟨by decide +kernel, by decide +kernel⟩, List.mem_of_getElem? (i := 237) (by decide +kernel), List.mem_of_getElem? (i := 627) (by decide +kernel), List.mem_of_getElem? (i := 628) (by decide +kernel)⟩
theorem lw_p13 : lw_okq (⟨"UntilHeConfesses$Reader", "put", "(II)V"⟩, 16) := ⟨⟨by decide +kernel, by decide +kernel⟩, List.mem_of_getElem? (i := 237) (by decide +kernel), List.mem_of_getElem? (i := 631) (by decide +kernel), List.mem_of_getElem? (i := 632) (by decide +kernel)⟩
theorem lw_p14 : lw_okq (⟨"UntilHeConfesses$Reader", "readName", "(I)V"⟩, 16) := ⟨⟨by decide +kernel, by decide +kernel⟩, List.mem_of_getElem? (i := 237) (by decide +kernel), List.mem_of_getElem? (i := 635) (by decide +kernel), List.mem_of_getElem? (i := 636) (by decide +kernel)⟩
theorem lw_p15 : lw_okq (⟨"UntilHeConfesses$Reader", "readTotal", "(I)V"⟩, 16) := ⟨⟨by decide +kernel, by decide +kernel⟩, List.mem_of_getElem? (i := 237) (by decide +kernel), List.mem_of_getElem? (i := 639) (by decide +kernel), List.mem_of_getElem? (i := 640) (by decide +kernel)⟩
def lw_privs_1 : List (MethodName × Nat) := [(⟨"UntilHeConfesses$Reader", "startAnew", "()V"⟩, 16), (⟨"UntilHeConfesses$Tape", "goesOn", "(I)Z"⟩, 7), (⟨"UntilHeConfesses$Tape", "startToken", "(I)V"⟩, 7), (⟨"UntilHeConfesses$Tape", "nameToken", "(I)V"⟩, 7), (⟨"UntilHeConfesses$Tape", "numberAt", "(II)I"⟩, 7), (⟨"UntilHeConfesses$Tape", "wordKind", "(II)I"⟩, 7), (⟨"UntilHeConfesses$Tape", "isWord", "(Ljava/lang/String;II)Z"⟩, 7), (⟨"UntilHeConfesses$Reader", "goOn", "()V"⟩, 16), (⟨"UntilHeConfesses$Reader", "readClause", "()V"⟩, 16), (⟨"UntilHeConfesses$Reader", "fail", "(I)V"⟩, 16), (⟨"UntilHeConfesses$Reader", "readSum", "(I)V"⟩, 16), (⟨"UntilHeConfesses$Reader", "readOne", "(I)V"⟩, 16), (⟨"UntilHeConfesses$Reader", "readNumber", "(II)I"⟩, 16), (⟨"UntilHeConfesses$Reader", "put", "(II)V"⟩, 16), (⟨"UntilHeConfesses$Reader", "readName", "(I)V"⟩, 16), (⟨"UntilHeConfesses$Reader", "readTotal", "(I)V"⟩, 16)]
theorem lw_r1 : ∀ q ∈ lw_privs_1, lw_okq q := List.forall_mem_cons.mpr ⟨lw_p0, List.forall_mem_cons.mpr ⟨lw_p1, List.forall_mem_cons.mpr ⟨lw_p2, List.forall_mem_cons.mpr ⟨lw_p3, List.forall_mem_cons.mpr ⟨lw_p4, List.forall_mem_cons.mpr ⟨lw_p5, List.forall_mem_cons.mpr ⟨lw_p6, List.forall_mem_cons.mpr ⟨lw_p7, List.forall_mem_cons.mpr ⟨lw_p8, List.forall_mem_cons.mpr ⟨lw_p9, List.forall_mem_cons.mpr ⟨lw_p10, List.forall_mem_cons.mpr ⟨lw_p11, List.forall_mem_cons.mpr ⟨lw_p12, List.forall_mem_cons.mpr ⟨lw_p13, List.forall_mem_cons.mpr ⟨lw_p14, List.forall_mem_cons.mpr ⟨lw_p15, fun _ h => absurd h List.not_mem_nil⟩⟩⟩⟩⟩⟩⟩⟩⟩⟩⟩⟩⟩⟩⟩⟩
theorem lw_p16 : lw_okq (⟨"UntilHeConfesses$Reader", "pass", "(I)V"⟩, 16) := ⟨⟨by decide +kernel, by decide +kernel⟩, List.mem_of_getElem? (i := 237) (by decide +kernel), List.mem_of_getElem? (i := 643) (by decide +kernel), List.mem_of_getElem? (i := 644) (by decide +kernel)⟩
theorem lw_p17 : lw_okq (⟨"UntilHeConfesses$Reader", "readDeed", "(I)V"⟩, 16) := ⟨⟨by decide +kernel, by decide +kernel⟩, List.mem_of_getElem? (i := 237) (by decide +kernel), List.mem_of_getElem? (i := 647) (by decide +kernel), List.mem_of_getElem? (i := 648) (by decide +kernel)⟩
theorem lw_p18 : lw_okq (⟨"UntilHeConfesses$Reader", "readTwo", "(IIII)V"⟩, 16) := ⟨⟨by decide +kernel, by decide +kernel⟩, List.mem_of_getElem? (i := 237) (by decide +kernel), List.mem_of_getElem? (i := 651) (by decide +kernel), List.mem_of_getElem? (i := 652) (by decide +kernel)⟩
theorem lw_p19 : lw_okq (⟨"UntilHeConfesses$Reader", "makeText", "()LUntilHeConfesses$Text;"⟩, 16) := ⟨⟨by decide +kernel, by decide +kernel⟩, List.mem_of_getElem? (i := 237) (by decide +kernel), List.mem_of_getElem? (i := 655) (by decide +kernel), List.mem_of_getElem? (i := 656) (by decide +kernel)⟩
theorem lw_p20 : lw_okq (⟨"UntilHeConfesses$House", "latestStep", "()I"⟩, 8) := ⟨⟨by decide +kernel, by decide +kernel⟩, List.mem_of_getElem? (i := 28) (by decide +kernel), List.mem_of_getElem? (i := 737) (by decide +kernel), List.mem_of_getElem? (i := 738) (by decide +kernel)⟩
theorem lw_p21 : lw_okq (⟨"UntilHeConfesses$Play", "giveNight", "()I"⟩, 6) := ⟨⟨by decide +kernel, by decide +kernel⟩, List.mem_of_getElem? (i := 310) (by decide +kernel), List.mem_of_getElem? (i := 812) (by decide +kernel), List.mem_of_getElem? (i := 813) (by decide +kernel)⟩
theorem lw_p22 : lw_okq (⟨"UntilHeConfesses$Play", "giveScene", "(II)I"⟩, 6) := ⟨⟨by decide +kernel, by decide +kernel⟩, List.mem_of_getElem? (i := 310) (by decide +kernel), List.mem_of_getElem? (i := 820) (by decide +kernel), List.mem_of_getElem? (i := 821) (by decide +kernel)⟩
theorem lw_p23 : lw_okq (⟨"UntilHeConfesses$Laws", "nameSuspect", "(I)V"⟩, 3) := ⟨⟨by decide +kernel, by decide +kernel⟩, List.mem_of_getElem? (i := 294) (by decide +kernel), List.mem_of_getElem? (i := 850) (by decide +kernel), List.mem_of_getElem? (i := 851) (by decide +kernel)⟩
theorem lw_p24 : lw_okq (⟨"UntilHeConfesses$Laws", "run", "(LUntilHeConfesses$Text;I)I"⟩, 3) := ⟨⟨by decide +kernel, by decide +kernel⟩, List.mem_of_getElem? (i := 294) (by decide +kernel), List.mem_of_getElem? (i := 854) (by decide +kernel), List.mem_of_getElem? (i := 855) (by decide +kernel)⟩
theorem lw_p25 : lw_okq (⟨"UntilHeConfesses$Play", "drawScene", "(II)V"⟩, 6) := ⟨⟨by decide +kernel, by decide +kernel⟩, List.mem_of_getElem? (i := 310) (by decide +kernel), List.mem_of_getElem? (i := 920) (by decide +kernel), List.mem_of_getElem? (i := 921) (by decide +kernel)⟩
theorem lw_p26 : lw_okq (⟨"UntilHeConfesses$Play", "drawSuspect", "(II)V"⟩, 6) := ⟨⟨by decide +kernel, by decide +kernel⟩, List.mem_of_getElem? (i := 310) (by decide +kernel), List.mem_of_getElem? (i := 924) (by decide +kernel), List.mem_of_getElem? (i := 925) (by decide +kernel)⟩
theorem lw_p27 : lw_okq (⟨"UntilHeConfesses$Stage", "signAt", "(I)I"⟩, 18) := ⟨⟨by decide +kernel, by decide +kernel⟩, List.mem_of_getElem? (i := 34) (by decide +kernel), List.mem_of_getElem? (i := 967) (by decide +kernel), List.mem_of_getElem? (i := 968) (by decide +kernel)⟩
theorem lw_p28 : lw_okq (⟨"UntilHeConfesses$Belief", "weightIf", "(I)J"⟩, 4) := ⟨⟨by decide +kernel, by decide +kernel⟩, List.mem_of_getElem? (i := 335) (by decide +kernel), List.mem_of_getElem? (i := 1014) (by decide +kernel), List.mem_of_getElem? (i := 1015) (by decide +kernel)⟩
theorem lw_p29 : lw_okq (⟨"UntilHeConfesses$Play", "rehearse", "(I)I"⟩, 6) := ⟨⟨by decide +kernel, by decide +kernel⟩, List.mem_of_getElem? (i := 310) (by decide +kernel), List.mem_of_getElem? (i := 1071) (by decide +kernel), List.mem_of_getElem? (i := 1072) (by decide +kernel)⟩
theorem lw_p30 : lw_okq (⟨"UntilHeConfesses$Plans", "shownInOrder", "(I)I"⟩, 8) := ⟨⟨by decide +kernel, by decide +kernel⟩, List.mem_of_getElem? (i := 354) (by decide +kernel), List.mem_of_getElem? (i := 1114) (by decide +kernel), List.mem_of_getElem? (i := 1115) (by decide +kernel)⟩
theorem lw_p31 : lw_okq (⟨"UntilHeConfesses$Plans", "costOf", "(IIII)J"⟩, 8) := ⟨⟨by decide +kernel, by decide +kernel⟩, List.mem_of_getElem? (i := 354) (by decide +kernel), List.mem_of_getElem? (i := 1152) (by decide +kernel), List.mem_of_getElem? (i := 1153) (by decide +kernel)⟩
def lw_privs_2 : List (MethodName × Nat) := [(⟨"UntilHeConfesses$Reader", "pass", "(I)V"⟩, 16), (⟨"UntilHeConfesses$Reader", "readDeed", "(I)V"⟩, 16), (⟨"UntilHeConfesses$Reader", "readTwo", "(IIII)V"⟩, 16), (⟨"UntilHeConfesses$Reader", "makeText", "()LUntilHeConfesses$Text;"⟩, 16), (⟨"UntilHeConfesses$House", "latestStep", "()I"⟩, 8), (⟨"UntilHeConfesses$Play", "giveNight", "()I"⟩, 6), (⟨"UntilHeConfesses$Play", "giveScene", "(II)I"⟩, 6), (⟨"UntilHeConfesses$Laws", "nameSuspect", "(I)V"⟩, 3), (⟨"UntilHeConfesses$Laws", "run", "(LUntilHeConfesses$Text;I)I"⟩, 3), (⟨"UntilHeConfesses$Play", "drawScene", "(II)V"⟩, 6), (⟨"UntilHeConfesses$Play", "drawSuspect", "(II)V"⟩, 6), (⟨"UntilHeConfesses$Stage", "signAt", "(I)I"⟩, 18), (⟨"UntilHeConfesses$Belief", "weightIf", "(I)J"⟩, 4), (⟨"UntilHeConfesses$Play", "rehearse", "(I)I"⟩, 6), (⟨"UntilHeConfesses$Plans", "shownInOrder", "(I)I"⟩, 8), (⟨"UntilHeConfesses$Plans", "costOf", "(IIII)J"⟩, 8)]
theorem lw_r2 : ∀ q ∈ lw_privs_2, lw_okq q := List.forall_mem_cons.mpr ⟨lw_p16, List.forall_mem_cons.mpr ⟨lw_p17, List.forall_mem_cons.mpr ⟨lw_p18, List.forall_mem_cons.mpr ⟨lw_p19, List.forall_mem_cons.mpr ⟨lw_p20, List.forall_mem_cons.mpr ⟨lw_p21, List.forall_mem_cons.mpr ⟨lw_p22, List.forall_mem_cons.mpr ⟨lw_p23, List.forall_mem_cons.mpr ⟨lw_p24, List.forall_mem_cons.mpr ⟨lw_p25, List.forall_mem_cons.mpr ⟨lw_p26, List.forall_mem_cons.mpr ⟨lw_p27, List.forall_mem_cons.mpr ⟨lw_p28, List.forall_mem_cons.mpr ⟨lw_p29, List.forall_mem_cons.mpr ⟨lw_p30, List.forall_mem_cons.mpr ⟨lw_p31, fun _ h => absurd h List.not_mem_nil⟩⟩⟩⟩⟩⟩⟩⟩⟩⟩⟩⟩⟩⟩⟩⟩
theorem lw_p32 : lw_okq (⟨"UntilHeConfesses$Witnesses", "pairsOn", "([I)I"⟩, 7) := ⟨⟨by decide +kernel, by decide +kernel⟩, List.mem_of_getElem? (i := 385) (by decide +kernel), List.mem_of_getElem? (i := 1209) (by decide +kernel), List.mem_of_getElem? (i := 1210) (by decide +kernel)⟩
theorem lw_p33 : lw_okq (⟨"UntilHeConfesses$Witnesses", "sortPlaces", "(I)V"⟩, 7) := ⟨⟨by decide +kernel, by decide +kernel⟩, List.mem_of_getElem? (i := 385) (by decide +kernel), List.mem_of_getElem? (i := 1226) (by decide +kernel), List.mem_of_getElem? (i := 1227) (by decide +kernel)⟩
theorem lw_p34 : lw_okq (⟨"UntilHeConfesses$Witnesses", "facedFrom", "(II)I"⟩, 7) := ⟨⟨by decide +kernel, by decide +kernel⟩, List.mem_of_getElem? (i := 385) (by decide +kernel), List.mem_of_getElem? (i := 1245) (by decide +kernel), List.mem_of_getElem? (i := 1246) (by decide +kernel)⟩
theorem lw_p35 : lw_okq (⟨"UntilHeConfesses$Witnesses", "fitsTorn", "()Z"⟩, 7) := ⟨⟨by decide +kernel, by decide +kernel⟩, List.mem_of_getElem? (i := 385) (by decide +kernel), List.mem_of_getElem? (i := 1276) (by decide +kernel), List.mem_of_getElem? (i := 1277) (by decide +kernel)⟩
theorem lw_p36 : lw_okq (⟨"UntilHeConfesses$Witnesses", "sameAsKept", "(I)I"⟩, 7) := ⟨⟨by decide +kernel, by decide +kernel⟩, List.mem_of_getElem? (i := 385) (by decide +kernel), List.mem_of_getElem? (i := 1283) (by decide +kernel), List.mem_of_getElem? (i := 1284) (by decide +kernel)⟩
theorem lw_p37 : lw_okq (⟨"UntilHeConfesses$Belief", "fits", "(LUntilHeConfesses$Text;)Z"⟩, 4) := ⟨⟨by decide +kernel, by decide +kernel⟩, List.mem_of_getElem? (i := 335) (by decide +kernel), List.mem_of_getElem? (i := 1308) (by decide +kernel), List.mem_of_getElem? (i := 1309) (by decide +kernel)⟩
theorem lw_p38 : lw_okq (⟨"UntilHeConfesses$Stage", "isTaken", "(I)Z"⟩, 18) := ⟨⟨by decide +kernel, by decide +kernel⟩, List.mem_of_getElem? (i := 34) (by decide +kernel), List.mem_of_getElem? (i := 1340) (by decide +kernel), List.mem_of_getElem? (i := 1341) (by decide +kernel)⟩
theorem lw_p39 : lw_okq (⟨"UntilHeConfessesModel", "isFree", "(I)Z"⟩, 32) := ⟨⟨by decide +kernel, by decide +kernel⟩, List.mem_of_getElem? (i := 1397) (by decide +kernel), List.mem_of_getElem? (i := 1511) (by decide +kernel), List.mem_of_getElem? (i := 1512) (by decide +kernel)⟩
theorem lw_p40 : lw_okq (⟨"UntilHeConfessesModel", "get", "(II)I"⟩, 32) := ⟨⟨by decide +kernel, by decide +kernel⟩, List.mem_of_getElem? (i := 1397) (by decide +kernel), List.mem_of_getElem? (i := 1515) (by decide +kernel), List.mem_of_getElem? (i := 1516) (by decide +kernel)⟩
theorem lw_p41 : lw_okq (⟨"UntilHeConfessesModel", "put", "(III)V"⟩, 32) := ⟨⟨by decide +kernel, by decide +kernel⟩, List.mem_of_getElem? (i := 1397) (by decide +kernel), List.mem_of_getElem? (i := 1519) (by decide +kernel), List.mem_of_getElem? (i := 1520) (by decide +kernel)⟩
theorem lw_p42 : lw_okq (⟨"UntilHeConfessesModel", "lay", "(III)V"⟩, 32) := ⟨⟨by decide +kernel, by decide +kernel⟩, List.mem_of_getElem? (i := 1397) (by decide +kernel), List.mem_of_getElem? (i := 1527) (by decide +kernel), List.mem_of_getElem? (i := 1528) (by decide +kernel)⟩
theorem lw_p43 : lw_okq (⟨"UntilHeConfessesModel", "four", "(I)V"⟩, 32) := ⟨⟨by decide +kernel, by decide +kernel⟩, List.mem_of_getElem? (i := 1397) (by decide +kernel), List.mem_of_getElem? (i := 1535) (by decide +kernel), List.mem_of_getElem? (i := 1536) (by decide +kernel)⟩
theorem lw_p44 : lw_okq (⟨"UntilHeConfessesModel", "readText", "()I"⟩, 32) := ⟨⟨by decide +kernel, by decide +kernel⟩, List.mem_of_getElem? (i := 1397) (by decide +kernel), List.mem_of_getElem? (i := 1547) (by decide +kernel), List.mem_of_getElem? (i := 1548) (by decide +kernel)⟩
theorem lw_p45 : lw_okq (⟨"UntilHeConfessesModel", "nextToken", "()V"⟩, 32) := ⟨⟨by decide +kernel, by decide +kernel⟩, List.mem_of_getElem? (i := 1397) (by decide +kernel), List.mem_of_getElem? (i := 1551) (by decide +kernel), List.mem_of_getElem? (i := 1552) (by decide +kernel)⟩
theorem lw_p46 : lw_okq (⟨"UntilHeConfessesModel", "byteAt", "(I)I"⟩, 32) := ⟨⟨by decide +kernel, by decide +kernel⟩, List.mem_of_getElem? (i := 1397) (by decide +kernel), List.mem_of_getElem? (i := 1555) (by decide +kernel), List.mem_of_getElem? (i := 1556) (by decide +kernel)⟩
theorem lw_p47 : lw_okq (⟨"UntilHeConfessesModel", "clause", "()I"⟩, 32) := ⟨⟨by decide +kernel, by decide +kernel⟩, List.mem_of_getElem? (i := 1397) (by decide +kernel), List.mem_of_getElem? (i := 1570) (by decide +kernel), List.mem_of_getElem? (i := 1571) (by decide +kernel)⟩
def lw_privs_3 : List (MethodName × Nat) := [(⟨"UntilHeConfesses$Witnesses", "pairsOn", "([I)I"⟩, 7), (⟨"UntilHeConfesses$Witnesses", "sortPlaces", "(I)V"⟩, 7), (⟨"UntilHeConfesses$Witnesses", "facedFrom", "(II)I"⟩, 7), (⟨"UntilHeConfesses$Witnesses", "fitsTorn", "()Z"⟩, 7), (⟨"UntilHeConfesses$Witnesses", "sameAsKept", "(I)I"⟩, 7), (⟨"UntilHeConfesses$Belief", "fits", "(LUntilHeConfesses$Text;)Z"⟩, 4), (⟨"UntilHeConfesses$Stage", "isTaken", "(I)Z"⟩, 18), (⟨"UntilHeConfessesModel", "isFree", "(I)Z"⟩, 32), (⟨"UntilHeConfessesModel", "get", "(II)I"⟩, 32), (⟨"UntilHeConfessesModel", "put", "(III)V"⟩, 32), (⟨"UntilHeConfessesModel", "lay", "(III)V"⟩, 32), (⟨"UntilHeConfessesModel", "four", "(I)V"⟩, 32), (⟨"UntilHeConfessesModel", "readText", "()I"⟩, 32), (⟨"UntilHeConfessesModel", "nextToken", "()V"⟩, 32), (⟨"UntilHeConfessesModel", "byteAt", "(I)I"⟩, 32), (⟨"UntilHeConfessesModel", "clause", "()I"⟩, 32)]
theorem lw_r3 : ∀ q ∈ lw_privs_3, lw_okq q := List.forall_mem_cons.mpr ⟨lw_p32, List.forall_mem_cons.mpr ⟨lw_p33, List.forall_mem_cons.mpr ⟨lw_p34, List.forall_mem_cons.mpr ⟨lw_p35, List.forall_mem_cons.mpr ⟨lw_p36, List.forall_mem_cons.mpr ⟨lw_p37, List.forall_mem_cons.mpr ⟨lw_p38, List.forall_mem_cons.mpr ⟨lw_p39, List.forall_mem_cons.mpr ⟨lw_p40, List.forall_mem_cons.mpr ⟨lw_p41, List.forall_mem_cons.mpr ⟨lw_p42, List.forall_mem_cons.mpr ⟨lw_p43, List.forall_mem_cons.mpr ⟨lw_p44, List.forall_mem_cons.mpr ⟨lw_p45, List.forall_mem_cons.mpr ⟨lw_p46, List.forall_mem_cons.mpr ⟨lw_p47, fun _ h => absurd h List.not_mem_nil⟩⟩⟩⟩⟩⟩⟩⟩⟩⟩⟩⟩⟩⟩⟩⟩
theorem lw_p48 : lw_okq (⟨"UntilHeConfessesModel", "sortOf", "()I"⟩, 32) := ⟨⟨by decide +kernel, by decide +kernel⟩, List.mem_of_getElem? (i := 1397) (by decide +kernel), List.mem_of_getElem? (i := 1574) (by decide +kernel), List.mem_of_getElem? (i := 1575) (by decide +kernel)⟩
theorem lw_p49 : lw_okq (⟨"UntilHeConfessesModel", "isWord", "(J)Z"⟩, 32) := ⟨⟨by decide +kernel, by decide +kernel⟩, List.mem_of_getElem? (i := 1397) (by decide +kernel), List.mem_of_getElem? (i := 1590) (by decide +kernel), List.mem_of_getElem? (i := 1591) (by decide +kernel)⟩
theorem lw_p50 : lw_okq (⟨"UntilHeConfessesModel", "isLong", "(JJI)Z"⟩, 32) := ⟨⟨by decide +kernel, by decide +kernel⟩, List.mem_of_getElem? (i := 1397) (by decide +kernel), List.mem_of_getElem? (i := 1594) (by decide +kernel), List.mem_of_getElem? (i := 1595) (by decide +kernel)⟩
theorem lw_p51 : lw_okq (⟨"UntilHeConfessesModel", "body", "(II)I"⟩, 32) := ⟨⟨by decide +kernel, by decide +kernel⟩, List.mem_of_getElem? (i := 1397) (by decide +kernel), List.mem_of_getElem? (i := 1604) (by decide +kernel), List.mem_of_getElem? (i := 1605) (by decide +kernel)⟩
theorem lw_p52 : lw_okq (⟨"UntilHeConfessesModel", "pair", "(IIJII)I"⟩, 32) := ⟨⟨by decide +kernel, by decide +kernel⟩, List.mem_of_getElem? (i := 1397) (by decide +kernel), List.mem_of_getElem? (i := 1608) (by decide +kernel), List.mem_of_getElem? (i := 1609) (by decide +kernel)⟩
theorem lw_p53 : lw_okq (⟨"UntilHeConfessesModel", "figure", "(III)I"⟩, 32) := ⟨⟨by decide +kernel, by decide +kernel⟩, List.mem_of_getElem? (i := 1397) (by decide +kernel), List.mem_of_getElem? (i := 1612) (by decide +kernel), List.mem_of_getElem? (i := 1613) (by decide +kernel)⟩
theorem lw_p54 : lw_okq (⟨"UntilHeConfessesModel", "lawClause", "(I)I"⟩, 32) := ⟨⟨by decide +kernel, by decide +kernel⟩, List.mem_of_getElem? (i := 1397) (by decide +kernel), List.mem_of_getElem? (i := 1616) (by decide +kernel), List.mem_of_getElem? (i := 1617) (by decide +kernel)⟩
theorem lw_p55 : lw_okq (⟨"UntilHeConfessesModel", "summed", "()I"⟩, 32) := ⟨⟨by decide +kernel, by decide +kernel⟩, List.mem_of_getElem? (i := 1397) (by decide +kernel), List.mem_of_getElem? (i := 1620) (by decide +kernel), List.mem_of_getElem? (i := 1621) (by decide +kernel)⟩
theorem lw_p56 : lw_okq (⟨"UntilHeConfessesModel", "behindOne", "()Z"⟩, 32) := ⟨⟨by decide +kernel, by decide +kernel⟩, List.mem_of_getElem? (i := 1397) (by decide +kernel), List.mem_of_getElem? (i := 1624) (by decide +kernel), List.mem_of_getElem? (i := 1625) (by decide +kernel)⟩
theorem lw_p57 : lw_okq (⟨"UntilHeConfessesModel", "settle", "(I)V"⟩, 32) := ⟨⟨by decide +kernel, by decide +kernel⟩, List.mem_of_getElem? (i := 1397) (by decide +kernel), List.mem_of_getElem? (i := 1631) (by decide +kernel), List.mem_of_getElem? (i := 1632) (by decide +kernel)⟩
theorem lw_p58 : lw_okq (⟨"UntilHeConfessesModel", "emit", "(II)V"⟩, 32) := ⟨⟨by decide +kernel, by decide +kernel⟩, List.mem_of_getElem? (i := 1397) (by decide +kernel), List.mem_of_getElem? (i := 1635) (by decide +kernel), List.mem_of_getElem? (i := 1636) (by decide +kernel)⟩
theorem lw_p59 : lw_okq (⟨"UntilHeConfessesModel", "isOpen", "()Z"⟩, 32) := ⟨⟨by decide +kernel, by decide +kernel⟩, List.mem_of_getElem? (i := 1397) (by decide +kernel), List.mem_of_getElem? (i := 1639) (by decide +kernel), List.mem_of_getElem? (i := 1640) (by decide +kernel)⟩
theorem lw_p60 : lw_okq (⟨"UntilHeConfessesModel", "beginOne", "()I"⟩, 32) := ⟨⟨by decide +kernel, by decide +kernel⟩, List.mem_of_getElem? (i := 1397) (by decide +kernel), List.mem_of_getElem? (i := 1643) (by decide +kernel), List.mem_of_getElem? (i := 1644) (by decide +kernel)⟩
theorem lw_p61 : lw_okq (⟨"UntilHeConfessesModel", "nameOf", "()I"⟩, 32) := ⟨⟨by decide +kernel, by decide +kernel⟩, List.mem_of_getElem? (i := 1397) (by decide +kernel), List.mem_of_getElem? (i := 1647) (by decide +kernel), List.mem_of_getElem? (i := 1648) (by decide +kernel)⟩
theorem lw_p62 : lw_okq (⟨"UntilHeConfessesModel", "isOf", "(I)Z"⟩, 32) := ⟨⟨by decide +kernel, by decide +kernel⟩, List.mem_of_getElem? (i := 1397) (by decide +kernel), List.mem_of_getElem? (i := 1652) (by decide +kernel), List.mem_of_getElem? (i := 1653) (by decide +kernel)⟩
theorem lw_p63 : lw_okq (⟨"UntilHeConfessesModel", "isTotalling", "()Z"⟩, 32) := ⟨⟨by decide +kernel, by decide +kernel⟩, List.mem_of_getElem? (i := 1397) (by decide +kernel), List.mem_of_getElem? (i := 1656) (by decide +kernel), List.mem_of_getElem? (i := 1657) (by decide +kernel)⟩
def lw_privs_4 : List (MethodName × Nat) := [(⟨"UntilHeConfessesModel", "sortOf", "()I"⟩, 32), (⟨"UntilHeConfessesModel", "isWord", "(J)Z"⟩, 32), (⟨"UntilHeConfessesModel", "isLong", "(JJI)Z"⟩, 32), (⟨"UntilHeConfessesModel", "body", "(II)I"⟩, 32), (⟨"UntilHeConfessesModel", "pair", "(IIJII)I"⟩, 32), (⟨"UntilHeConfessesModel", "figure", "(III)I"⟩, 32), (⟨"UntilHeConfessesModel", "lawClause", "(I)I"⟩, 32), (⟨"UntilHeConfessesModel", "summed", "()I"⟩, 32), (⟨"UntilHeConfessesModel", "behindOne", "()Z"⟩, 32), (⟨"UntilHeConfessesModel", "settle", "(I)V"⟩, 32), (⟨"UntilHeConfessesModel", "emit", "(II)V"⟩, 32), (⟨"UntilHeConfessesModel", "isOpen", "()Z"⟩, 32), (⟨"UntilHeConfessesModel", "beginOne", "()I"⟩, 32), (⟨"UntilHeConfessesModel", "nameOf", "()I"⟩, 32), (⟨"UntilHeConfessesModel", "isOf", "(I)Z"⟩, 32), (⟨"UntilHeConfessesModel", "isTotalling", "()Z"⟩, 32)]
theorem lw_r4 : ∀ q ∈ lw_privs_4, lw_okq q := List.forall_mem_cons.mpr ⟨lw_p48, List.forall_mem_cons.mpr ⟨lw_p49, List.forall_mem_cons.mpr ⟨lw_p50, List.forall_mem_cons.mpr ⟨lw_p51, List.forall_mem_cons.mpr ⟨lw_p52, List.forall_mem_cons.mpr ⟨lw_p53, List.forall_mem_cons.mpr ⟨lw_p54, List.forall_mem_cons.mpr ⟨lw_p55, List.forall_mem_cons.mpr ⟨lw_p56, List.forall_mem_cons.mpr ⟨lw_p57, List.forall_mem_cons.mpr ⟨lw_p58, List.forall_mem_cons.mpr ⟨lw_p59, List.forall_mem_cons.mpr ⟨lw_p60, List.forall_mem_cons.mpr ⟨lw_p61, List.forall_mem_cons.mpr ⟨lw_p62, List.forall_mem_cons.mpr ⟨lw_p63, fun _ h => absurd h List.not_mem_nil⟩⟩⟩⟩⟩⟩⟩⟩⟩⟩⟩⟩⟩⟩⟩⟩
theorem lw_p64 : lw_okq (⟨"UntilHeConfessesModel", "opened", "(I)I"⟩, 32) := ⟨⟨by decide +kernel, by decide +kernel⟩, List.mem_of_getElem? (i := 1397) (by decide +kernel), List.mem_of_getElem? (i := 1660) (by decide +kernel), List.mem_of_getElem? (i := 1661) (by decide +kernel)⟩
theorem lw_p65 : lw_okq (⟨"UntilHeConfessesModel", "isScene", "(I)Z"⟩, 32) := ⟨⟨by decide +kernel, by decide +kernel⟩, List.mem_of_getElem? (i := 1397) (by decide +kernel), List.mem_of_getElem? (i := 1680) (by decide +kernel), List.mem_of_getElem? (i := 1681) (by decide +kernel)⟩
theorem lw_p66 : lw_okq (⟨"UntilHeConfessesModel", "keep", "()V"⟩, 32) := ⟨⟨by decide +kernel, by decide +kernel⟩, List.mem_of_getElem? (i := 1397) (by decide +kernel), List.mem_of_getElem? (i := 1684) (by decide +kernel), List.mem_of_getElem? (i := 1685) (by decide +kernel)⟩
theorem lw_p67 : lw_okq (⟨"UntilHeConfessesModel", "of", "(II)I"⟩, 32) := ⟨⟨by decide +kernel, by decide +kernel⟩, List.mem_of_getElem? (i := 1397) (by decide +kernel), List.mem_of_getElem? (i := 1688) (by decide +kernel), List.mem_of_getElem? (i := 1689) (by decide +kernel)⟩
theorem lw_p68 : lw_okq (⟨"UntilHeConfessesModel", "given", "()I"⟩, 32) := ⟨⟨by decide +kernel, by decide +kernel⟩, List.mem_of_getElem? (i := 1397) (by decide +kernel), List.mem_of_getElem? (i := 1692) (by decide +kernel), List.mem_of_getElem? (i := 1693) (by decide +kernel)⟩
theorem lw_p69 : lw_okq (⟨"UntilHeConfessesModel", "canEncore", "(I)Z"⟩, 32) := ⟨⟨by decide +kernel, by decide +kernel⟩, List.mem_of_getElem? (i := 1397) (by decide +kernel), List.mem_of_getElem? (i := 1700) (by decide +kernel), List.mem_of_getElem? (i := 1701) (by decide +kernel)⟩
theorem lw_p70 : lw_okq (⟨"UntilHeConfessesModel", "isSuspect", "(I)Z"⟩, 32) := ⟨⟨by decide +kernel, by decide +kernel⟩, List.mem_of_getElem? (i := 1397) (by decide +kernel), List.mem_of_getElem? (i := 1708) (by decide +kernel), List.mem_of_getElem? (i := 1709) (by decide +kernel)⟩
theorem lw_p71 : lw_okq (⟨"UntilHeConfessesModel", "arePassed", "(I)Z"⟩, 32) := ⟨⟨by decide +kernel, by decide +kernel⟩, List.mem_of_getElem? (i := 1397) (by decide +kernel), List.mem_of_getElem? (i := 1720) (by decide +kernel), List.mem_of_getElem? (i := 1721) (by decide +kernel)⟩
theorem lw_p72 : lw_okq (⟨"UntilHeConfessesModel", "pass", "()V"⟩, 32) := ⟨⟨by decide +kernel, by decide +kernel⟩, List.mem_of_getElem? (i := 1397) (by decide +kernel), List.mem_of_getElem? (i := 1724) (by decide +kernel), List.mem_of_getElem? (i := 1725) (by decide +kernel)⟩
theorem lw_p73 : lw_okq (⟨"UntilHeConfessesModel", "give", "(I)V"⟩, 32) := ⟨⟨by decide +kernel, by decide +kernel⟩, List.mem_of_getElem? (i := 1397) (by decide +kernel), List.mem_of_getElem? (i := 1728) (by decide +kernel), List.mem_of_getElem? (i := 1729) (by decide +kernel)⟩
theorem lw_p74 : lw_okq (⟨"UntilHeConfessesModel", "oddsOf", "(IIIZ)I"⟩, 32) := ⟨⟨by decide +kernel, by decide +kernel⟩, List.mem_of_getElem? (i := 1397) (by decide +kernel), List.mem_of_getElem? (i := 1732) (by decide +kernel), List.mem_of_getElem? (i := 1733) (by decide +kernel)⟩
theorem lw_p75 : lw_okq (⟨"UntilHeConfessesModel", "name", "(I)V"⟩, 32) := ⟨⟨by decide +kernel, by decide +kernel⟩, List.mem_of_getElem? (i := 1397) (by decide +kernel), List.mem_of_getElem? (i := 1736) (by decide +kernel), List.mem_of_getElem? (i := 1737) (by decide +kernel)⟩
theorem lw_p76 : lw_okq (⟨"UntilHeConfessesModel", "says", "(IIII)I"⟩, 32) := ⟨⟨by decide +kernel, by decide +kernel⟩, List.mem_of_getElem? (i := 1397) (by decide +kernel), List.mem_of_getElem? (i := 1743) (by decide +kernel), List.mem_of_getElem? (i := 1744) (by decide +kernel)⟩
theorem lw_p77 : lw_okq (⟨"UntilHeConfessesModel", "worked", "(II)J"⟩, 32) := ⟨⟨by decide +kernel, by decide +kernel⟩, List.mem_of_getElem? (i := 1397) (by decide +kernel), List.mem_of_getElem? (i := 1747) (by decide +kernel), List.mem_of_getElem? (i := 1748) (by decide +kernel)⟩
theorem lw_p78 : lw_okq (⟨"UntilHeConfessesModel", "drawn", "(I)I"⟩, 32) := ⟨⟨by decide +kernel, by decide +kernel⟩, List.mem_of_getElem? (i := 1397) (by decide +kernel), List.mem_of_getElem? (i := 1759) (by decide +kernel), List.mem_of_getElem? (i := 1760) (by decide +kernel)⟩
theorem lw_p79 : lw_okq (⟨"UntilHeConfessesModel", "anew", "()V"⟩, 32) := ⟨⟨by decide +kernel, by decide +kernel⟩, List.mem_of_getElem? (i := 1397) (by decide +kernel), List.mem_of_getElem? (i := 1763) (by decide +kernel), List.mem_of_getElem? (i := 1764) (by decide +kernel)⟩
def lw_privs_5 : List (MethodName × Nat) := [(⟨"UntilHeConfessesModel", "opened", "(I)I"⟩, 32), (⟨"UntilHeConfessesModel", "isScene", "(I)Z"⟩, 32), (⟨"UntilHeConfessesModel", "keep", "()V"⟩, 32), (⟨"UntilHeConfessesModel", "of", "(II)I"⟩, 32), (⟨"UntilHeConfessesModel", "given", "()I"⟩, 32), (⟨"UntilHeConfessesModel", "canEncore", "(I)Z"⟩, 32), (⟨"UntilHeConfessesModel", "isSuspect", "(I)Z"⟩, 32), (⟨"UntilHeConfessesModel", "arePassed", "(I)Z"⟩, 32), (⟨"UntilHeConfessesModel", "pass", "()V"⟩, 32), (⟨"UntilHeConfessesModel", "give", "(I)V"⟩, 32), (⟨"UntilHeConfessesModel", "oddsOf", "(IIIZ)I"⟩, 32), (⟨"UntilHeConfessesModel", "name", "(I)V"⟩, 32), (⟨"UntilHeConfessesModel", "says", "(IIII)I"⟩, 32), (⟨"UntilHeConfessesModel", "worked", "(II)J"⟩, 32), (⟨"UntilHeConfessesModel", "drawn", "(I)I"⟩, 32), (⟨"UntilHeConfessesModel", "anew", "()V"⟩, 32)]
theorem lw_r5 : ∀ q ∈ lw_privs_5, lw_okq q := List.forall_mem_cons.mpr ⟨lw_p64, List.forall_mem_cons.mpr ⟨lw_p65, List.forall_mem_cons.mpr ⟨lw_p66, List.forall_mem_cons.mpr ⟨lw_p67, List.forall_mem_cons.mpr ⟨lw_p68, List.forall_mem_cons.mpr ⟨lw_p69, List.forall_mem_cons.mpr ⟨lw_p70, List.forall_mem_cons.mpr ⟨lw_p71, List.forall_mem_cons.mpr ⟨lw_p72, List.forall_mem_cons.mpr ⟨lw_p73, List.forall_mem_cons.mpr ⟨lw_p74, List.forall_mem_cons.mpr ⟨lw_p75, List.forall_mem_cons.mpr ⟨lw_p76, List.forall_mem_cons.mpr ⟨lw_p77, List.forall_mem_cons.mpr ⟨lw_p78, List.forall_mem_cons.mpr ⟨lw_p79, fun _ h => absurd h List.not_mem_nil⟩⟩⟩⟩⟩⟩⟩⟩⟩⟩⟩⟩⟩⟩⟩⟩
theorem lw_p80 : lw_okq (⟨"UntilHeConfessesModel", "write", "(II)V"⟩, 32) := ⟨⟨by decide +kernel, by decide +kernel⟩, List.mem_of_getElem? (i := 1397) (by decide +kernel), List.mem_of_getElem? (i := 1770) (by decide +kernel), List.mem_of_getElem? (i := 1771) (by decide +kernel)⟩
theorem lw_p81 : lw_okq (⟨"UntilHeConfessesModel", "paysOf", "(I)I"⟩, 32) := ⟨⟨by decide +kernel, by decide +kernel⟩, List.mem_of_getElem? (i := 1397) (by decide +kernel), List.mem_of_getElem? (i := 1774) (by decide +kernel), List.mem_of_getElem? (i := 1775) (by decide +kernel)⟩
theorem lw_p82 : lw_okq (⟨"UntilHeConfessesModel", "isPlayed", "(I)Z"⟩, 32) := ⟨⟨by decide +kernel, by decide +kernel⟩, List.mem_of_getElem? (i := 1397) (by decide +kernel), List.mem_of_getElem? (i := 1783) (by decide +kernel), List.mem_of_getElem? (i := 1784) (by decide +kernel)⟩
theorem lw_p83 : lw_okq (⟨"UntilHeConfessesModel", "happens", "(I)V"⟩, 32) := ⟨⟨by decide +kernel, by decide +kernel⟩, List.mem_of_getElem? (i := 1397) (by decide +kernel), List.mem_of_getElem? (i := 1797) (by decide +kernel), List.mem_of_getElem? (i := 1798) (by decide +kernel)⟩
theorem lw_p84 : lw_okq (⟨"UntilHeConfessesModel", "entry", "(II)I"⟩, 32) := ⟨⟨by decide +kernel, by decide +kernel⟩, List.mem_of_getElem? (i := 1397) (by decide +kernel), List.mem_of_getElem? (i := 1817) (by decide +kernel), List.mem_of_getElem? (i := 1818) (by decide +kernel)⟩
theorem lw_p85 : lw_okq (⟨"UntilHeConfessesModel", "signsOf", "(II)I"⟩, 32) := ⟨⟨by decide +kernel, by decide +kernel⟩, List.mem_of_getElem? (i := 1397) (by decide +kernel), List.mem_of_getElem? (i := 1829) (by decide +kernel), List.mem_of_getElem? (i := 1830) (by decide +kernel)⟩
theorem lw_p86 : lw_okq (⟨"UntilHeConfessesModel", "isTaken", "(I)Z"⟩, 32) := ⟨⟨by decide +kernel, by decide +kernel⟩, List.mem_of_getElem? (i := 1397) (by decide +kernel), List.mem_of_getElem? (i := 1845) (by decide +kernel), List.mem_of_getElem? (i := 1846) (by decide +kernel)⟩
theorem lw_p87 : lw_okq (⟨"UntilHeConfessesModel", "likely", "(I)J"⟩, 32) := ⟨⟨by decide +kernel, by decide +kernel⟩, List.mem_of_getElem? (i := 1397) (by decide +kernel), List.mem_of_getElem? (i := 1869) (by decide +kernel), List.mem_of_getElem? (i := 1870) (by decide +kernel)⟩
theorem lw_p88 : lw_okq (⟨"UntilHeConfessesModel", "likelyOf", "(I)J"⟩, 32) := ⟨⟨by decide +kernel, by decide +kernel⟩, List.mem_of_getElem? (i := 1397) (by decide +kernel), List.mem_of_getElem? (i := 1873) (by decide +kernel), List.mem_of_getElem? (i := 1874) (by decide +kernel)⟩
theorem lw_p89 : lw_okq (⟨"UntilHeConfessesModel", "telling", "(I)I"⟩, 32) := ⟨⟨by decide +kernel, by decide +kernel⟩, List.mem_of_getElem? (i := 1397) (by decide +kernel), List.mem_of_getElem? (i := 1899) (by decide +kernel), List.mem_of_getElem? (i := 1900) (by decide +kernel)⟩
theorem lw_p90 : lw_okq (⟨"UntilHeConfessesModel", "behind", "(II)I"⟩, 32) := ⟨⟨by decide +kernel, by decide +kernel⟩, List.mem_of_getElem? (i := 1397) (by decide +kernel), List.mem_of_getElem? (i := 1910) (by decide +kernel), List.mem_of_getElem? (i := 1911) (by decide +kernel)⟩
theorem lw_p91 : lw_okq (⟨"UntilHeConfessesModel", "begin", "()V"⟩, 32) := ⟨⟨by decide +kernel, by decide +kernel⟩, List.mem_of_getElem? (i := 1397) (by decide +kernel), List.mem_of_getElem? (i := 1914) (by decide +kernel), List.mem_of_getElem? (i := 1915) (by decide +kernel)⟩
theorem lw_p92 : lw_okq (⟨"UntilHeConfessesModel", "putBack", "()V"⟩, 32) := ⟨⟨by decide +kernel, by decide +kernel⟩, List.mem_of_getElem? (i := 1397) (by decide +kernel), List.mem_of_getElem? (i := 1918) (by decide +kernel), List.mem_of_getElem? (i := 1919) (by decide +kernel)⟩
theorem lw_p93 : lw_okq (⟨"UntilHeConfessesModel", "layMembers", "(I)I"⟩, 32) := ⟨⟨by decide +kernel, by decide +kernel⟩, List.mem_of_getElem? (i := 1397) (by decide +kernel), List.mem_of_getElem? (i := 1934) (by decide +kernel), List.mem_of_getElem? (i := 1935) (by decide +kernel)⟩
theorem lw_p94 : lw_okq (⟨"UntilHeConfessesModel", "shownBy", "(II)I"⟩, 32) := ⟨⟨by decide +kernel, by decide +kernel⟩, List.mem_of_getElem? (i := 1397) (by decide +kernel), List.mem_of_getElem? (i := 1938) (by decide +kernel), List.mem_of_getElem? (i := 1939) (by decide +kernel)⟩
theorem lw_p95 : lw_okq (⟨"UntilHeConfessesModel", "nextRow", "(I)Z"⟩, 32) := ⟨⟨by decide +kernel, by decide +kernel⟩, List.mem_of_getElem? (i := 1397) (by decide +kernel), List.mem_of_getElem? (i := 1942) (by decide +kernel), List.mem_of_getElem? (i := 1943) (by decide +kernel)⟩
def lw_privs_6 : List (MethodName × Nat) := [(⟨"UntilHeConfessesModel", "write", "(II)V"⟩, 32), (⟨"UntilHeConfessesModel", "paysOf", "(I)I"⟩, 32), (⟨"UntilHeConfessesModel", "isPlayed", "(I)Z"⟩, 32), (⟨"UntilHeConfessesModel", "happens", "(I)V"⟩, 32), (⟨"UntilHeConfessesModel", "entry", "(II)I"⟩, 32), (⟨"UntilHeConfessesModel", "signsOf", "(II)I"⟩, 32), (⟨"UntilHeConfessesModel", "isTaken", "(I)Z"⟩, 32), (⟨"UntilHeConfessesModel", "likely", "(I)J"⟩, 32), (⟨"UntilHeConfessesModel", "likelyOf", "(I)J"⟩, 32), (⟨"UntilHeConfessesModel", "telling", "(I)I"⟩, 32), (⟨"UntilHeConfessesModel", "behind", "(II)I"⟩, 32), (⟨"UntilHeConfessesModel", "begin", "()V"⟩, 32), (⟨"UntilHeConfessesModel", "putBack", "()V"⟩, 32), (⟨"UntilHeConfessesModel", "layMembers", "(I)I"⟩, 32), (⟨"UntilHeConfessesModel", "shownBy", "(II)I"⟩, 32), (⟨"UntilHeConfessesModel", "nextRow", "(I)Z"⟩, 32)]
theorem lw_r6 : ∀ q ∈ lw_privs_6, lw_okq q := List.forall_mem_cons.mpr ⟨lw_p80, List.forall_mem_cons.mpr ⟨lw_p81, List.forall_mem_cons.mpr ⟨lw_p82, List.forall_mem_cons.mpr ⟨lw_p83, List.forall_mem_cons.mpr ⟨lw_p84, List.forall_mem_cons.mpr ⟨lw_p85, List.forall_mem_cons.mpr ⟨lw_p86, List.forall_mem_cons.mpr ⟨lw_p87, List.forall_mem_cons.mpr ⟨lw_p88, List.forall_mem_cons.mpr ⟨lw_p89, List.forall_mem_cons.mpr ⟨lw_p90, List.forall_mem_cons.mpr ⟨lw_p91, List.forall_mem_cons.mpr ⟨lw_p92, List.forall_mem_cons.mpr ⟨lw_p93, List.forall_mem_cons.mpr ⟨lw_p94, List.forall_mem_cons.mpr ⟨lw_p95, fun _ h => absurd h List.not_mem_nil⟩⟩⟩⟩⟩⟩⟩⟩⟩⟩⟩⟩⟩⟩⟩⟩
theorem lw_p96 : lw_okq (⟨"UntilHeConfessesModel", "awayCost", "(IIII)J"⟩, 32) := ⟨⟨by decide +kernel, by decide +kernel⟩, List.mem_of_getElem? (i := 1397) (by decide +kernel), List.mem_of_getElem? (i := 1959) (by decide +kernel), List.mem_of_getElem? (i := 1960) (by decide +kernel)⟩
theorem lw_p97 : lw_okq (⟨"UntilHeConfessesModel", "sumOf", "(II)I"⟩, 32) := ⟨⟨by decide +kernel, by decide +kernel⟩, List.mem_of_getElem? (i := 1397) (by decide +kernel), List.mem_of_getElem? (i := 1974) (by decide +kernel), List.mem_of_getElem? (i := 1975) (by decide +kernel)⟩
theorem lw_p98 : lw_okq (⟨"UntilHeConfessesModel", "canCome", "(II)Z"⟩, 32) := ⟨⟨by decide +kernel, by decide +kernel⟩, List.mem_of_getElem? (i := 1397) (by decide +kernel), List.mem_of_getElem? (i := 1990) (by decide +kernel), List.mem_of_getElem? (i := 1991) (by decide +kernel)⟩
theorem lw_p99 : lw_okq (⟨"UntilHeConfessesModel", "laySeats", "()V"⟩, 32) := ⟨⟨by decide +kernel, by decide +kernel⟩, List.mem_of_getElem? (i := 1397) (by decide +kernel), List.mem_of_getElem? (i := 1998) (by decide +kernel), List.mem_of_getElem? (i := 1999) (by decide +kernel)⟩
theorem lw_p100 : lw_okq (⟨"UntilHeConfessesModel", "facingNow", "()I"⟩, 32) := ⟨⟨by decide +kernel, by decide +kernel⟩, List.mem_of_getElem? (i := 1397) (by decide +kernel), List.mem_of_getElem? (i := 2002) (by decide +kernel), List.mem_of_getElem? (i := 2003) (by decide +kernel)⟩
theorem lw_p101 : lw_okq (⟨"UntilHeConfessesModel", "facedBy", "(II)I"⟩, 32) := ⟨⟨by decide +kernel, by decide +kernel⟩, List.mem_of_getElem? (i := 1397) (by decide +kernel), List.mem_of_getElem? (i := 2013) (by decide +kernel), List.mem_of_getElem? (i := 2014) (by decide +kernel)⟩
theorem lw_p102 : lw_okq (⟨"UntilHeConfessesModel", "sortSeats", "(I)V"⟩, 32) := ⟨⟨by decide +kernel, by decide +kernel⟩, List.mem_of_getElem? (i := 1397) (by decide +kernel), List.mem_of_getElem? (i := 2029) (by decide +kernel), List.mem_of_getElem? (i := 2030) (by decide +kernel)⟩
theorem lw_p103 : lw_okq (⟨"UntilHeConfessesModel", "isAsTorn", "()Z"⟩, 32) := ⟨⟨by decide +kernel, by decide +kernel⟩, List.mem_of_getElem? (i := 1397) (by decide +kernel), List.mem_of_getElem? (i := 2041) (by decide +kernel), List.mem_of_getElem? (i := 2042) (by decide +kernel)⟩
def lw_privs_7 : List (MethodName × Nat) := [(⟨"UntilHeConfessesModel", "awayCost", "(IIII)J"⟩, 32), (⟨"UntilHeConfessesModel", "sumOf", "(II)I"⟩, 32), (⟨"UntilHeConfessesModel", "canCome", "(II)Z"⟩, 32), (⟨"UntilHeConfessesModel", "laySeats", "()V"⟩, 32), (⟨"UntilHeConfessesModel", "facingNow", "()I"⟩, 32), (⟨"UntilHeConfessesModel", "facedBy", "(II)I"⟩, 32), (⟨"UntilHeConfessesModel", "sortSeats", "(I)V"⟩, 32), (⟨"UntilHeConfessesModel", "isAsTorn", "()Z"⟩, 32)]
theorem lw_r7 : ∀ q ∈ lw_privs_7, lw_okq q := List.forall_mem_cons.mpr ⟨lw_p96, List.forall_mem_cons.mpr ⟨lw_p97, List.forall_mem_cons.mpr ⟨lw_p98, List.forall_mem_cons.mpr ⟨lw_p99, List.forall_mem_cons.mpr ⟨lw_p100, List.forall_mem_cons.mpr ⟨lw_p101, List.forall_mem_cons.mpr ⟨lw_p102, List.forall_mem_cons.mpr ⟨lw_p103, fun _ h => absurd h List.not_mem_nil⟩⟩⟩⟩⟩⟩⟩⟩
def lw_privs : List (MethodName × Nat) := lw_privs_1 ++ (lw_privs_2 ++ (lw_privs_3 ++ (lw_privs_4 ++ (lw_privs_5 ++ (lw_privs_6 ++ (lw_privs_7))))))
def lw_tbl : List Cond := k2_sels lw_privs ++ tables_1
theorem lw_privs_ok : ∀ q ∈ lw_privs, lw_okq q := by
  show ∀ q ∈ lw_privs_1 ++ (lw_privs_2 ++ (lw_privs_3 ++ (lw_privs_4 ++ (lw_privs_5 ++ (lw_privs_6 ++ (lw_privs_7)))))), lw_okq q
  exact List.forall_mem_append.mpr ⟨lw_r1, List.forall_mem_append.mpr ⟨lw_r2, List.forall_mem_append.mpr ⟨lw_r3, List.forall_mem_append.mpr ⟨lw_r4, List.forall_mem_append.mpr ⟨lw_r5, List.forall_mem_append.mpr ⟨lw_r6, lw_r7⟩⟩⟩⟩⟩⟩
-- ===== end of PART A; then your names; then what follows =====
/-! ===== BEGIN printed: names, fields, word lists, decode rows ===== -/
def RX0 : String := "UntilHeConfesses$Belief"
def TX0 : u_T := fun k => match k with
  | 0 => ("UntilHeConfesses$Belief", "house", "LUntilHeConfesses$House;", true)
  | 1 => ("UntilHeConfesses$Belief", "stage", "LUntilHeConfesses$Stage;", true)
  | 2 => ("UntilHeConfesses$Belief", "notes", "LUntilHeConfesses$Notes;", true)
  | _ => ("UntilHeConfesses$Belief", "laws", "LUntilHeConfesses$Laws;", true)
def tyX0 : Nat → FieldType := fun k => match k with
  | 0 => .object "UntilHeConfesses$House"
  | 1 => .object "UntilHeConfesses$Stage"
  | 2 => .object "UntilHeConfesses$Notes"
  | _ => .object "UntilHeConfesses$Laws"
abbrev wsX00 : List Cond := u_ws RX0 TX0 4
theorem nmX0 : ∀ a, a < 4 → ∀ b, b < 4 → a ≠ b → (TX0 a).2.1 ≠ (TX0 b).2.1 := by decide +kernel
theorem tyX0_ok : ∀ k, k < 4 → parseFieldDescriptor (TX0 k).2.2.1 = some (tyX0 k) := by decide +kernel
abbrev cX0_init : ByteArray := prog_2_method_1_code
def yX0_init : MethodName := ⟨RX0, "<init>", "(LUntilHeConfesses$House;LUntilHeConfesses$Laws;)V"⟩
abbrev cX0_weightIf : ByteArray := prog_2_method_2_code
def yX0_weightIf : MethodName := ⟨RX0, "weightIf", "(I)J"⟩
abbrev cX0_shareOf : ByteArray := prog_2_method_3_code
def yX0_shareOf : MethodName := ⟨RX0, "shareOf", "(IZ)J"⟩
abbrev cX0_shareOfTwo : ByteArray := prog_2_method_4_code
def yX0_shareOfTwo : MethodName := ⟨RX0, "shareOfTwo", "(IIZ)J"⟩
abbrev cX0_likeliest : ByteArray := prog_2_method_5_code
def yX0_likeliest : MethodName := ⟨RX0, "likeliest", "()I"⟩
abbrev cX0_mostTelling : ByteArray := prog_2_method_6_code
def yX0_mostTelling : MethodName := ⟨RX0, "mostTelling", "()I"⟩
abbrev cX0_oddsUnseen : ByteArray := prog_2_method_7_code
def yX0_oddsUnseen : MethodName := ⟨RX0, "oddsUnseen", "(IZ)J"⟩
abbrev cX0_textsThatFit : ByteArray := prog_2_method_8_code
def yX0_textsThatFit : MethodName := ⟨RX0, "textsThatFit", "()I"⟩
abbrev cX0_fits : ByteArray := prog_2_method_9_code
def yX0_fits : MethodName := ⟨RX0, "fits", "(LUntilHeConfesses$Text;)Z"⟩
def RX1 : String := "UntilHeConfesses$House"
def TX1 : u_T := fun k => match k with
  | 0 => ("UntilHeConfesses$House", "stage", "LUntilHeConfesses$Stage;", true)
  | 1 => ("UntilHeConfesses$House", "notes", "LUntilHeConfesses$Notes;", true)
  | 2 => ("UntilHeConfesses$House", "rows", "[[I", true)
  | 3 => ("UntilHeConfesses$House", "eldest", "I", false)
  | 4 => ("UntilHeConfesses$House", "steps", "I", false)
  | 5 => ("UntilHeConfesses$House", "shelf", "[LUntilHeConfesses$Text;", true)
  | 6 => ("UntilHeConfesses$House", "texts", "I", false)
  | _ => ("UntilHeConfesses$House", "ruling", "I", false)
def tyX1 : Nat → FieldType := fun k => match k with
  | 0 => .object "UntilHeConfesses$Stage"
  | 1 => .object "UntilHeConfesses$Notes"
  | 2 => .array (.array .int)
  | 3 => .int
  | 4 => .int
  | 5 => .array (.object "UntilHeConfesses$Text")
  | 6 => .int
  | _ => .int
abbrev wsX10 : List Cond := u_ws RX1 TX1 8
theorem nmX1 : ∀ a, a < 8 → ∀ b, b < 8 → a ≠ b → (TX1 a).2.1 ≠ (TX1 b).2.1 := by decide +kernel
theorem tyX1_ok : ∀ k, k < 8 → parseFieldDescriptor (TX1 k).2.2.1 = some (tyX1 k) := by decide +kernel
abbrev cX1_init : ByteArray := prog_3_method_1_code
def yX1_init : MethodName := ⟨RX1, "<init>", "()V"⟩
abbrev cX1_noteStep : ByteArray := prog_3_method_2_code
def yX1_noteStep : MethodName := ⟨RX1, "noteStep", "()V"⟩
abbrev cX1_takeBack : ByteArray := prog_3_method_3_code
def yX1_takeBack : MethodName := ⟨RX1, "takeBack", "()Z"⟩
abbrev cX1_latestStep : ByteArray := prog_3_method_4_code
def yX1_latestStep : MethodName := ⟨RX1, "latestStep", "()I"⟩
abbrev cX1_hasText : ByteArray := prog_3_method_5_code
def yX1_hasText : MethodName := ⟨RX1, "hasText", "(I)Z"⟩
abbrev cX1_textOf : ByteArray := prog_3_method_6_code
def yX1_textOf : MethodName := ⟨RX1, "textOf", "(I)LUntilHeConfesses$Text;"⟩
abbrev cX1_keepText : ByteArray := prog_3_method_7_code
def yX1_keepText : MethodName := ⟨RX1, "keepText", "(LUntilHeConfesses$Text;)I"⟩
abbrev cX1_copyFrom : ByteArray := prog_3_method_8_code
def yX1_copyFrom : MethodName := ⟨RX1, "copyFrom", "(LUntilHeConfesses$House;)V"⟩
def RX2 : String := "UntilHeConfesses$Laws"
def TX2 : u_T := fun k => match k with
  | 0 => ("UntilHeConfesses$Laws", "house", "LUntilHeConfesses$House;", true)
  | 1 => ("UntilHeConfesses$Laws", "names", "[I", true)
  | _ => ("UntilHeConfesses$Laws", "stack", "[I", true)
def tyX2 : Nat → FieldType := fun k => match k with
  | 0 => .object "UntilHeConfesses$House"
  | 1 => .array .int
  | _ => .array .int
abbrev wsX20 : List Cond := u_ws RX2 TX2 3
theorem nmX2 : ∀ a, a < 3 → ∀ b, b < 3 → a ≠ b → (TX2 a).2.1 ≠ (TX2 b).2.1 := by decide +kernel
theorem tyX2_ok : ∀ k, k < 3 → parseFieldDescriptor (TX2 k).2.2.1 = some (tyX2 k) := by decide +kernel
abbrev cX2_init : ByteArray := prog_4_method_1_code
def yX2_init : MethodName := ⟨RX2, "<init>", "(LUntilHeConfesses$House;)V"⟩
abbrev cX2_oddsNow : ByteArray := prog_4_method_2_code
def yX2_oddsNow : MethodName := ⟨RX2, "oddsNow", "(IIZ)I"⟩
abbrev cX2_oddsBy : ByteArray := prog_4_method_3_code
def yX2_oddsBy : MethodName := ⟨RX2, "oddsBy", "(LUntilHeConfesses$Text;IIZ)I"⟩
abbrev cX2_paysNow : ByteArray := prog_4_method_4_code
def yX2_paysNow : MethodName := ⟨RX2, "paysNow", "(I)I"⟩
abbrev cX2_paidByAll : ByteArray := prog_4_method_5_code
def yX2_paidByAll : MethodName := ⟨RX2, "paidByAll", "()I"⟩
abbrev cX2_nameSuspect : ByteArray := prog_4_method_6_code
def yX2_nameSuspect : MethodName := ⟨RX2, "nameSuspect", "(I)V"⟩
abbrev cX2_run : ByteArray := prog_4_method_7_code
def yX2_run : MethodName := ⟨RX2, "run", "(LUntilHeConfesses$Text;I)I"⟩
abbrev cX2_counted : ByteArray := prog_4_method_8_code
def yX2_counted : MethodName := ⟨RX2, "counted", "(IJJ)I"⟩
def RX3 : String := "UntilHeConfesses$Notes"
def TX3 : u_T := fun k => match k with
  | 0 => ("UntilHeConfesses$Notes", "weights", "[I", true)
  | 1 => ("UntilHeConfesses$Notes", "risks", "[I", true)
  | 2 => ("UntilHeConfesses$Notes", "sizes", "[I", true)
  | _ => ("UntilHeConfesses$Notes", "lists", "[[I", true)
def tyX3 : Nat → FieldType := fun k => match k with
  | 0 => .array .int
  | 1 => .array .int
  | 2 => .array .int
  | _ => .array (.array .int)
abbrev wsX30 : List Cond := u_ws RX3 TX3 4
theorem nmX3 : ∀ a, a < 4 → ∀ b, b < 4 → a ≠ b → (TX3 a).2.1 ≠ (TX3 b).2.1 := by decide +kernel
theorem tyX3_ok : ∀ k, k < 4 → parseFieldDescriptor (TX3 k).2.2.1 = some (tyX3 k) := by decide +kernel
abbrev cX3_init : ByteArray := prog_5_method_1_code
def yX3_init : MethodName := ⟨RX3, "<init>", "()V"⟩
abbrev cX3_forget : ByteArray := prog_5_method_2_code
def yX3_forget : MethodName := ⟨RX3, "forget", "(I)I"⟩
abbrev cX3_write : ByteArray := prog_5_method_3_code
def yX3_write : MethodName := ⟨RX3, "write", "(IIII)I"⟩
abbrev cX3_oneOf : ByteArray := prog_5_method_4_code
def yX3_oneOf : MethodName := ⟨RX3, "oneOf", "(II)I"⟩
abbrev cX3_otherOf : ByteArray := prog_5_method_5_code
def yX3_otherOf : MethodName := ⟨RX3, "otherOf", "(II)I"⟩
abbrev cX3_whatOf : ByteArray := prog_5_method_6_code
def yX3_whatOf : MethodName := ⟨RX3, "whatOf", "(II)I"⟩
abbrev cX3_copyFrom : ByteArray := prog_5_method_7_code
def yX3_copyFrom : MethodName := ⟨RX3, "copyFrom", "(LUntilHeConfesses$Notes;)V"⟩
def RX4 : String := "UntilHeConfesses$Plans"
def TX4 : u_T := fun k => match k with
  | 0 => ("UntilHeConfesses$Plans", "stage", "LUntilHeConfesses$Stage;", true)
  | 1 => ("UntilHeConfesses$Plans", "notes", "LUntilHeConfesses$Notes;", true)
  | 2 => ("UntilHeConfesses$Plans", "laws", "LUntilHeConfesses$Laws;", true)
  | 3 => ("UntilHeConfesses$Plans", "chances", "[I", true)
  | 4 => ("UntilHeConfesses$Plans", "row", "[I", true)
  | 5 => ("UntilHeConfesses$Plans", "bestRow", "[I", true)
  | 6 => ("UntilHeConfesses$Plans", "mustBeBehind", "[I", true)
  | _ => ("UntilHeConfesses$Plans", "ways", "[I", true)
def tyX4 : Nat → FieldType := fun k => match k with
  | 0 => .object "UntilHeConfesses$Stage"
  | 1 => .object "UntilHeConfesses$Notes"
  | 2 => .object "UntilHeConfesses$Laws"
  | 3 => .array .int
  | 4 => .array .int
  | 5 => .array .int
  | 6 => .array .int
  | _ => .array .int
abbrev wsX40 : List Cond := u_ws RX4 TX4 8
theorem nmX4 : ∀ a, a < 8 → ∀ b, b < 8 → a ≠ b → (TX4 a).2.1 ≠ (TX4 b).2.1 := by decide +kernel
theorem tyX4_ok : ∀ k, k < 8 → parseFieldDescriptor (TX4 k).2.2.1 = some (tyX4 k) := by decide +kernel
abbrev cX4_init : ByteArray := prog_6_method_1_code
def yX4_init : MethodName := ⟨RX4, "<init>", "(LUntilHeConfesses$House;LUntilHeConfesses$Laws;)V"⟩
abbrev cX4_bestOrder : ByteArray := prog_6_method_2_code
def yX4_bestOrder : MethodName := ⟨RX4, "bestOrder", "(III)I"⟩
abbrev cX4_shownInOrder : ByteArray := prog_6_method_3_code
def yX4_shownInOrder : MethodName := ⟨RX4, "shownInOrder", "(I)I"⟩
abbrev cX4_cheapestNights : ByteArray := prog_6_method_4_code
def yX4_cheapestNights : MethodName := ⟨RX4, "cheapestNights", "(IIII)J"⟩
abbrev cX4_costOf : ByteArray := prog_6_method_5_code
def yX4_costOf : MethodName := ⟨RX4, "costOf", "(IIII)J"⟩
abbrev cX4_bestRun : ByteArray := prog_6_method_6_code
def yX4_bestRun : MethodName := ⟨RX4, "bestRun", "(IIIII)J"⟩
abbrev cX4_hottestSet : ByteArray := prog_6_method_7_code
def yX4_hottestSet : MethodName := ⟨RX4, "hottestSet", "(I)I"⟩
abbrev cX4_howManyOrders : ByteArray := prog_6_method_8_code
def yX4_howManyOrders : MethodName := ⟨RX4, "howManyOrders", "()I"⟩
abbrev cX4_oddsOfMost : ByteArray := prog_6_method_9_code
def yX4_oddsOfMost : MethodName := ⟨RX4, "oddsOfMost", "(IIZ)J"⟩
def RX5 : String := "UntilHeConfesses$Play"
def TX5 : u_T := fun k => match k with
  | 0 => ("UntilHeConfesses$Play", "house", "LUntilHeConfesses$House;", true)
  | 1 => ("UntilHeConfesses$Play", "stage", "LUntilHeConfesses$Stage;", true)
  | 2 => ("UntilHeConfesses$Play", "laws", "LUntilHeConfesses$Laws;", true)
  | 3 => ("UntilHeConfesses$Play", "chances", "[I", true)
  | 4 => ("UntilHeConfesses$Play", "rowAhead", "[I", true)
  | _ => ("UntilHeConfesses$Play", "shownBy", "I", false)
def tyX5 : Nat → FieldType := fun k => match k with
  | 0 => .object "UntilHeConfesses$House"
  | 1 => .object "UntilHeConfesses$Stage"
  | 2 => .object "UntilHeConfesses$Laws"
  | 3 => .array .int
  | 4 => .array .int
  | _ => .int
abbrev wsX50 : List Cond := u_ws RX5 TX5 6
theorem nmX5 : ∀ a, a < 6 → ∀ b, b < 6 → a ≠ b → (TX5 a).2.1 ≠ (TX5 b).2.1 := by decide +kernel
theorem tyX5_ok : ∀ k, k < 6 → parseFieldDescriptor (TX5 k).2.2.1 = some (tyX5 k) := by decide +kernel
abbrev cX5_init : ByteArray := prog_7_method_1_code
def yX5_init : MethodName := ⟨RX5, "<init>", "(LUntilHeConfesses$House;LUntilHeConfesses$Laws;)V"⟩
abbrev cX5_cutByHand : ByteArray := prog_7_method_2_code
def yX5_cutByHand : MethodName := ⟨RX5, "cutByHand", "(I)Z"⟩
abbrev cX5_encoreByHand : ByteArray := prog_7_method_3_code
def yX5_encoreByHand : MethodName := ⟨RX5, "encoreByHand", "(I)Z"⟩
abbrev cX5_sendByHand : ByteArray := prog_7_method_4_code
def yX5_sendByHand : MethodName := ⟨RX5, "sendByHand", "(I)Z"⟩
abbrev cX5_seatByHand : ByteArray := prog_7_method_5_code
def yX5_seatByHand : MethodName := ⟨RX5, "seatByHand", "(II)Z"⟩
abbrev cX5_nightsByHand : ByteArray := prog_7_method_6_code
def yX5_nightsByHand : MethodName := ⟨RX5, "nightsByHand", "(I)I"⟩
abbrev cX5_giveNight : ByteArray := prog_7_method_7_code
def yX5_giveNight : MethodName := ⟨RX5, "giveNight", "()I"⟩
abbrev cX5_giveScene : ByteArray := prog_7_method_8_code
def yX5_giveScene : MethodName := ⟨RX5, "giveScene", "(II)I"⟩
abbrev cX5_playClause : ByteArray := prog_7_method_9_code
def yX5_playClause : MethodName := ⟨RX5, "playClause", "(LUntilHeConfesses$Text;I)Z"⟩
abbrev cX5_drawSeasons : ByteArray := prog_7_method_10_code
def yX5_drawSeasons : MethodName := ⟨RX5, "drawSeasons", "(II)V"⟩
abbrev cX5_drawScene : ByteArray := prog_7_method_11_code
def yX5_drawScene : MethodName := ⟨RX5, "drawScene", "(II)V"⟩
abbrev cX5_drawSuspect : ByteArray := prog_7_method_12_code
def yX5_drawSuspect : MethodName := ⟨RX5, "drawSuspect", "(II)V"⟩
abbrev cX5_signsBehind : ByteArray := prog_7_method_13_code
def yX5_signsBehind : MethodName := ⟨RX5, "signsBehind", "(I)I"⟩
abbrev cX5_takingsBehind : ByteArray := prog_7_method_14_code
def yX5_takingsBehind : MethodName := ⟨RX5, "takingsBehind", "(I)I"⟩
abbrev cX5_habitBehind : ByteArray := prog_7_method_15_code
def yX5_habitBehind : MethodName := ⟨RX5, "habitBehind", "(II)I"⟩
abbrev cX5_rehearse : ByteArray := prog_7_method_16_code
def yX5_rehearse : MethodName := ⟨RX5, "rehearse", "(I)I"⟩
abbrev cX5_nightsToSign : ByteArray := prog_7_method_17_code
def yX5_nightsToSign : MethodName := ⟨RX5, "nightsToSign", "(I)I"⟩
def RX6 : String := "UntilHeConfesses$Reader"
def TX6 : u_T := fun k => match k with
  | 0 => ("UntilHeConfesses$Reader", "tape", "LUntilHeConfesses$Tape;", true)
  | 1 => ("UntilHeConfesses$Reader", "latestFault", "I", false)
  | 2 => ("UntilHeConfesses$Reader", "latestPlace", "I", false)
  | 3 => ("UntilHeConfesses$Reader", "token", "I", false)
  | 4 => ("UntilHeConfesses$Reader", "kind", "I", false)
  | 5 => ("UntilHeConfesses$Reader", "wrong", "I", false)
  | 6 => ("UntilHeConfesses$Reader", "clauses", "I", false)
  | 7 => ("UntilHeConfesses$Reader", "kinds", "[I", true)
  | 8 => ("UntilHeConfesses$Reader", "firsts", "[I", true)
  | 9 => ("UntilHeConfesses$Reader", "seconds", "[I", true)
  | 10 => ("UntilHeConfesses$Reader", "codeSize", "I", false)
  | 11 => ("UntilHeConfesses$Reader", "code", "[I", true)
  | 12 => ("UntilHeConfesses$Reader", "lawFrom", "[I", true)
  | 13 => ("UntilHeConfesses$Reader", "lawTill", "[I", true)
  | 14 => ("UntilHeConfesses$Reader", "lawRead", "I", false)
  | _ => ("UntilHeConfesses$Reader", "inTotal", "Z", false)
def tyX6 : Nat → FieldType := fun k => match k with
  | 0 => .object "UntilHeConfesses$Tape"
  | 1 => .int
  | 2 => .int
  | 3 => .int
  | 4 => .int
  | 5 => .int
  | 6 => .int
  | 7 => .array .int
  | 8 => .array .int
  | 9 => .array .int
  | 10 => .int
  | 11 => .array .int
  | 12 => .array .int
  | 13 => .array .int
  | 14 => .int
  | _ => .boolean
abbrev wsX60 : List Cond := u_ws RX6 TX6 16
theorem nmX6 : ∀ a, a < 16 → ∀ b, b < 16 → a ≠ b → (TX6 a).2.1 ≠ (TX6 b).2.1 := by decide +kernel
theorem tyX6_ok : ∀ k, k < 16 → parseFieldDescriptor (TX6 k).2.2.1 = some (tyX6 k) := by decide +kernel
abbrev cX6_init : ByteArray := prog_8_method_1_code
def yX6_init : MethodName := ⟨RX6, "<init>", "(LUntilHeConfesses$Tape;)V"⟩
abbrev cX6_readTape : ByteArray := prog_8_method_2_code
def yX6_readTape : MethodName := ⟨RX6, "readTape", "()LUntilHeConfesses$Text;"⟩
abbrev cX6_startAnew : ByteArray := prog_8_method_3_code
def yX6_startAnew : MethodName := ⟨RX6, "startAnew", "()V"⟩
abbrev cX6_makeText : ByteArray := prog_8_method_4_code
def yX6_makeText : MethodName := ⟨RX6, "makeText", "()LUntilHeConfesses$Text;"⟩
abbrev cX6_goOn : ByteArray := prog_8_method_5_code
def yX6_goOn : MethodName := ⟨RX6, "goOn", "()V"⟩
abbrev cX6_fail : ByteArray := prog_8_method_6_code
def yX6_fail : MethodName := ⟨RX6, "fail", "(I)V"⟩
abbrev cX6_readClause : ByteArray := prog_8_method_7_code
def yX6_readClause : MethodName := ⟨RX6, "readClause", "()V"⟩
abbrev cX6_readDeed : ByteArray := prog_8_method_8_code
def yX6_readDeed : MethodName := ⟨RX6, "readDeed", "(I)V"⟩
abbrev cX6_readTwo : ByteArray := prog_8_method_9_code
def yX6_readTwo : MethodName := ⟨RX6, "readTwo", "(IIII)V"⟩
abbrev cX6_readNumber : ByteArray := prog_8_method_10_code
def yX6_readNumber : MethodName := ⟨RX6, "readNumber", "(II)I"⟩
abbrev cX6_pass : ByteArray := prog_8_method_11_code
def yX6_pass : MethodName := ⟨RX6, "pass", "(I)V"⟩
abbrev cX6_readSum : ByteArray := prog_8_method_12_code
def yX6_readSum : MethodName := ⟨RX6, "readSum", "(I)V"⟩
abbrev cX6_readOne : ByteArray := prog_8_method_13_code
def yX6_readOne : MethodName := ⟨RX6, "readOne", "(I)V"⟩
abbrev cX6_readName : ByteArray := prog_8_method_14_code
def yX6_readName : MethodName := ⟨RX6, "readName", "(I)V"⟩
abbrev cX6_readTotal : ByteArray := prog_8_method_15_code
def yX6_readTotal : MethodName := ⟨RX6, "readTotal", "(I)V"⟩
abbrev cX6_put : ByteArray := prog_8_method_16_code
def yX6_put : MethodName := ⟨RX6, "put", "(II)V"⟩
def RX7 : String := "UntilHeConfesses$Stage"
def TX7 : u_T := fun k => match k with
  | 0 => ("UntilHeConfesses$Stage", "suspects", "I", false)
  | 1 => ("UntilHeConfesses$Stage", "guiltyOnes", "I", false)
  | 2 => ("UntilHeConfesses$Stage", "awayOnes", "I", false)
  | 3 => ("UntilHeConfesses$Stage", "nerves", "[I", true)
  | 4 => ("UntilHeConfesses$Stage", "seats", "[I", true)
  | 5 => ("UntilHeConfesses$Stage", "toldSeats", "[I", true)
  | 6 => ("UntilHeConfesses$Stage", "habits", "[I", true)
  | 7 => ("UntilHeConfesses$Stage", "scenes", "I", false)
  | 8 => ("UntilHeConfesses$Stage", "cutOnes", "I", false)
  | 9 => ("UntilHeConfesses$Stage", "encoredOnes", "I", false)
  | 10 => ("UntilHeConfesses$Stage", "heats", "[I", true)
  | 11 => ("UntilHeConfesses$Stage", "lengths", "[I", true)
  | 12 => ("UntilHeConfesses$Stage", "night", "I", false)
  | 13 => ("UntilHeConfesses$Stage", "takings", "I", false)
  | 14 => ("UntilHeConfesses$Stage", "x", "I", false)
  | 15 => ("UntilHeConfesses$Stage", "signBook", "[I", true)
  | 16 => ("UntilHeConfesses$Stage", "eldest", "I", false)
  | _ => ("UntilHeConfesses$Stage", "written", "I", false)
def tyX7 : Nat → FieldType := fun k => match k with
  | 0 => .int
  | 1 => .int
  | 2 => .int
  | 3 => .array .int
  | 4 => .array .int
  | 5 => .array .int
  | 6 => .array .int
  | 7 => .int
  | 8 => .int
  | 9 => .int
  | 10 => .array .int
  | 11 => .array .int
  | 12 => .int
  | 13 => .int
  | 14 => .int
  | 15 => .array .int
  | 16 => .int
  | _ => .int
abbrev wsX70 : List Cond := u_ws RX7 TX7 18
theorem nmX7 : ∀ a, a < 18 → ∀ b, b < 18 → a ≠ b → (TX7 a).2.1 ≠ (TX7 b).2.1 := by decide +kernel
theorem tyX7_ok : ∀ k, k < 18 → parseFieldDescriptor (TX7 k).2.2.1 = some (tyX7 k) := by decide +kernel
abbrev cX7_init : ByteArray := prog_9_method_1_code
def yX7_init : MethodName := ⟨RX7, "<init>", "()V"⟩
abbrev cX7_tellSuspect : ByteArray := prog_9_method_2_code
def yX7_tellSuspect : MethodName := ⟨RX7, "tellSuspect", "(ZII)I"⟩
abbrev cX7_tellScene : ByteArray := prog_9_method_3_code
def yX7_tellScene : MethodName := ⟨RX7, "tellScene", "(II)I"⟩
abbrev cX7_hasSuspect : ByteArray := prog_9_method_4_code
def yX7_hasSuspect : MethodName := ⟨RX7, "hasSuspect", "(I)Z"⟩
abbrev cX7_hasScene : ByteArray := prog_9_method_5_code
def yX7_hasScene : MethodName := ⟨RX7, "hasScene", "(I)Z"⟩
abbrev cX7_hasBoth : ByteArray := prog_9_method_6_code
def yX7_hasBoth : MethodName := ⟨RX7, "hasBoth", "(II)Z"⟩
abbrev cX7_isGuilty : ByteArray := prog_9_method_7_code
def yX7_isGuilty : MethodName := ⟨RX7, "isGuilty", "(I)Z"⟩
abbrev cX7_comes : ByteArray := prog_9_method_8_code
def yX7_comes : MethodName := ⟨RX7, "comes", "(I)Z"⟩
abbrev cX7_isCut : ByteArray := prog_9_method_9_code
def yX7_isCut : MethodName := ⟨RX7, "isCut", "(I)Z"⟩
abbrev cX7_isEncored : ByteArray := prog_9_method_10_code
def yX7_isEncored : MethodName := ⟨RX7, "isEncored", "(I)Z"⟩
abbrev cX7_canEncore : ByteArray := prog_9_method_11_code
def yX7_canEncore : MethodName := ⟨RX7, "canEncore", "(I)Z"⟩
abbrev cX7_timesGiven : ByteArray := prog_9_method_12_code
def yX7_timesGiven : MethodName := ⟨RX7, "timesGiven", "(I)I"⟩
abbrev cX7_isFree : ByteArray := prog_9_method_13_code
def yX7_isFree : MethodName := ⟨RX7, "isFree", "(I)Z"⟩
abbrev cX7_howManyGiven : ByteArray := prog_9_method_14_code
def yX7_howManyGiven : MethodName := ⟨RX7, "howManyGiven", "()I"⟩
abbrev cX7_howManyCome : ByteArray := prog_9_method_15_code
def yX7_howManyCome : MethodName := ⟨RX7, "howManyCome", "()I"⟩
abbrev cX7_lengthOfNight : ByteArray := prog_9_method_16_code
def yX7_lengthOfNight : MethodName := ⟨RX7, "lengthOfNight", "()I"⟩
abbrev cX7_hottestGiven : ByteArray := prog_9_method_17_code
def yX7_hottestGiven : MethodName := ⟨RX7, "hottestGiven", "()I"⟩
abbrev cX7_emptySeats : ByteArray := prog_9_method_18_code
def yX7_emptySeats : MethodName := ⟨RX7, "emptySeats", "(I)I"⟩
abbrev cX7_isTaken : ByteArray := prog_9_method_19_code
def yX7_isTaken : MethodName := ⟨RX7, "isTaken", "(I)Z"⟩
abbrev cX7_guiltyRows : ByteArray := prog_9_method_20_code
def yX7_guiltyRows : MethodName := ⟨RX7, "guiltyRows", "()I"⟩
abbrev cX7_draw : ByteArray := prog_9_method_21_code
def yX7_draw : MethodName := ⟨RX7, "draw", "()I"⟩
abbrev cX7_take : ByteArray := prog_9_method_22_code
def yX7_take : MethodName := ⟨RX7, "take", "(I)V"⟩
abbrev cX7_writeSign : ByteArray := prog_9_method_23_code
def yX7_writeSign : MethodName := ⟨RX7, "writeSign", "(II)V"⟩
abbrev cX7_signAt : ByteArray := prog_9_method_24_code
def yX7_signAt : MethodName := ⟨RX7, "signAt", "(I)I"⟩
abbrev cX7_nightOfSign : ByteArray := prog_9_method_25_code
def yX7_nightOfSign : MethodName := ⟨RX7, "nightOfSign", "(I)I"⟩
abbrev cX7_sceneOfSign : ByteArray := prog_9_method_26_code
def yX7_sceneOfSign : MethodName := ⟨RX7, "sceneOfSign", "(I)I"⟩
abbrev cX7_suspectOfSign : ByteArray := prog_9_method_27_code
def yX7_suspectOfSign : MethodName := ⟨RX7, "suspectOfSign", "(I)I"⟩
abbrev cX7_countSigns : ByteArray := prog_9_method_28_code
def yX7_countSigns : MethodName := ⟨RX7, "countSigns", "(II)I"⟩
abbrev cX7_countFalse : ByteArray := prog_9_method_29_code
def yX7_countFalse : MethodName := ⟨RX7, "countFalse", "()I"⟩
abbrev cX7_mostWritten : ByteArray := prog_9_method_30_code
def yX7_mostWritten : MethodName := ⟨RX7, "mostWritten", "()I"⟩
abbrev cX7_saveTo : ByteArray := prog_9_method_31_code
def yX7_saveTo : MethodName := ⟨RX7, "saveTo", "([I)V"⟩
abbrev cX7_restoreFrom : ByteArray := prog_9_method_32_code
def yX7_restoreFrom : MethodName := ⟨RX7, "restoreFrom", "([I)V"⟩
abbrev cX7_copyFrom : ByteArray := prog_9_method_33_code
def yX7_copyFrom : MethodName := ⟨RX7, "copyFrom", "(LUntilHeConfesses$Stage;)V"⟩
def RX8 : String := "UntilHeConfesses$Tape"
def TX8 : u_T := fun k => match k with
  | 0 => ("UntilHeConfesses$Tape", "bytes", "[I", true)
  | 1 => ("UntilHeConfesses$Tape", "size", "I", false)
  | 2 => ("UntilHeConfesses$Tape", "kinds", "[I", true)
  | 3 => ("UntilHeConfesses$Tape", "starts", "[I", true)
  | 4 => ("UntilHeConfesses$Tape", "lengths", "[I", true)
  | 5 => ("UntilHeConfesses$Tape", "values", "[I", true)
  | _ => ("UntilHeConfesses$Tape", "tokens", "I", false)
def tyX8 : Nat → FieldType := fun k => match k with
  | 0 => .array .int
  | 1 => .int
  | 2 => .array .int
  | 3 => .array .int
  | 4 => .array .int
  | 5 => .array .int
  | _ => .int
abbrev wsX80 : List Cond := u_ws RX8 TX8 7
theorem nmX8 : ∀ a, a < 7 → ∀ b, b < 7 → a ≠ b → (TX8 a).2.1 ≠ (TX8 b).2.1 := by decide +kernel
theorem tyX8_ok : ∀ k, k < 7 → parseFieldDescriptor (TX8 k).2.2.1 = some (tyX8 k) := by decide +kernel
abbrev cX8_init : ByteArray := prog_10_method_1_code
def yX8_init : MethodName := ⟨RX8, "<init>", "()V"⟩
abbrev cX8_hasRoom : ByteArray := prog_10_method_2_code
def yX8_hasRoom : MethodName := ⟨RX8, "hasRoom", "(I)Z"⟩
abbrev cX8_addFour : ByteArray := prog_10_method_3_code
def yX8_addFour : MethodName := ⟨RX8, "addFour", "(I)V"⟩
abbrev cX8_split : ByteArray := prog_10_method_4_code
def yX8_split : MethodName := ⟨RX8, "split", "()V"⟩
abbrev cX8_goesOn : ByteArray := prog_10_method_5_code
def yX8_goesOn : MethodName := ⟨RX8, "goesOn", "(I)Z"⟩
abbrev cX8_startToken : ByteArray := prog_10_method_6_code
def yX8_startToken : MethodName := ⟨RX8, "startToken", "(I)V"⟩
abbrev cX8_nameToken : ByteArray := prog_10_method_7_code
def yX8_nameToken : MethodName := ⟨RX8, "nameToken", "(I)V"⟩
abbrev cX8_numberAt : ByteArray := prog_10_method_8_code
def yX8_numberAt : MethodName := ⟨RX8, "numberAt", "(II)I"⟩
abbrev cX8_wordKind : ByteArray := prog_10_method_9_code
def yX8_wordKind : MethodName := ⟨RX8, "wordKind", "(II)I"⟩
abbrev cX8_isWord : ByteArray := prog_10_method_10_code
def yX8_isWord : MethodName := ⟨RX8, "isWord", "(Ljava/lang/String;II)Z"⟩
abbrev cX8_isBlank : ByteArray := prog_10_method_11_code
def yX8_isBlank : MethodName := ⟨RX8, "isBlank", "(I)Z"⟩
abbrev cX8_isDigit : ByteArray := prog_10_method_12_code
def yX8_isDigit : MethodName := ⟨RX8, "isDigit", "(I)Z"⟩
abbrev cX8_isLetter : ByteArray := prog_10_method_13_code
def yX8_isLetter : MethodName := ⟨RX8, "isLetter", "(I)Z"⟩
abbrev cX8_markKind : ByteArray := prog_10_method_14_code
def yX8_markKind : MethodName := ⟨RX8, "markKind", "(I)I"⟩
abbrev cX8_spelling : ByteArray := prog_10_method_15_code
def yX8_spelling : MethodName := ⟨RX8, "spelling", "(I)Ljava/lang/String;"⟩
def RX9 : String := "UntilHeConfesses$Text"
def TX9 : u_T := fun k => match k with
  | 0 => ("UntilHeConfesses$Text", "code", "[I", true)
  | 1 => ("UntilHeConfesses$Text", "lawFrom", "[I", true)
  | 2 => ("UntilHeConfesses$Text", "lawTill", "[I", true)
  | 3 => ("UntilHeConfesses$Text", "clauses", "I", true)
  | 4 => ("UntilHeConfesses$Text", "kinds", "[I", true)
  | 5 => ("UntilHeConfesses$Text", "firsts", "[I", true)
  | _ => ("UntilHeConfesses$Text", "seconds", "[I", true)
def tyX9 : Nat → FieldType := fun k => match k with
  | 0 => .array .int
  | 1 => .array .int
  | 2 => .array .int
  | 3 => .int
  | 4 => .array .int
  | 5 => .array .int
  | _ => .array .int
abbrev wsX90 : List Cond := u_ws RX9 TX9 7
theorem nmX9 : ∀ a, a < 7 → ∀ b, b < 7 → a ≠ b → (TX9 a).2.1 ≠ (TX9 b).2.1 := by decide +kernel
theorem tyX9_ok : ∀ k, k < 7 → parseFieldDescriptor (TX9 k).2.2.1 = some (tyX9 k) := by decide +kernel
abbrev cX9_init : ByteArray := prog_11_method_1_code
def yX9_init : MethodName := ⟨RX9, "<init>", "(II)V"⟩
abbrev cX9_hasLaw : ByteArray := prog_11_method_2_code
def yX9_hasLaw : MethodName := ⟨RX9, "hasLaw", "(I)Z"⟩
def RX10 : String := "UntilHeConfesses$Witnesses"
def TX10 : u_T := fun k => match k with
  | 0 => ("UntilHeConfesses$Witnesses", "stage", "LUntilHeConfesses$Stage;", true)
  | 1 => ("UntilHeConfesses$Witnesses", "notes", "LUntilHeConfesses$Notes;", true)
  | 2 => ("UntilHeConfesses$Witnesses", "members", "[I", true)
  | 3 => ("UntilHeConfesses$Witnesses", "places", "[I", true)
  | 4 => ("UntilHeConfesses$Witnesses", "row", "[I", true)
  | 5 => ("UntilHeConfesses$Witnesses", "trial", "[I", true)
  | _ => ("UntilHeConfesses$Witnesses", "kept", "[I", true)
def tyX10 : Nat → FieldType := fun k => match k with
  | 0 => .object "UntilHeConfesses$Stage"
  | 1 => .object "UntilHeConfesses$Notes"
  | 2 => .array .int
  | 3 => .array .int
  | 4 => .array .int
  | 5 => .array .int
  | _ => .array .int
abbrev wsX100 : List Cond := u_ws RX10 TX10 7
theorem nmX10 : ∀ a, a < 7 → ∀ b, b < 7 → a ≠ b → (TX10 a).2.1 ≠ (TX10 b).2.1 := by decide +kernel
theorem tyX10_ok : ∀ k, k < 7 → parseFieldDescriptor (TX10 k).2.2.1 = some (tyX10 k) := by decide +kernel
abbrev cX10_init : ByteArray := prog_12_method_1_code
def yX10_init : MethodName := ⟨RX10, "<init>", "(LUntilHeConfesses$House;)V"⟩
abbrev cX10_faces : ByteArray := prog_12_method_2_code
def yX10_faces : MethodName := ⟨RX10, "faces", "(II)Z"⟩
abbrev cX10_pairsAsNow : ByteArray := prog_12_method_3_code
def yX10_pairsAsNow : MethodName := ⟨RX10, "pairsAsNow", "()I"⟩
abbrev cX10_pairsOn : ByteArray := prog_12_method_4_code
def yX10_pairsOn : MethodName := ⟨RX10, "pairsOn", "([I)I"⟩
abbrev cX10_facedFrom : ByteArray := prog_12_method_5_code
def yX10_facedFrom : MethodName := ⟨RX10, "facedFrom", "(II)I"⟩
abbrev cX10_lonelyOnes : ByteArray := prog_12_method_6_code
def yX10_lonelyOnes : MethodName := ⟨RX10, "lonelyOnes", "()I"⟩
abbrev cX10_seatFacingMost : ByteArray := prog_12_method_7_code
def yX10_seatFacingMost : MethodName := ⟨RX10, "seatFacingMost", "(IZ)I"⟩
abbrev cX10_seatInBestSeating : ByteArray := prog_12_method_8_code
def yX10_seatInBestSeating : MethodName := ⟨RX10, "seatInBestSeating", "(II)I"⟩
abbrev cX10_pairsOfBestSeating : ByteArray := prog_12_method_9_code
def yX10_pairsOfBestSeating : MethodName := ⟨RX10, "pairsOfBestSeating", "(I)I"⟩
abbrev cX10_sortPlaces : ByteArray := prog_12_method_10_code
def yX10_sortPlaces : MethodName := ⟨RX10, "sortPlaces", "(I)V"⟩
abbrev cX10_sittingsByTorn : ByteArray := prog_12_method_11_code
def yX10_sittingsByTorn : MethodName := ⟨RX10, "sittingsByTorn", "(Z)I"⟩
abbrev cX10_fitsTorn : ByteArray := prog_12_method_12_code
def yX10_fitsTorn : MethodName := ⟨RX10, "fitsTorn", "()Z"⟩
abbrev cX10_sameAsKept : ByteArray := prog_12_method_13_code
def yX10_sameAsKept : MethodName := ⟨RX10, "sameAsKept", "(I)I"⟩
def RX11 : String := "UntilHeConfesses"
def TX11 : u_T := fun k => match k with
  | 0 => ("UntilHeConfesses", "house", "LUntilHeConfesses$House;", true)
  | 1 => ("UntilHeConfesses", "imageOfHouse", "LUntilHeConfesses$House;", true)
  | 2 => ("UntilHeConfesses", "tape", "LUntilHeConfesses$Tape;", true)
  | 3 => ("UntilHeConfesses", "reader", "LUntilHeConfesses$Reader;", true)
  | 4 => ("UntilHeConfesses", "laws", "LUntilHeConfesses$Laws;", true)
  | 5 => ("UntilHeConfesses", "play", "LUntilHeConfesses$Play;", true)
  | 6 => ("UntilHeConfesses", "belief", "LUntilHeConfesses$Belief;", true)
  | 7 => ("UntilHeConfesses", "plans", "LUntilHeConfesses$Plans;", true)
  | _ => ("UntilHeConfesses", "witnesses", "LUntilHeConfesses$Witnesses;", true)
def tyX11 : Nat → FieldType := fun k => match k with
  | 0 => .object "UntilHeConfesses$House"
  | 1 => .object "UntilHeConfesses$House"
  | 2 => .object "UntilHeConfesses$Tape"
  | 3 => .object "UntilHeConfesses$Reader"
  | 4 => .object "UntilHeConfesses$Laws"
  | 5 => .object "UntilHeConfesses$Play"
  | 6 => .object "UntilHeConfesses$Belief"
  | 7 => .object "UntilHeConfesses$Plans"
  | _ => .object "UntilHeConfesses$Witnesses"
abbrev wsX110 : List Cond := u_ws RX11 TX11 9
theorem nmX11 : ∀ a, a < 9 → ∀ b, b < 9 → a ≠ b → (TX11 a).2.1 ≠ (TX11 b).2.1 := by decide +kernel
theorem tyX11_ok : ∀ k, k < 9 → parseFieldDescriptor (TX11 k).2.2.1 = some (tyX11 k) := by decide +kernel
abbrev cX11_init : ByteArray := prog_1_method_1_code
def yX11_init : MethodName := ⟨RX11, "<init>", "()V"⟩
abbrev cX11_suspect : ByteArray := prog_1_method_2_code
def yX11_suspect : MethodName := ⟨RX11, "suspect", "(ZII)I"⟩
abbrev cX11_scene : ByteArray := prog_1_method_3_code
def yX11_scene : MethodName := ⟨RX11, "scene", "(II)I"⟩
abbrev cX11_feed : ByteArray := prog_1_method_4_code
def yX11_feed : MethodName := ⟨RX11, "feed", "(IIIII)I"⟩
abbrev cX11_end : ByteArray := prog_1_method_5_code
def yX11_end : MethodName := ⟨RX11, "end", "(I)I"⟩
abbrev cX11_text : ByteArray := prog_1_method_6_code
def yX11_text : MethodName := ⟨RX11, "text", "()I"⟩
abbrev cX11_fault : ByteArray := prog_1_method_7_code
def yX11_fault : MethodName := ⟨RX11, "fault", "(I)I"⟩
abbrev cX11_by : ByteArray := prog_1_method_8_code
def yX11_by : MethodName := ⟨RX11, "by", "(I)Z"⟩
abbrev cX11_cut : ByteArray := prog_1_method_9_code
def yX11_cut : MethodName := ⟨RX11, "cut", "(I)I"⟩
abbrev cX11_encore : ByteArray := prog_1_method_10_code
def yX11_encore : MethodName := ⟨RX11, "encore", "(I)Z"⟩
abbrev cX11_away : ByteArray := prog_1_method_11_code
def yX11_away : MethodName := ⟨RX11, "away", "(I)I"⟩
abbrev cX11_seat : ByteArray := prog_1_method_12_code
def yX11_seat : MethodName := ⟨RX11, "seat", "(II)Z"⟩
abbrev cX11_night : ByteArray := prog_1_method_13_code
def yX11_night : MethodName := ⟨RX11, "night", "(I)I"⟩
abbrev cX11_played : ByteArray := prog_1_method_14_code
def yX11_played : MethodName := ⟨RX11, "played", "(I)I"⟩
abbrev cX11_seasons : ByteArray := prog_1_method_15_code
def yX11_seasons : MethodName := ⟨RX11, "seasons", "(II)I"⟩
abbrev cX11_undo : ByteArray := prog_1_method_16_code
def yX11_undo : MethodName := ⟨RX11, "undo", "()I"⟩
abbrev cX11_ofSuspect : ByteArray := prog_1_method_17_code
def yX11_ofSuspect : MethodName := ⟨RX11, "ofSuspect", "(II)I"⟩
abbrev cX11_ofScene : ByteArray := prog_1_method_18_code
def yX11_ofScene : MethodName := ⟨RX11, "ofScene", "(II)I"⟩
abbrev cX11_is : ByteArray := prog_1_method_19_code
def yX11_is : MethodName := ⟨RX11, "is", "(I)I"⟩
abbrev cX11_book : ByteArray := prog_1_method_20_code
def yX11_book : MethodName := ⟨RX11, "book", "(II)I"⟩
abbrev cX11_odds : ByteArray := prog_1_method_21_code
def yX11_odds : MethodName := ⟨RX11, "odds", "(IIZ)I"⟩
abbrev cX11_weight : ByteArray := prog_1_method_22_code
def yX11_weight : MethodName := ⟨RX11, "weight", "(II)Z"⟩
abbrev cX11_observe : ByteArray := prog_1_method_23_code
def yX11_observe : MethodName := ⟨RX11, "observe", "(IIZ)I"⟩
abbrev cX11_share : ByteArray := prog_1_method_24_code
def yX11_share : MethodName := ⟨RX11, "share", "(IZ)J"⟩
abbrev cX11_tellsMost : ByteArray := prog_1_method_25_code
def yX11_tellsMost : MethodName := ⟨RX11, "tellsMost", "()I"⟩
abbrev cX11_guess : ByteArray := prog_1_method_26_code
def yX11_guess : MethodName := ⟨RX11, "guess", "()I"⟩
abbrev cX11_both : ByteArray := prog_1_method_27_code
def yX11_both : MethodName := ⟨RX11, "both", "(IIZ)J"⟩
abbrev cX11_foretold : ByteArray := prog_1_method_28_code
def yX11_foretold : MethodName := ⟨RX11, "foretold", "(II)I"⟩
abbrev cX11_habit : ByteArray := prog_1_method_29_code
def yX11_habit : MethodName := ⟨RX11, "habit", "(II)I"⟩
abbrev cX11_firstSign : ByteArray := prog_1_method_30_code
def yX11_firstSign : MethodName := ⟨RX11, "firstSign", "(I)I"⟩
abbrev cX11_order : ByteArray := prog_1_method_31_code
def yX11_order : MethodName := ⟨RX11, "order", "(III)I"⟩
abbrev cX11_unseen : ByteArray := prog_1_method_32_code
def yX11_unseen : MethodName := ⟨RX11, "unseen", "(IZ)J"⟩
abbrev cX11_risk : ByteArray := prog_1_method_33_code
def yX11_risk : MethodName := ⟨RX11, "risk", "(II)Z"⟩
abbrev cX11_staysAway : ByteArray := prog_1_method_34_code
def yX11_staysAway : MethodName := ⟨RX11, "staysAway", "(IIII)J"⟩
abbrev cX11_toRun : ByteArray := prog_1_method_35_code
def yX11_toRun : MethodName := ⟨RX11, "toRun", "(IIIII)J"⟩
abbrev cX11_cuts : ByteArray := prog_1_method_36_code
def yX11_cuts : MethodName := ⟨RX11, "cuts", "(I)I"⟩
abbrev cX11_lasts : ByteArray := prog_1_method_37_code
def yX11_lasts : MethodName := ⟨RX11, "lasts", "()I"⟩
abbrev cX11_ahead : ByteArray := prog_1_method_38_code
def yX11_ahead : MethodName := ⟨RX11, "ahead", "(II)I"⟩
abbrev cX11_orders : ByteArray := prog_1_method_39_code
def yX11_orders : MethodName := ⟨RX11, "orders", "()I"⟩
abbrev cX11_facing : ByteArray := prog_1_method_40_code
def yX11_facing : MethodName := ⟨RX11, "facing", "()I"⟩
abbrev cX11_seating : ByteArray := prog_1_method_41_code
def yX11_seating : MethodName := ⟨RX11, "seating", "(II)I"⟩
abbrev cX11_lonely : ByteArray := prog_1_method_42_code
def yX11_lonely : MethodName := ⟨RX11, "lonely", "()I"⟩
abbrev cX11_bestSeat : ByteArray := prog_1_method_43_code
def yX11_bestSeat : MethodName := ⟨RX11, "bestSeat", "(IZ)I"⟩
abbrev cX11_worth : ByteArray := prog_1_method_44_code
def yX11_worth : MethodName := ⟨RX11, "worth", "()I"⟩
abbrev cX11_torn : ByteArray := prog_1_method_45_code
def yX11_torn : MethodName := ⟨RX11, "torn", "(IIZ)I"⟩
abbrev cX11_sittings : ByteArray := prog_1_method_46_code
def yX11_sittings : MethodName := ⟨RX11, "sittings", "(Z)I"⟩
abbrev cX11_claque : ByteArray := prog_1_method_47_code
def yX11_claque : MethodName := ⟨RX11, "claque", "(IIZ)J"⟩
abbrev cX11_sign : ByteArray := prog_1_method_48_code
def yX11_sign : MethodName := ⟨RX11, "sign", "(III)I"⟩
abbrev cX11_whose : ByteArray := prog_1_method_49_code
def yX11_whose : MethodName := ⟨RX11, "whose", "()I"⟩
abbrev cX11_signs : ByteArray := prog_1_method_50_code
def yX11_signs : MethodName := ⟨RX11, "signs", "(II)I"⟩
abbrev cX11_crying : ByteArray := prog_1_method_51_code
def yX11_crying : MethodName := ⟨RX11, "crying", "()I"⟩
abbrev cX11_empty : ByteArray := prog_1_method_52_code
def yX11_empty : MethodName := ⟨RX11, "empty", "(I)I"⟩
abbrev cX11_hottest : ByteArray := prog_1_method_53_code
def yX11_hottest : MethodName := ⟨RX11, "hottest", "()I"⟩
abbrev cX11_suspected : ByteArray := prog_1_method_54_code
def yX11_suspected : MethodName := ⟨RX11, "suspected", "()I"⟩
abbrev cX11_falseSigns : ByteArray := prog_1_method_55_code
def yX11_falseSigns : MethodName := ⟨RX11, "falseSigns", "()I"⟩
abbrev cX11_image : ByteArray := prog_1_method_56_code
def yX11_image : MethodName := ⟨RX11, "image", "()I"⟩
abbrev cX11_back : ByteArray := prog_1_method_57_code
def yX11_back : MethodName := ⟨RX11, "back", "()I"⟩
abbrev cX11_about : ByteArray := prog_1_method_58_code
def yX11_about : MethodName := ⟨RX11, "about", "(I)I"⟩
abbrev cX11_hasBit : ByteArray := prog_1_method_59_code
def yX11_hasBit : MethodName := ⟨RX11, "hasBit", "(II)Z"⟩
abbrev cX11_countBits : ByteArray := prog_1_method_60_code
def yX11_countBits : MethodName := ⟨RX11, "countBits", "(I)I"⟩
abbrev cX11_isSet : ByteArray := prog_1_method_61_code
def yX11_isSet : MethodName := ⟨RX11, "isSet", "(II)Z"⟩
abbrev cX11_membersOf : ByteArray := prog_1_method_62_code
def yX11_membersOf : MethodName := ⟨RX11, "membersOf", "(I[I)I"⟩
abbrev cX11_within : ByteArray := prog_1_method_63_code
def yX11_within : MethodName := ⟨RX11, "within", "(III)I"⟩
abbrev cX11_power : ByteArray := prog_1_method_64_code
def yX11_power : MethodName := ⟨RX11, "power", "(JI)J"⟩
abbrev cX11_lowestTerms : ByteArray := prog_1_method_65_code
def yX11_lowestTerms : MethodName := ⟨RX11, "lowestTerms", "(JJZ)J"⟩
abbrev cX11_nextOrder : ByteArray := prog_1_method_66_code
def yX11_nextOrder : MethodName := ⟨RX11, "nextOrder", "([II)Z"⟩
abbrev cX11_swap : ByteArray := prog_1_method_67_code
def yX11_swap : MethodName := ⟨RX11, "swap", "([III)V"⟩
abbrev cX11_copyRow : ByteArray := prog_1_method_68_code
def yX11_copyRow : MethodName := ⟨RX11, "copyRow", "([I[I)V"⟩
def RX12 : String := "UntilHeConfessesModel"
def TX12 : u_T := fun k => match k with
  | 0 => ("UntilHeConfessesModel", "a", "[I", true)
  | 1 => ("UntilHeConfessesModel", "image", "[I", true)
  | 2 => ("UntilHeConfessesModel", "texts", "[I", true)
  | 3 => ("UntilHeConfessesModel", "tape", "[I", true)
  | 4 => ("UntilHeConfessesModel", "taped", "I", false)
  | 5 => ("UntilHeConfessesModel", "fault", "I", false)
  | 6 => ("UntilHeConfessesModel", "faultPlace", "I", false)
  | 7 => ("UntilHeConfessesModel", "at", "I", false)
  | 8 => ("UntilHeConfessesModel", "place", "I", false)
  | 9 => ("UntilHeConfessesModel", "token", "I", false)
  | 10 => ("UntilHeConfessesModel", "number", "I", false)
  | 11 => ("UntilHeConfessesModel", "word", "J", false)
  | 12 => ("UntilHeConfessesModel", "text0", "I", false)
  | 13 => ("UntilHeConfessesModel", "written", "I", false)
  | 14 => ("UntilHeConfessesModel", "sort0", "I", false)
  | 15 => ("UntilHeConfessesModel", "pile", "[I", true)
  | 16 => ("UntilHeConfessesModel", "piled", "I", false)
  | 17 => ("UntilHeConfessesModel", "opens", "I", false)
  | 18 => ("UntilHeConfessesModel", "isWhole", "Z", false)
  | 19 => ("UntilHeConfessesModel", "once", "I", false)
  | 20 => ("UntilHeConfessesModel", "named", "[I", true)
  | 21 => ("UntilHeConfessesModel", "values", "[J", true)
  | 22 => ("UntilHeConfessesModel", "isWritten", "Z", false)
  | 23 => ("UntilHeConfessesModel", "signsNow", "I", false)
  | 24 => ("UntilHeConfessesModel", "signers", "I", false)
  | 25 => ("UntilHeConfessesModel", "aside", "[I", true)
  | 26 => ("UntilHeConfessesModel", "member", "[I", true)
  | 27 => ("UntilHeConfessesModel", "row", "[I", true)
  | 28 => ("UntilHeConfessesModel", "best", "[I", true)
  | 29 => ("UntilHeConfessesModel", "rows", "[I", true)
  | 30 => ("UntilHeConfessesModel", "seats", "[I", true)
  | _ => ("UntilHeConfessesModel", "sorted", "[I", true)
def tyX12 : Nat → FieldType := fun k => match k with
  | 0 => .array .int
  | 1 => .array .int
  | 2 => .array .int
  | 3 => .array .int
  | 4 => .int
  | 5 => .int
  | 6 => .int
  | 7 => .int
  | 8 => .int
  | 9 => .int
  | 10 => .int
  | 11 => .long
  | 12 => .int
  | 13 => .int
  | 14 => .int
  | 15 => .array .int
  | 16 => .int
  | 17 => .int
  | 18 => .boolean
  | 19 => .int
  | 20 => .array .int
  | 21 => .array .long
  | 22 => .boolean
  | 23 => .int
  | 24 => .int
  | 25 => .array .int
  | 26 => .array .int
  | 27 => .array .int
  | 28 => .array .int
  | 29 => .array .int
  | 30 => .array .int
  | _ => .array .int
abbrev wsX120 : List Cond := u_ws RX12 TX12 32
theorem nmX12 : ∀ a, a < 32 → ∀ b, b < 32 → a ≠ b → (TX12 a).2.1 ≠ (TX12 b).2.1 := by decide +kernel
theorem tyX12_ok : ∀ k, k < 32 → parseFieldDescriptor (TX12 k).2.2.1 = some (tyX12 k) := by decide +kernel
abbrev cX12_init : ByteArray := prog_14_method_1_code
def yX12_init : MethodName := ⟨RX12, "<init>", "()V"⟩
abbrev cX12_copy : ByteArray := prog_14_method_2_code
def yX12_copy : MethodName := ⟨RX12, "copy", "([I[I)V"⟩
abbrev cX12_isIn : ByteArray := prog_14_method_3_code
def yX12_isIn : MethodName := ⟨RX12, "isIn", "(III)Z"⟩
abbrev cX12_bounded : ByteArray := prog_14_method_4_code
def yX12_bounded : MethodName := ⟨RX12, "bounded", "(JII)I"⟩
abbrev cX12_has : ByteArray := prog_14_method_5_code
def yX12_has : MethodName := ⟨RX12, "has", "(II)Z"⟩
abbrev cX12_bits : ByteArray := prog_14_method_6_code
def yX12_bits : MethodName := ⟨RX12, "bits", "(I)I"⟩
abbrev cX12_size : ByteArray := prog_14_method_7_code
def yX12_size : MethodName := ⟨RX12, "size", "(I)I"⟩
abbrev cX12_isSuspect : ByteArray := prog_14_method_8_code
def yX12_isSuspect : MethodName := ⟨RX12, "isSuspect", "(I)Z"⟩
abbrev cX12_isScene : ByteArray := prog_14_method_9_code
def yX12_isScene : MethodName := ⟨RX12, "isScene", "(I)Z"⟩
abbrev cX12_get : ByteArray := prog_14_method_10_code
def yX12_get : MethodName := ⟨RX12, "get", "(II)I"⟩
abbrev cX12_put : ByteArray := prog_14_method_11_code
def yX12_put : MethodName := ⟨RX12, "put", "(III)V"⟩
abbrev cX12_of : ByteArray := prog_14_method_12_code
def yX12_of : MethodName := ⟨RX12, "of", "(II)I"⟩
abbrev cX12_lay : ByteArray := prog_14_method_13_code
def yX12_lay : MethodName := ⟨RX12, "lay", "(III)V"⟩
abbrev cX12_isFree : ByteArray := prog_14_method_14_code
def yX12_isFree : MethodName := ⟨RX12, "isFree", "(I)Z"⟩
abbrev cX12_suspect : ByteArray := prog_14_method_15_code
def yX12_suspect : MethodName := ⟨RX12, "suspect", "(ZII)I"⟩
abbrev cX12_scene : ByteArray := prog_14_method_16_code
def yX12_scene : MethodName := ⟨RX12, "scene", "(II)I"⟩
abbrev cX12_four : ByteArray := prog_14_method_17_code
def yX12_four : MethodName := ⟨RX12, "four", "(I)V"⟩
abbrev cX12_feed : ByteArray := prog_14_method_18_code
def yX12_feed : MethodName := ⟨RX12, "feed", "(IIIII)I"⟩
abbrev cX12_end : ByteArray := prog_14_method_19_code
def yX12_end : MethodName := ⟨RX12, "end", "(I)I"⟩
abbrev cX12_byteAt : ByteArray := prog_14_method_20_code
def yX12_byteAt : MethodName := ⟨RX12, "byteAt", "(I)I"⟩
abbrev cX12_isLetterByte : ByteArray := prog_14_method_21_code
def yX12_isLetterByte : MethodName := ⟨RX12, "isLetterByte", "(I)Z"⟩
abbrev cX12_isFigure : ByteArray := prog_14_method_22_code
def yX12_isFigure : MethodName := ⟨RX12, "isFigure", "(I)Z"⟩
abbrev cX12_isSign : ByteArray := prog_14_method_23_code
def yX12_isSign : MethodName := ⟨RX12, "isSign", "(I)Z"⟩
abbrev cX12_nextToken : ByteArray := prog_14_method_24_code
def yX12_nextToken : MethodName := ⟨RX12, "nextToken", "()V"⟩
abbrev cX12_w2 : ByteArray := prog_14_method_25_code
def yX12_w2 : MethodName := ⟨RX12, "w2", "(II)J"⟩
abbrev cX12_w3 : ByteArray := prog_14_method_26_code
def yX12_w3 : MethodName := ⟨RX12, "w3", "(III)J"⟩
abbrev cX12_w4 : ByteArray := prog_14_method_27_code
def yX12_w4 : MethodName := ⟨RX12, "w4", "(IIII)J"⟩
abbrev cX12_w5 : ByteArray := prog_14_method_28_code
def yX12_w5 : MethodName := ⟨RX12, "w5", "(IIIII)J"⟩
abbrev cX12_w6 : ByteArray := prog_14_method_29_code
def yX12_w6 : MethodName := ⟨RX12, "w6", "(IIIIII)J"⟩
abbrev cX12_isWord : ByteArray := prog_14_method_30_code
def yX12_isWord : MethodName := ⟨RX12, "isWord", "(J)Z"⟩
abbrev cX12_emit : ByteArray := prog_14_method_31_code
def yX12_emit : MethodName := ⟨RX12, "emit", "(II)V"⟩
abbrev cX12_isLong : ByteArray := prog_14_method_32_code
def yX12_isLong : MethodName := ⟨RX12, "isLong", "(JJI)Z"⟩
abbrev cX12_nameOf : ByteArray := prog_14_method_33_code
def yX12_nameOf : MethodName := ⟨RX12, "nameOf", "()I"⟩
abbrev cX12_isTotalling : ByteArray := prog_14_method_34_code
def yX12_isTotalling : MethodName := ⟨RX12, "isTotalling", "()Z"⟩
abbrev cX12_isOf : ByteArray := prog_14_method_35_code
def yX12_isOf : MethodName := ⟨RX12, "isOf", "(I)Z"⟩
abbrev cX12_rank : ByteArray := prog_14_method_36_code
def yX12_rank : MethodName := ⟨RX12, "rank", "(I)I"⟩
abbrev cX12_settle : ByteArray := prog_14_method_37_code
def yX12_settle : MethodName := ⟨RX12, "settle", "(I)V"⟩
abbrev cX12_isOpen : ByteArray := prog_14_method_38_code
def yX12_isOpen : MethodName := ⟨RX12, "isOpen", "()Z"⟩
abbrev cX12_opened : ByteArray := prog_14_method_39_code
def yX12_opened : MethodName := ⟨RX12, "opened", "(I)I"⟩
abbrev cX12_beginOne : ByteArray := prog_14_method_40_code
def yX12_beginOne : MethodName := ⟨RX12, "beginOne", "()I"⟩
abbrev cX12_behindOne : ByteArray := prog_14_method_41_code
def yX12_behindOne : MethodName := ⟨RX12, "behindOne", "()Z"⟩
abbrev cX12_summed : ByteArray := prog_14_method_42_code
def yX12_summed : MethodName := ⟨RX12, "summed", "()I"⟩
abbrev cX12_figure : ByteArray := prog_14_method_43_code
def yX12_figure : MethodName := ⟨RX12, "figure", "(III)I"⟩
abbrev cX12_lawClause : ByteArray := prog_14_method_44_code
def yX12_lawClause : MethodName := ⟨RX12, "lawClause", "(I)I"⟩
abbrev cX12_pair : ByteArray := prog_14_method_45_code
def yX12_pair : MethodName := ⟨RX12, "pair", "(IIJII)I"⟩
abbrev cX12_body : ByteArray := prog_14_method_46_code
def yX12_body : MethodName := ⟨RX12, "body", "(II)I"⟩
abbrev cX12_sortOf : ByteArray := prog_14_method_47_code
def yX12_sortOf : MethodName := ⟨RX12, "sortOf", "()I"⟩
abbrev cX12_clause : ByteArray := prog_14_method_48_code
def yX12_clause : MethodName := ⟨RX12, "clause", "()I"⟩
abbrev cX12_readText : ByteArray := prog_14_method_49_code
def yX12_readText : MethodName := ⟨RX12, "readText", "()I"⟩
abbrev cX12_text : ByteArray := prog_14_method_50_code
def yX12_text : MethodName := ⟨RX12, "text", "()I"⟩
abbrev cX12_fault : ByteArray := prog_14_method_51_code
def yX12_fault : MethodName := ⟨RX12, "fault", "(I)I"⟩
abbrev cX12_by : ByteArray := prog_14_method_52_code
def yX12_by : MethodName := ⟨RX12, "by", "(I)Z"⟩
abbrev cX12_held : ByteArray := prog_14_method_53_code
def yX12_held : MethodName := ⟨RX12, "held", "(J)J"⟩
abbrev cX12_two : ByteArray := prog_14_method_54_code
def yX12_two : MethodName := ⟨RX12, "two", "(IJJ)J"⟩
abbrev cX12_worked : ByteArray := prog_14_method_55_code
def yX12_worked : MethodName := ⟨RX12, "worked", "(II)J"⟩
abbrev cX12_says : ByteArray := prog_14_method_56_code
def yX12_says : MethodName := ⟨RX12, "says", "(IIII)I"⟩
abbrev cX12_name : ByteArray := prog_14_method_57_code
def yX12_name : MethodName := ⟨RX12, "name", "(I)V"⟩
abbrev cX12_oddsOf : ByteArray := prog_14_method_58_code
def yX12_oddsOf : MethodName := ⟨RX12, "oddsOf", "(IIIZ)I"⟩
abbrev cX12_paysOf : ByteArray := prog_14_method_59_code
def yX12_paysOf : MethodName := ⟨RX12, "paysOf", "(I)I"⟩
abbrev cX12_drawn : ByteArray := prog_14_method_60_code
def yX12_drawn : MethodName := ⟨RX12, "drawn", "(I)I"⟩
abbrev cX12_anew : ByteArray := prog_14_method_61_code
def yX12_anew : MethodName := ⟨RX12, "anew", "()V"⟩
abbrev cX12_write : ByteArray := prog_14_method_62_code
def yX12_write : MethodName := ⟨RX12, "write", "(II)V"⟩
abbrev cX12_give : ByteArray := prog_14_method_63_code
def yX12_give : MethodName := ⟨RX12, "give", "(I)V"⟩
abbrev cX12_pass : ByteArray := prog_14_method_64_code
def yX12_pass : MethodName := ⟨RX12, "pass", "()V"⟩
abbrev cX12_keep : ByteArray := prog_14_method_65_code
def yX12_keep : MethodName := ⟨RX12, "keep", "()V"⟩
abbrev cX12_undo : ByteArray := prog_14_method_66_code
def yX12_undo : MethodName := ⟨RX12, "undo", "()I"⟩
abbrev cX12_given : ByteArray := prog_14_method_67_code
def yX12_given : MethodName := ⟨RX12, "given", "()I"⟩
abbrev cX12_cut : ByteArray := prog_14_method_68_code
def yX12_cut : MethodName := ⟨RX12, "cut", "(I)I"⟩
abbrev cX12_canEncore : ByteArray := prog_14_method_69_code
def yX12_canEncore : MethodName := ⟨RX12, "canEncore", "(I)Z"⟩
abbrev cX12_encore : ByteArray := prog_14_method_70_code
def yX12_encore : MethodName := ⟨RX12, "encore", "(I)Z"⟩
abbrev cX12_away : ByteArray := prog_14_method_71_code
def yX12_away : MethodName := ⟨RX12, "away", "(I)I"⟩
abbrev cX12_seat : ByteArray := prog_14_method_72_code
def yX12_seat : MethodName := ⟨RX12, "seat", "(II)Z"⟩
abbrev cX12_arePassed : ByteArray := prog_14_method_73_code
def yX12_arePassed : MethodName := ⟨RX12, "arePassed", "(I)Z"⟩
abbrev cX12_night : ByteArray := prog_14_method_74_code
def yX12_night : MethodName := ⟨RX12, "night", "(I)I"⟩
abbrev cX12_isPlayed : ByteArray := prog_14_method_75_code
def yX12_isPlayed : MethodName := ⟨RX12, "isPlayed", "(I)Z"⟩
abbrev cX12_played : ByteArray := prog_14_method_76_code
def yX12_played : MethodName := ⟨RX12, "played", "(I)I"⟩
abbrev cX12_happens : ByteArray := prog_14_method_77_code
def yX12_happens : MethodName := ⟨RX12, "happens", "(I)V"⟩
abbrev cX12_seasons : ByteArray := prog_14_method_78_code
def yX12_seasons : MethodName := ⟨RX12, "seasons", "(II)I"⟩
abbrev cX12_ofSuspect : ByteArray := prog_14_method_79_code
def yX12_ofSuspect : MethodName := ⟨RX12, "ofSuspect", "(II)I"⟩
abbrev cX12_ofScene : ByteArray := prog_14_method_80_code
def yX12_ofScene : MethodName := ⟨RX12, "ofScene", "(II)I"⟩
abbrev cX12_is : ByteArray := prog_14_method_81_code
def yX12_is : MethodName := ⟨RX12, "is", "(I)I"⟩
abbrev cX12_entry : ByteArray := prog_14_method_82_code
def yX12_entry : MethodName := ⟨RX12, "entry", "(II)I"⟩
abbrev cX12_book : ByteArray := prog_14_method_83_code
def yX12_book : MethodName := ⟨RX12, "book", "(II)I"⟩
abbrev cX12_odds : ByteArray := prog_14_method_84_code
def yX12_odds : MethodName := ⟨RX12, "odds", "(IIZ)I"⟩
abbrev cX12_signsOf : ByteArray := prog_14_method_85_code
def yX12_signsOf : MethodName := ⟨RX12, "signsOf", "(II)I"⟩
abbrev cX12_signs : ByteArray := prog_14_method_86_code
def yX12_signs : MethodName := ⟨RX12, "signs", "(II)I"⟩
abbrev cX12_crying : ByteArray := prog_14_method_87_code
def yX12_crying : MethodName := ⟨RX12, "crying", "()I"⟩
abbrev cX12_falseSigns : ByteArray := prog_14_method_88_code
def yX12_falseSigns : MethodName := ⟨RX12, "falseSigns", "()I"⟩
abbrev cX12_isTaken : ByteArray := prog_14_method_89_code
def yX12_isTaken : MethodName := ⟨RX12, "isTaken", "(I)Z"⟩
abbrev cX12_empty : ByteArray := prog_14_method_90_code
def yX12_empty : MethodName := ⟨RX12, "empty", "(I)I"⟩
abbrev cX12_hottest : ByteArray := prog_14_method_91_code
def yX12_hottest : MethodName := ⟨RX12, "hottest", "()I"⟩
abbrev cX12_suspected : ByteArray := prog_14_method_92_code
def yX12_suspected : MethodName := ⟨RX12, "suspected", "()I"⟩
abbrev cX12_weight : ByteArray := prog_14_method_93_code
def yX12_weight : MethodName := ⟨RX12, "weight", "(II)Z"⟩
abbrev cX12_observe : ByteArray := prog_14_method_94_code
def yX12_observe : MethodName := ⟨RX12, "observe", "(IIZ)I"⟩
abbrev cX12_likely : ByteArray := prog_14_method_95_code
def yX12_likely : MethodName := ⟨RX12, "likely", "(I)J"⟩
abbrev cX12_common : ByteArray := prog_14_method_96_code
def yX12_common : MethodName := ⟨RX12, "common", "(JJ)J"⟩
abbrev cX12_part : ByteArray := prog_14_method_97_code
def yX12_part : MethodName := ⟨RX12, "part", "(JJZ)J"⟩
abbrev cX12_likelyOf : ByteArray := prog_14_method_98_code
def yX12_likelyOf : MethodName := ⟨RX12, "likelyOf", "(I)J"⟩
abbrev cX12_share : ByteArray := prog_14_method_99_code
def yX12_share : MethodName := ⟨RX12, "share", "(IZ)J"⟩
abbrev cX12_both : ByteArray := prog_14_method_100_code
def yX12_both : MethodName := ⟨RX12, "both", "(IIZ)J"⟩
abbrev cX12_guess : ByteArray := prog_14_method_101_code
def yX12_guess : MethodName := ⟨RX12, "guess", "()I"⟩
abbrev cX12_telling : ByteArray := prog_14_method_102_code
def yX12_telling : MethodName := ⟨RX12, "telling", "(I)I"⟩
abbrev cX12_tellsMost : ByteArray := prog_14_method_103_code
def yX12_tellsMost : MethodName := ⟨RX12, "tellsMost", "()I"⟩
abbrev cX12_begin : ByteArray := prog_14_method_104_code
def yX12_begin : MethodName := ⟨RX12, "begin", "()V"⟩
abbrev cX12_putBack : ByteArray := prog_14_method_105_code
def yX12_putBack : MethodName := ⟨RX12, "putBack", "()V"⟩
abbrev cX12_behind : ByteArray := prog_14_method_106_code
def yX12_behind : MethodName := ⟨RX12, "behind", "(II)I"⟩
abbrev cX12_foretold : ByteArray := prog_14_method_107_code
def yX12_foretold : MethodName := ⟨RX12, "foretold", "(II)I"⟩
abbrev cX12_habit : ByteArray := prog_14_method_108_code
def yX12_habit : MethodName := ⟨RX12, "habit", "(II)I"⟩
abbrev cX12_firstSign : ByteArray := prog_14_method_109_code
def yX12_firstSign : MethodName := ⟨RX12, "firstSign", "(I)I"⟩
abbrev cX12_layMembers : ByteArray := prog_14_method_110_code
def yX12_layMembers : MethodName := ⟨RX12, "layMembers", "(I)I"⟩
abbrev cX12_nextRow : ByteArray := prog_14_method_111_code
def yX12_nextRow : MethodName := ⟨RX12, "nextRow", "(I)Z"⟩
abbrev cX12_shownBy : ByteArray := prog_14_method_112_code
def yX12_shownBy : MethodName := ⟨RX12, "shownBy", "(II)I"⟩
abbrev cX12_order : ByteArray := prog_14_method_113_code
def yX12_order : MethodName := ⟨RX12, "order", "(III)I"⟩
abbrev cX12_unseen : ByteArray := prog_14_method_114_code
def yX12_unseen : MethodName := ⟨RX12, "unseen", "(IZ)J"⟩
abbrev cX12_risk : ByteArray := prog_14_method_115_code
def yX12_risk : MethodName := ⟨RX12, "risk", "(II)Z"⟩
abbrev cX12_tens : ByteArray := prog_14_method_116_code
def yX12_tens : MethodName := ⟨RX12, "tens", "(I)J"⟩
abbrev cX12_awayCost : ByteArray := prog_14_method_117_code
def yX12_awayCost : MethodName := ⟨RX12, "awayCost", "(IIII)J"⟩
abbrev cX12_staysAway : ByteArray := prog_14_method_118_code
def yX12_staysAway : MethodName := ⟨RX12, "staysAway", "(IIII)J"⟩
abbrev cX12_toRun : ByteArray := prog_14_method_119_code
def yX12_toRun : MethodName := ⟨RX12, "toRun", "(IIIII)J"⟩
abbrev cX12_sumOf : ByteArray := prog_14_method_120_code
def yX12_sumOf : MethodName := ⟨RX12, "sumOf", "(II)I"⟩
abbrev cX12_cuts : ByteArray := prog_14_method_121_code
def yX12_cuts : MethodName := ⟨RX12, "cuts", "(I)I"⟩
abbrev cX12_lasts : ByteArray := prog_14_method_122_code
def yX12_lasts : MethodName := ⟨RX12, "lasts", "()I"⟩
abbrev cX12_ahead : ByteArray := prog_14_method_123_code
def yX12_ahead : MethodName := ⟨RX12, "ahead", "(II)I"⟩
abbrev cX12_canCome : ByteArray := prog_14_method_124_code
def yX12_canCome : MethodName := ⟨RX12, "canCome", "(II)Z"⟩
abbrev cX12_orders : ByteArray := prog_14_method_125_code
def yX12_orders : MethodName := ⟨RX12, "orders", "()I"⟩
abbrev cX12_areFacing : ByteArray := prog_14_method_126_code
def yX12_areFacing : MethodName := ⟨RX12, "areFacing", "(II)Z"⟩
abbrev cX12_laySeats : ByteArray := prog_14_method_127_code
def yX12_laySeats : MethodName := ⟨RX12, "laySeats", "()V"⟩
abbrev cX12_facingNow : ByteArray := prog_14_method_128_code
def yX12_facingNow : MethodName := ⟨RX12, "facingNow", "()I"⟩
abbrev cX12_facing : ByteArray := prog_14_method_129_code
def yX12_facing : MethodName := ⟨RX12, "facing", "()I"⟩
abbrev cX12_facedBy : ByteArray := prog_14_method_130_code
def yX12_facedBy : MethodName := ⟨RX12, "facedBy", "(II)I"⟩
abbrev cX12_lonely : ByteArray := prog_14_method_131_code
def yX12_lonely : MethodName := ⟨RX12, "lonely", "()I"⟩
abbrev cX12_bestSeat : ByteArray := prog_14_method_132_code
def yX12_bestSeat : MethodName := ⟨RX12, "bestSeat", "(IZ)I"⟩
abbrev cX12_worth : ByteArray := prog_14_method_133_code
def yX12_worth : MethodName := ⟨RX12, "worth", "()I"⟩
abbrev cX12_sortSeats : ByteArray := prog_14_method_134_code
def yX12_sortSeats : MethodName := ⟨RX12, "sortSeats", "(I)V"⟩
abbrev cX12_seating : ByteArray := prog_14_method_135_code
def yX12_seating : MethodName := ⟨RX12, "seating", "(II)I"⟩
abbrev cX12_torn : ByteArray := prog_14_method_136_code
def yX12_torn : MethodName := ⟨RX12, "torn", "(IIZ)I"⟩
abbrev cX12_isAsTorn : ByteArray := prog_14_method_137_code
def yX12_isAsTorn : MethodName := ⟨RX12, "isAsTorn", "()Z"⟩
abbrev cX12_sittings : ByteArray := prog_14_method_138_code
def yX12_sittings : MethodName := ⟨RX12, "sittings", "(Z)I"⟩
abbrev cX12_claque : ByteArray := prog_14_method_139_code
def yX12_claque : MethodName := ⟨RX12, "claque", "(IIZ)J"⟩
abbrev cX12_sign : ByteArray := prog_14_method_140_code
def yX12_sign : MethodName := ⟨RX12, "sign", "(III)I"⟩
abbrev cX12_whose : ByteArray := prog_14_method_141_code
def yX12_whose : MethodName := ⟨RX12, "whose", "()I"⟩
abbrev cX12_image : ByteArray := prog_14_method_142_code
def yX12_image : MethodName := ⟨RX12, "image", "()I"⟩
abbrev cX12_back : ByteArray := prog_14_method_143_code
def yX12_back : MethodName := ⟨RX12, "back", "()I"⟩
abbrev cX12_about : ByteArray := prog_14_method_144_code
def yX12_about : MethodName := ⟨RX12, "about", "(I)I"⟩
def RJ9 : String := "java/lang/Math"
def TJ9 : u_T := fun k => match k with
  | _ => ("", "", "", false)
def tyJ9 : Nat → FieldType := fun k => match k with
  | _ => .int
abbrev wsJ90 : List Cond := u_ws RJ9 TJ9 0
theorem nmJ9 : ∀ a, a < 0 → ∀ b, b < 0 → a ≠ b → (TJ9 a).2.1 ≠ (TJ9 b).2.1 := by decide +kernel
theorem tyJ9_ok : ∀ k, k < 0 → parseFieldDescriptor (TJ9 k).2.2.1 = some (tyJ9 k) := by decide +kernel
abbrev cJ9_floorMod_7cf53 : ByteArray := prog_15_method_50_code
def yJ9_floorMod_7cf53 : MethodName := ⟨RJ9, "floorMod", "(II)I"⟩
abbrev cJ9_abs_0f7a4 : ByteArray := prog_15_method_59_code
def yJ9_abs_0f7a4 : MethodName := ⟨RJ9, "abs", "(I)I"⟩
abbrev cJ9_max_7cf53 : ByteArray := prog_15_method_65_code
def yJ9_max_7cf53 : MethodName := ⟨RJ9, "max", "(II)I"⟩
abbrev cJ9_min_7cf53 : ByteArray := prog_15_method_69_code
def yJ9_min_7cf53 : MethodName := ⟨RJ9, "min", "(II)I"⟩
def RJ0 : String := "java/lang/String"
def TJ0 : u_T := fun k => match k with
  | _ => ("", "", "", false)
def tyJ0 : Nat → FieldType := fun k => match k with
  | _ => .int
abbrev wsJ00 : List Cond := u_ws RJ0 TJ0 0
theorem nmJ0 : ∀ a, a < 0 → ∀ b, b < 0 → a ≠ b → (TJ0 a).2.1 ≠ (TJ0 b).2.1 := by decide +kernel
theorem tyJ0_ok : ∀ k, k < 0 → parseFieldDescriptor (TJ0 k).2.2.1 = some (tyJ0 k) := by decide +kernel
abbrev cJ0_length_8abf5 : ByteArray := prog_16_method_54_code
def yJ0_length_8abf5 : MethodName := ⟨RJ0, "length", "()I"⟩
abbrev cJ0_charAt_5068e : ByteArray := prog_16_method_56_code
def yJ0_charAt_5068e : MethodName := ⟨RJ0, "charAt", "(I)C"⟩
abbrev cJ0_coder_7d493 : ByteArray := prog_16_method_152_code
def yJ0_coder_7d493 : MethodName := ⟨RJ0, "coder", "()B"⟩
abbrev cJ0_isLatin1_aae02 : ByteArray := prog_16_method_154_code
def yJ0_isLatin1_aae02 : MethodName := ⟨RJ0, "isLatin1", "()Z"⟩
abbrev cJ0_checkIndex_df160 : ByteArray := prog_16_method_155_code
def yJ0_checkIndex_df160 : MethodName := ⟨RJ0, "checkIndex", "(II)V"⟩
def RJ1 : String := "java/lang/StringLatin1"
def TJ1 : u_T := fun k => match k with
  | _ => ("", "", "", false)
def tyJ1 : Nat → FieldType := fun k => match k with
  | _ => .int
abbrev wsJ10 : List Cond := u_ws RJ1 TJ1 0
theorem nmJ1 : ∀ a, a < 0 → ∀ b, b < 0 → a ≠ b → (TJ1 a).2.1 ≠ (TJ1 b).2.1 := by decide +kernel
theorem tyJ1_ok : ∀ k, k < 0 → parseFieldDescriptor (TJ1 k).2.2.1 = some (tyJ1 k) := by decide +kernel
abbrev cJ1_charAt_3b067 : ByteArray := prog_17_method_2_code
def yJ1_charAt_3b067 : MethodName := ⟨RJ1, "charAt", "([BI)C"⟩
def RJ2 : String := "java/lang/StringUTF16"
def TJ2 : u_T := fun k => match k with
  | _ => ("", "", "", false)
def tyJ2 : Nat → FieldType := fun k => match k with
  | _ => .int
abbrev wsJ20 : List Cond := u_ws RJ2 TJ2 0
theorem nmJ2 : ∀ a, a < 0 → ∀ b, b < 0 → a ≠ b → (TJ2 a).2.1 ≠ (TJ2 b).2.1 := by decide +kernel
theorem tyJ2_ok : ∀ k, k < 0 → parseFieldDescriptor (TJ2 k).2.2.1 = some (tyJ2 k) := by decide +kernel
abbrev cJ2_getChar_3b067 : ByteArray := prog_18_method_5_code
def yJ2_getChar_3b067 : MethodName := ⟨RJ2, "getChar", "([BI)C"⟩
abbrev cJ2_length_9d52b : ByteArray := prog_18_method_6_code
def yJ2_length_9d52b : MethodName := ⟨RJ2, "length", "([B)I"⟩
abbrev cJ2_charAt_3b067 : ByteArray := prog_18_method_83_code
def yJ2_charAt_3b067 : MethodName := ⟨RJ2, "charAt", "([BI)C"⟩
abbrev cJ2_checkIndex_2214a : ByteArray := prog_18_method_91_code
def yJ2_checkIndex_2214a : MethodName := ⟨RJ2, "checkIndex", "(I[B)V"⟩
def RJ3 : String := "jdk/internal/util/Preconditions"
def TJ3 : u_T := fun k => match k with
  | _ => ("", "", "", false)
def tyJ3 : Nat → FieldType := fun k => match k with
  | _ => .int
abbrev wsJ30 : List Cond := u_ws RJ3 TJ3 0
theorem nmJ3 : ∀ a, a < 0 → ∀ b, b < 0 → a ≠ b → (TJ3 a).2.1 ≠ (TJ3 b).2.1 := by decide +kernel
theorem tyJ3_ok : ∀ k, k < 0 → parseFieldDescriptor (TJ3 k).2.2.1 = some (tyJ3 k) := by decide +kernel
abbrev cJ3_checkIndex_8e157 : ByteArray := prog_19_method_11_code
def yJ3_checkIndex_8e157 : MethodName := ⟨RJ3, "checkIndex", "(IILjava/util/function/BiFunction;)I"⟩
def RL : String := "UntilHeConfessesLaw"
abbrev cL_law : ByteArray := code
def yL_law : MethodName := ⟨RL, "law", "([I)Z"⟩
