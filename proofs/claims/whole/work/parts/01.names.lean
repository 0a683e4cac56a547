-- ===== PART A: goes FIRST, ahead of the names: the tables' words, and 'selects' of the private methods out of them =====
/-- a private method of a class that the tables say can be made, by its rows of tables_1 -/
def lw_okq (q : MethodName × Nat) : Prop := (q.1.cls ≠ "java/lang/invoke/MethodHandle" ∧ q.1.cls ≠ "java/lang/invoke/VarHandle") ∧ Cond.instantiable q.1.cls q.2 ∈ tables_1 ∧ Cond.privateMethod q.1 ∈ tables_1 ∧ Cond.instanceMethod q.1 ∈ tables_1
theorem lw_p0 : lw_okq (⟨"TripRounds$Search", "loseNothing", "()V"⟩, 6) := ⟨⟨by decide +kernel, by decide +kernel⟩, List.mem_of_getElem? (i := 79) (by decide +kernel), List.mem_of_getElem? (i := 86) (by decide +kernel), List.mem_of_getElem? (i := 87) (by decide +kernel)⟩
theorem lw_p1 : lw_okq (⟨"TripRounds$Reader", "readPart", "()Z"⟩, 7) := ⟨⟨by decide +kernel, by decide +kernel⟩, List.mem_of_getElem? (i := 177) (by decide +kernel), List.mem_of_getElem? (i := 284) (by decide +kernel), List.mem_of_getElem? (i := 285) (by decide +kernel)⟩
theorem lw_p2 : lw_okq (⟨"TripRounds$Reader", "readLine", "()Z"⟩, 7) := ⟨⟨by decide +kernel, by decide +kernel⟩, List.mem_of_getElem? (i := 177) (by decide +kernel), List.mem_of_getElem? (i := 292) (by decide +kernel), List.mem_of_getElem? (i := 293) (by decide +kernel)⟩
theorem lw_p3 : lw_okq (⟨"TripRounds$Reader", "failAt", "(I)Z"⟩, 7) := ⟨⟨by decide +kernel, by decide +kernel⟩, List.mem_of_getElem? (i := 177) (by decide +kernel), List.mem_of_getElem? (i := 296) (by decide +kernel), List.mem_of_getElem? (i := 297) (by decide +kernel)⟩
theorem lw_p4 : lw_okq (⟨"TripRounds$Reader", "takeNumber", "(III)Z"⟩, 7) := ⟨⟨by decide +kernel, by decide +kernel⟩, List.mem_of_getElem? (i := 177) (by decide +kernel), List.mem_of_getElem? (i := 300) (by decide +kernel), List.mem_of_getElem? (i := 301) (by decide +kernel)⟩
theorem lw_p5 : lw_okq (⟨"TripRounds$Reader", "takeByte", "(I)Z"⟩, 7) := ⟨⟨by decide +kernel, by decide +kernel⟩, List.mem_of_getElem? (i := 177) (by decide +kernel), List.mem_of_getElem? (i := 311) (by decide +kernel), List.mem_of_getElem? (i := 312) (by decide +kernel)⟩
theorem lw_p6 : lw_okq (⟨"TripRounds$Reader", "isPartEnd", "()Z"⟩, 7) := ⟨⟨by decide +kernel, by decide +kernel⟩, List.mem_of_getElem? (i := 177) (by decide +kernel), List.mem_of_getElem? (i := 315) (by decide +kernel), List.mem_of_getElem? (i := 316) (by decide +kernel)⟩
theorem lw_p7 : lw_okq (⟨"TripRounds$Reader", "takeStop", "()Z"⟩, 7) := ⟨⟨by decide +kernel, by decide +kernel⟩, List.mem_of_getElem? (i := 177) (by decide +kernel), List.mem_of_getElem? (i := 319) (by decide +kernel), List.mem_of_getElem? (i := 320) (by decide +kernel)⟩
theorem lw_p8 : lw_okq (⟨"TripRounds$Reader", "readTrip", "()Z"⟩, 7) := ⟨⟨by decide +kernel, by decide +kernel⟩, List.mem_of_getElem? (i := 177) (by decide +kernel), List.mem_of_getElem? (i := 331) (by decide +kernel), List.mem_of_getElem? (i := 332) (by decide +kernel)⟩
theorem lw_p9 : lw_okq (⟨"TripRounds$Reader", "readPath", "()Z"⟩, 7) := ⟨⟨by decide +kernel, by decide +kernel⟩, List.mem_of_getElem? (i := 177) (by decide +kernel), List.mem_of_getElem? (i := 349) (by decide +kernel), List.mem_of_getElem? (i := 350) (by decide +kernel)⟩
theorem lw_p10 : lw_okq (⟨"TripRounds$Reader", "readDelay", "()Z"⟩, 7) := ⟨⟨by decide +kernel, by decide +kernel⟩, List.mem_of_getElem? (i := 177) (by decide +kernel), List.mem_of_getElem? (i := 357) (by decide +kernel), List.mem_of_getElem? (i := 358) (by decide +kernel)⟩
theorem lw_p11 : lw_okq (⟨"TripRounds$Search", "rideAll", "([I[I)V"⟩, 6) := ⟨⟨by decide +kernel, by decide +kernel⟩, List.mem_of_getElem? (i := 79) (by decide +kernel), List.mem_of_getElem? (i := 451) (by decide +kernel), List.mem_of_getElem? (i := 452) (by decide +kernel)⟩
theorem lw_p12 : lw_okq (⟨"TripRounds$Search", "rideOne", "(II[I[I)V"⟩, 6) := ⟨⟨by decide +kernel, by decide +kernel⟩, List.mem_of_getElem? (i := 79) (by decide +kernel), List.mem_of_getElem? (i := 456) (by decide +kernel), List.mem_of_getElem? (i := 457) (by decide +kernel)⟩
theorem lw_p13 : lw_okq (⟨"TripRounds$Search", "arriveAll", "(II[I[I)V"⟩, 6) := ⟨⟨by decide +kernel, by decide +kernel⟩, List.mem_of_getElem? (i := 79) (by decide +kernel), List.mem_of_getElem? (i := 461) (by decide +kernel), List.mem_of_getElem? (i := 462) (by decide +kernel)⟩
theorem lw_p14 : lw_okq (⟨"TripRounds$Search", "arriveAt", "(III[I)I"⟩, 6) := ⟨⟨by decide +kernel, by decide +kernel⟩, List.mem_of_getElem? (i := 79) (by decide +kernel), List.mem_of_getElem? (i := 465) (by decide +kernel), List.mem_of_getElem? (i := 466) (by decide +kernel)⟩
theorem lw_p15 : lw_okq (⟨"TripRounds$Route", "findRide", "(III)Z"⟩, 7) := ⟨⟨by decide +kernel, by decide +kernel⟩, List.mem_of_getElem? (i := 111) (by decide +kernel), List.mem_of_getElem? (i := 489) (by decide +kernel), List.mem_of_getElem? (i := 490) (by decide +kernel)⟩
def lw_privs_1 : List (MethodName × Nat) := [(⟨"TripRounds$Search", "loseNothing", "()V"⟩, 6), (⟨"TripRounds$Reader", "readPart", "()Z"⟩, 7), (⟨"TripRounds$Reader", "readLine", "()Z"⟩, 7), (⟨"TripRounds$Reader", "failAt", "(I)Z"⟩, 7), (⟨"TripRounds$Reader", "takeNumber", "(III)Z"⟩, 7), (⟨"TripRounds$Reader", "takeByte", "(I)Z"⟩, 7), (⟨"TripRounds$Reader", "isPartEnd", "()Z"⟩, 7), (⟨"TripRounds$Reader", "takeStop", "()Z"⟩, 7), (⟨"TripRounds$Reader", "readTrip", "()Z"⟩, 7), (⟨"TripRounds$Reader", "readPath", "()Z"⟩, 7), (⟨"TripRounds$Reader", "readDelay", "()Z"⟩, 7), (⟨"TripRounds$Search", "rideAll", "([I[I)V"⟩, 6), (⟨"TripRounds$Search", "rideOne", "(II[I[I)V"⟩, 6), (⟨"TripRounds$Search", "arriveAll", "(II[I[I)V"⟩, 6), (⟨"TripRounds$Search", "arriveAt", "(III[I)I"⟩, 6), (⟨"TripRounds$Route", "findRide", "(III)Z"⟩, 7)]
theorem lw_r1 : ∀ q ∈ lw_privs_1, lw_okq q := List.forall_mem_cons.mpr ⟨lw_p0, List.forall_mem_cons.mpr ⟨lw_p1, List.forall_mem_cons.mpr ⟨lw_p2, List.forall_mem_cons.mpr ⟨lw_p3, List.forall_mem_cons.mpr ⟨lw_p4, List.forall_mem_cons.mpr ⟨lw_p5, List.forall_mem_cons.mpr ⟨lw_p6, List.forall_mem_cons.mpr ⟨lw_p7, List.forall_mem_cons.mpr ⟨lw_p8, List.forall_mem_cons.mpr ⟨lw_p9, List.forall_mem_cons.mpr ⟨lw_p10, List.forall_mem_cons.mpr ⟨lw_p11, List.forall_mem_cons.mpr ⟨lw_p12, List.forall_mem_cons.mpr ⟨lw_p13, List.forall_mem_cons.mpr ⟨lw_p14, List.forall_mem_cons.mpr ⟨lw_p15, fun _ h => absurd h List.not_mem_nil⟩⟩⟩⟩⟩⟩⟩⟩⟩⟩⟩⟩⟩⟩⟩⟩
theorem lw_p16 : lw_okq (⟨"TripRounds$Route", "findBeginning", "(III[I)Z"⟩, 7) := ⟨⟨by decide +kernel, by decide +kernel⟩, List.mem_of_getElem? (i := 111) (by decide +kernel), List.mem_of_getElem? (i := 496) (by decide +kernel), List.mem_of_getElem? (i := 497) (by decide +kernel)⟩
theorem lw_p17 : lw_okq (⟨"TripRounds$Route", "addRide", "(I)I"⟩, 7) := ⟨⟨by decide +kernel, by decide +kernel⟩, List.mem_of_getElem? (i := 111) (by decide +kernel), List.mem_of_getElem? (i := 500) (by decide +kernel), List.mem_of_getElem? (i := 501) (by decide +kernel)⟩
theorem lw_p18 : lw_okq (⟨"TripRounds$Route", "addWalk", "(IIII)I"⟩, 7) := ⟨⟨by decide +kernel, by decide +kernel⟩, List.mem_of_getElem? (i := 111) (by decide +kernel), List.mem_of_getElem? (i := 507) (by decide +kernel), List.mem_of_getElem? (i := 508) (by decide +kernel)⟩
theorem lw_p19 : lw_okq (⟨"TripRounds$Route", "putWalk", "(IIII)V"⟩, 7) := ⟨⟨by decide +kernel, by decide +kernel⟩, List.mem_of_getElem? (i := 111) (by decide +kernel), List.mem_of_getElem? (i := 511) (by decide +kernel), List.mem_of_getElem? (i := 512) (by decide +kernel)⟩
theorem lw_p20 : lw_okq (⟨"TripRounds$Board", "goesOn", "(II)Z"⟩, 3) := ⟨⟨by decide +kernel, by decide +kernel⟩, List.mem_of_getElem? (i := 141) (by decide +kernel), List.mem_of_getElem? (i := 579) (by decide +kernel), List.mem_of_getElem? (i := 580) (by decide +kernel)⟩
theorem lw_p21 : lw_okq (⟨"TripRounds$Board", "insert", "(I)V"⟩, 3) := ⟨⟨by decide +kernel, by decide +kernel⟩, List.mem_of_getElem? (i := 141) (by decide +kernel), List.mem_of_getElem? (i := 585) (by decide +kernel), List.mem_of_getElem? (i := 586) (by decide +kernel)⟩
theorem lw_p22 : lw_okq (⟨"TripRounds$Board", "leastMissOf", "(III)I"⟩, 3) := ⟨⟨by decide +kernel, by decide +kernel⟩, List.mem_of_getElem? (i := 141) (by decide +kernel), List.mem_of_getElem? (i := 601) (by decide +kernel), List.mem_of_getElem? (i := 602) (by decide +kernel)⟩
theorem lw_p23 : lw_okq (⟨"TripRounds$Net", "isServed", "(I)Z"⟩, 8) := ⟨⟨by decide +kernel, by decide +kernel⟩, List.mem_of_getElem? (i := 23) (by decide +kernel), List.mem_of_getElem? (i := 651) (by decide +kernel), List.mem_of_getElem? (i := 652) (by decide +kernel)⟩
theorem lw_p24 : lw_okq (⟨"TripRounds", "listRefusal", "(IIII)I"⟩, 11) := ⟨⟨by decide +kernel, by decide +kernel⟩, List.mem_of_getElem? (i := 15) (by decide +kernel), List.mem_of_getElem? (i := 689) (by decide +kernel), List.mem_of_getElem? (i := 690) (by decide +kernel)⟩
theorem lw_p25 : lw_okq (⟨"TripRounds", "toldArrival", "(II)I"⟩, 11) := ⟨⟨by decide +kernel, by decide +kernel⟩, List.mem_of_getElem? (i := 15) (by decide +kernel), List.mem_of_getElem? (i := 698) (by decide +kernel), List.mem_of_getElem? (i := 699) (by decide +kernel)⟩
theorem lw_p26 : lw_okq (⟨"TripRoundsModel", "carryAll", "([IZ)V"⟩, 41) := ⟨⟨by decide +kernel, by decide +kernel⟩, List.mem_of_getElem? (i := 714) (by decide +kernel), List.mem_of_getElem? (i := 861) (by decide +kernel), List.mem_of_getElem? (i := 862) (by decide +kernel)⟩
theorem lw_p27 : lw_okq (⟨"TripRoundsModel", "carry", "(I)I"⟩, 41) := ⟨⟨by decide +kernel, by decide +kernel⟩, List.mem_of_getElem? (i := 714) (by decide +kernel), List.mem_of_getElem? (i := 865) (by decide +kernel), List.mem_of_getElem? (i := 866) (by decide +kernel)⟩
theorem lw_p28 : lw_okq (⟨"TripRoundsModel", "readPart", "()V"⟩, 41) := ⟨⟨by decide +kernel, by decide +kernel⟩, List.mem_of_getElem? (i := 714) (by decide +kernel), List.mem_of_getElem? (i := 869) (by decide +kernel), List.mem_of_getElem? (i := 870) (by decide +kernel)⟩
theorem lw_p29 : lw_okq (⟨"TripRoundsModel", "here", "()I"⟩, 41) := ⟨⟨by decide +kernel, by decide +kernel⟩, List.mem_of_getElem? (i := 714) (by decide +kernel), List.mem_of_getElem? (i := 873) (by decide +kernel), List.mem_of_getElem? (i := 874) (by decide +kernel)⟩
theorem lw_p30 : lw_okq (⟨"TripRoundsModel", "readLine", "(I)V"⟩, 41) := ⟨⟨by decide +kernel, by decide +kernel⟩, List.mem_of_getElem? (i := 714) (by decide +kernel), List.mem_of_getElem? (i := 877) (by decide +kernel), List.mem_of_getElem? (i := 878) (by decide +kernel)⟩
theorem lw_p31 : lw_okq (⟨"TripRoundsModel", "mustBe", "(ZI)V"⟩, 41) := ⟨⟨by decide +kernel, by decide +kernel⟩, List.mem_of_getElem? (i := 714) (by decide +kernel), List.mem_of_getElem? (i := 881) (by decide +kernel), List.mem_of_getElem? (i := 882) (by decide +kernel)⟩
def lw_privs_2 : List (MethodName × Nat) := [(⟨"TripRounds$Route", "findBeginning", "(III[I)Z"⟩, 7), (⟨"TripRounds$Route", "addRide", "(I)I"⟩, 7), (⟨"TripRounds$Route", "addWalk", "(IIII)I"⟩, 7), (⟨"TripRounds$Route", "putWalk", "(IIII)V"⟩, 7), (⟨"TripRounds$Board", "goesOn", "(II)Z"⟩, 3), (⟨"TripRounds$Board", "insert", "(I)V"⟩, 3), (⟨"TripRounds$Board", "leastMissOf", "(III)I"⟩, 3), (⟨"TripRounds$Net", "isServed", "(I)Z"⟩, 8), (⟨"TripRounds", "listRefusal", "(IIII)I"⟩, 11), (⟨"TripRounds", "toldArrival", "(II)I"⟩, 11), (⟨"TripRoundsModel", "carryAll", "([IZ)V"⟩, 41), (⟨"TripRoundsModel", "carry", "(I)I"⟩, 41), (⟨"TripRoundsModel", "readPart", "()V"⟩, 41), (⟨"TripRoundsModel", "here", "()I"⟩, 41), (⟨"TripRoundsModel", "readLine", "(I)V"⟩, 41), (⟨"TripRoundsModel", "mustBe", "(ZI)V"⟩, 41)]
theorem lw_r2 : ∀ q ∈ lw_privs_2, lw_okq q := List.forall_mem_cons.mpr ⟨lw_p16, List.forall_mem_cons.mpr ⟨lw_p17, List.forall_mem_cons.mpr ⟨lw_p18, List.forall_mem_cons.mpr ⟨lw_p19, List.forall_mem_cons.mpr ⟨lw_p20, List.forall_mem_cons.mpr ⟨lw_p21, List.forall_mem_cons.mpr ⟨lw_p22, List.forall_mem_cons.mpr ⟨lw_p23, List.forall_mem_cons.mpr ⟨lw_p24, List.forall_mem_cons.mpr ⟨lw_p25, List.forall_mem_cons.mpr ⟨lw_p26, List.forall_mem_cons.mpr ⟨lw_p27, List.forall_mem_cons.mpr ⟨lw_p28, List.forall_mem_cons.mpr ⟨lw_p29, List.forall_mem_cons.mpr ⟨lw_p30, List.forall_mem_cons.mpr ⟨lw_p31, fun _ h => absurd h List.not_mem_nil⟩⟩⟩⟩⟩⟩⟩⟩⟩⟩⟩⟩⟩⟩⟩⟩
theorem lw_p32 : lw_okq (⟨"TripRoundsModel", "readWithin", "(III)I"⟩, 41) := ⟨⟨by decide +kernel, by decide +kernel⟩, List.mem_of_getElem? (i := 714) (by decide +kernel), List.mem_of_getElem? (i := 885) (by decide +kernel), List.mem_of_getElem? (i := 886) (by decide +kernel)⟩
theorem lw_p33 : lw_okq (⟨"TripRoundsModel", "readFigures", "(I)I"⟩, 41) := ⟨⟨by decide +kernel, by decide +kernel⟩, List.mem_of_getElem? (i := 714) (by decide +kernel), List.mem_of_getElem? (i := 889) (by decide +kernel), List.mem_of_getElem? (i := 890) (by decide +kernel)⟩
theorem lw_p34 : lw_okq (⟨"TripRoundsModel", "wants", "(I)V"⟩, 41) := ⟨⟨by decide +kernel, by decide +kernel⟩, List.mem_of_getElem? (i := 714) (by decide +kernel), List.mem_of_getElem? (i := 895) (by decide +kernel), List.mem_of_getElem? (i := 896) (by decide +kernel)⟩
theorem lw_p35 : lw_okq (⟨"TripRoundsModel", "goesOn", "(I)Z"⟩, 41) := ⟨⟨by decide +kernel, by decide +kernel⟩, List.mem_of_getElem? (i := 714) (by decide +kernel), List.mem_of_getElem? (i := 899) (by decide +kernel), List.mem_of_getElem? (i := 900) (by decide +kernel)⟩
theorem lw_p36 : lw_okq (⟨"TripRoundsModel", "readTrip", "(I)V"⟩, 41) := ⟨⟨by decide +kernel, by decide +kernel⟩, List.mem_of_getElem? (i := 714) (by decide +kernel), List.mem_of_getElem? (i := 903) (by decide +kernel), List.mem_of_getElem? (i := 904) (by decide +kernel)⟩
theorem lw_p37 : lw_okq (⟨"TripRoundsModel", "readFoot", "()V"⟩, 41) := ⟨⟨by decide +kernel, by decide +kernel⟩, List.mem_of_getElem? (i := 714) (by decide +kernel), List.mem_of_getElem? (i := 907) (by decide +kernel), List.mem_of_getElem? (i := 908) (by decide +kernel)⟩
theorem lw_p38 : lw_okq (⟨"TripRoundsModel", "readDelay", "(I)V"⟩, 41) := ⟨⟨by decide +kernel, by decide +kernel⟩, List.mem_of_getElem? (i := 714) (by decide +kernel), List.mem_of_getElem? (i := 911) (by decide +kernel), List.mem_of_getElem? (i := 912) (by decide +kernel)⟩
theorem lw_p39 : lw_okq (⟨"TripRoundsModel", "isTooLate", "(III)Z"⟩, 41) := ⟨⟨by decide +kernel, by decide +kernel⟩, List.mem_of_getElem? (i := 714) (by decide +kernel), List.mem_of_getElem? (i := 915) (by decide +kernel), List.mem_of_getElem? (i := 916) (by decide +kernel)⟩
theorem lw_p40 : lw_okq (⟨"TripRoundsModel", "minuteAt", "(III)I"⟩, 41) := ⟨⟨by decide +kernel, by decide +kernel⟩, List.mem_of_getElem? (i := 714) (by decide +kernel), List.mem_of_getElem? (i := 919) (by decide +kernel), List.mem_of_getElem? (i := 920) (by decide +kernel)⟩
theorem lw_p41 : lw_okq (⟨"TripRoundsModel", "delays", "(IIII)V"⟩, 41) := ⟨⟨by decide +kernel, by decide +kernel⟩, List.mem_of_getElem? (i := 714) (by decide +kernel), List.mem_of_getElem? (i := 923) (by decide +kernel), List.mem_of_getElem? (i := 924) (by decide +kernel)⟩
theorem lw_p42 : lw_okq (⟨"TripRoundsModel", "isLine", "(I)Z"⟩, 41) := ⟨⟨by decide +kernel, by decide +kernel⟩, List.mem_of_getElem? (i := 714) (by decide +kernel), List.mem_of_getElem? (i := 939) (by decide +kernel), List.mem_of_getElem? (i := 940) (by decide +kernel)⟩
theorem lw_p43 : lw_okq (⟨"TripRoundsModel", "runsOf", "(I)I"⟩, 41) := ⟨⟨by decide +kernel, by decide +kernel⟩, List.mem_of_getElem? (i := 714) (by decide +kernel), List.mem_of_getElem? (i := 944) (by decide +kernel), List.mem_of_getElem? (i := 945) (by decide +kernel)⟩
theorem lw_p44 : lw_okq (⟨"TripRoundsModel", "isRunning", "(II)Z"⟩, 41) := ⟨⟨by decide +kernel, by decide +kernel⟩, List.mem_of_getElem? (i := 714) (by decide +kernel), List.mem_of_getElem? (i := 948) (by decide +kernel), List.mem_of_getElem? (i := 949) (by decide +kernel)⟩
theorem lw_p45 : lw_okq (⟨"TripRoundsModel", "stopAt", "(II)I"⟩, 41) := ⟨⟨by decide +kernel, by decide +kernel⟩, List.mem_of_getElem? (i := 714) (by decide +kernel), List.mem_of_getElem? (i := 959) (by decide +kernel), List.mem_of_getElem? (i := 960) (by decide +kernel)⟩
theorem lw_p46 : lw_okq (⟨"TripRoundsModel", "isTrip", "(II)Z"⟩, 41) := ⟨⟨by decide +kernel, by decide +kernel⟩, List.mem_of_getElem? (i := 714) (by decide +kernel), List.mem_of_getElem? (i := 967) (by decide +kernel), List.mem_of_getElem? (i := 968) (by decide +kernel)⟩
theorem lw_p47 : lw_okq (⟨"TripRoundsModel", "footTold", "(II)I"⟩, 41) := ⟨⟨by decide +kernel, by decide +kernel⟩, List.mem_of_getElem? (i := 714) (by decide +kernel), List.mem_of_getElem? (i := 986) (by decide +kernel), List.mem_of_getElem? (i := 987) (by decide +kernel)⟩
def lw_privs_3 : List (MethodName × Nat) := [(⟨"TripRoundsModel", "readWithin", "(III)I"⟩, 41), (⟨"TripRoundsModel", "readFigures", "(I)I"⟩, 41), (⟨"TripRoundsModel", "wants", "(I)V"⟩, 41), (⟨"TripRoundsModel", "goesOn", "(I)Z"⟩, 41), (⟨"TripRoundsModel", "readTrip", "(I)V"⟩, 41), (⟨"TripRoundsModel", "readFoot", "()V"⟩, 41), (⟨"TripRoundsModel", "readDelay", "(I)V"⟩, 41), (⟨"TripRoundsModel", "isTooLate", "(III)Z"⟩, 41), (⟨"TripRoundsModel", "minuteAt", "(III)I"⟩, 41), (⟨"TripRoundsModel", "delays", "(IIII)V"⟩, 41), (⟨"TripRoundsModel", "isLine", "(I)Z"⟩, 41), (⟨"TripRoundsModel", "runsOf", "(I)I"⟩, 41), (⟨"TripRoundsModel", "isRunning", "(II)Z"⟩, 41), (⟨"TripRoundsModel", "stopAt", "(II)I"⟩, 41), (⟨"TripRoundsModel", "isTrip", "(II)Z"⟩, 41), (⟨"TripRoundsModel", "footTold", "(II)I"⟩, 41)]
theorem lw_r3 : ∀ q ∈ lw_privs_3, lw_okq q := List.forall_mem_cons.mpr ⟨lw_p32, List.forall_mem_cons.mpr ⟨lw_p33, List.forall_mem_cons.mpr ⟨lw_p34, List.forall_mem_cons.mpr ⟨lw_p35, List.forall_mem_cons.mpr ⟨lw_p36, List.forall_mem_cons.mpr ⟨lw_p37, List.forall_mem_cons.mpr ⟨lw_p38, List.forall_mem_cons.mpr ⟨lw_p39, List.forall_mem_cons.mpr ⟨lw_p40, List.forall_mem_cons.mpr ⟨lw_p41, List.forall_mem_cons.mpr ⟨lw_p42, List.forall_mem_cons.mpr ⟨lw_p43, List.forall_mem_cons.mpr ⟨lw_p44, List.forall_mem_cons.mpr ⟨lw_p45, List.forall_mem_cons.mpr ⟨lw_p46, List.forall_mem_cons.mpr ⟨lw_p47, fun _ h => absurd h List.not_mem_nil⟩⟩⟩⟩⟩⟩⟩⟩⟩⟩⟩⟩⟩⟩⟩⟩
theorem lw_p48 : lw_okq (⟨"TripRoundsModel", "earliestOf", "(IIII)I"⟩, 41) := ⟨⟨by decide +kernel, by decide +kernel⟩, List.mem_of_getElem? (i := 714) (by decide +kernel), List.mem_of_getElem? (i := 1016) (by decide +kernel), List.mem_of_getElem? (i := 1017) (by decide +kernel)⟩
theorem lw_p49 : lw_okq (⟨"TripRoundsModel", "layRounds", "(II)V"⟩, 41) := ⟨⟨by decide +kernel, by decide +kernel⟩, List.mem_of_getElem? (i := 714) (by decide +kernel), List.mem_of_getElem? (i := 1020) (by decide +kernel), List.mem_of_getElem? (i := 1021) (by decide +kernel)⟩
theorem lw_p50 : lw_okq (⟨"TripRoundsModel", "layWalks", "(I)V"⟩, 41) := ⟨⟨by decide +kernel, by decide +kernel⟩, List.mem_of_getElem? (i := 714) (by decide +kernel), List.mem_of_getElem? (i := 1025) (by decide +kernel), List.mem_of_getElem? (i := 1026) (by decide +kernel)⟩
theorem lw_p51 : lw_okq (⟨"TripRoundsModel", "footOf", "(II)I"⟩, 41) := ⟨⟨by decide +kernel, by decide +kernel⟩, List.mem_of_getElem? (i := 714) (by decide +kernel), List.mem_of_getElem? (i := 1029) (by decide +kernel), List.mem_of_getElem? (i := 1030) (by decide +kernel)⟩
theorem lw_p52 : lw_okq (⟨"TripRoundsModel", "isRidden", "(II)Z"⟩, 41) := ⟨⟨by decide +kernel, by decide +kernel⟩, List.mem_of_getElem? (i := 714) (by decide +kernel), List.mem_of_getElem? (i := 1033) (by decide +kernel), List.mem_of_getElem? (i := 1034) (by decide +kernel)⟩
theorem lw_p53 : lw_okq (⟨"TripRoundsModel", "layTrip", "(III)V"⟩, 41) := ⟨⟨by decide +kernel, by decide +kernel⟩, List.mem_of_getElem? (i := 714) (by decide +kernel), List.mem_of_getElem? (i := 1037) (by decide +kernel), List.mem_of_getElem? (i := 1038) (by decide +kernel)⟩
theorem lw_p54 : lw_okq (⟨"TripRoundsModel", "layJourney", "(IIII)Z"⟩, 41) := ⟨⟨by decide +kernel, by decide +kernel⟩, List.mem_of_getElem? (i := 714) (by decide +kernel), List.mem_of_getElem? (i := 1049) (by decide +kernel), List.mem_of_getElem? (i := 1050) (by decide +kernel)⟩
theorem lw_p55 : lw_okq (⟨"TripRoundsModel", "seekRide", "(III)Z"⟩, 41) := ⟨⟨by decide +kernel, by decide +kernel⟩, List.mem_of_getElem? (i := 714) (by decide +kernel), List.mem_of_getElem? (i := 1053) (by decide +kernel), List.mem_of_getElem? (i := 1054) (by decide +kernel)⟩
theorem lw_p56 : lw_okq (⟨"TripRoundsModel", "boardedAt", "(IIIII)I"⟩, 41) := ⟨⟨by decide +kernel, by decide +kernel⟩, List.mem_of_getElem? (i := 714) (by decide +kernel), List.mem_of_getElem? (i := 1057) (by decide +kernel), List.mem_of_getElem? (i := 1058) (by decide +kernel)⟩
theorem lw_p57 : lw_okq (⟨"TripRoundsModel", "putRide", "(II)V"⟩, 41) := ⟨⟨by decide +kernel, by decide +kernel⟩, List.mem_of_getElem? (i := 714) (by decide +kernel), List.mem_of_getElem? (i := 1061) (by decide +kernel), List.mem_of_getElem? (i := 1062) (by decide +kernel)⟩
theorem lw_p58 : lw_okq (⟨"TripRoundsModel", "walkedFrom", "(III)I"⟩, 41) := ⟨⟨by decide +kernel, by decide +kernel⟩, List.mem_of_getElem? (i := 714) (by decide +kernel), List.mem_of_getElem? (i := 1065) (by decide +kernel), List.mem_of_getElem? (i := 1066) (by decide +kernel)⟩
theorem lw_p59 : lw_okq (⟨"TripRoundsModel", "putWalk", "(III)V"⟩, 41) := ⟨⟨by decide +kernel, by decide +kernel⟩, List.mem_of_getElem? (i := 714) (by decide +kernel), List.mem_of_getElem? (i := 1069) (by decide +kernel), List.mem_of_getElem? (i := 1070) (by decide +kernel)⟩
theorem lw_p60 : lw_okq (⟨"TripRoundsModel", "ofLeg", "(II)I"⟩, 41) := ⟨⟨by decide +kernel, by decide +kernel⟩, List.mem_of_getElem? (i := 714) (by decide +kernel), List.mem_of_getElem? (i := 1078) (by decide +kernel), List.mem_of_getElem? (i := 1079) (by decide +kernel)⟩
theorem lw_p61 : lw_okq (⟨"TripRoundsModel", "fareOf", "(II)I"⟩, 41) := ⟨⟨by decide +kernel, by decide +kernel⟩, List.mem_of_getElem? (i := 714) (by decide +kernel), List.mem_of_getElem? (i := 1086) (by decide +kernel), List.mem_of_getElem? (i := 1087) (by decide +kernel)⟩
theorem lw_p62 : lw_okq (⟨"TripRoundsModel", "lateBy", "(IIII)I"⟩, 41) := ⟨⟨by decide +kernel, by decide +kernel⟩, List.mem_of_getElem? (i := 714) (by decide +kernel), List.mem_of_getElem? (i := 1110) (by decide +kernel), List.mem_of_getElem? (i := 1111) (by decide +kernel)⟩
theorem lw_p63 : lw_okq (⟨"TripRoundsModel", "nextBoard", "(IJ)J"⟩, 41) := ⟨⟨by decide +kernel, by decide +kernel⟩, List.mem_of_getElem? (i := 714) (by decide +kernel), List.mem_of_getElem? (i := 1124) (by decide +kernel), List.mem_of_getElem? (i := 1125) (by decide +kernel)⟩
def lw_privs_4 : List (MethodName × Nat) := [(⟨"TripRoundsModel", "earliestOf", "(IIII)I"⟩, 41), (⟨"TripRoundsModel", "layRounds", "(II)V"⟩, 41), (⟨"TripRoundsModel", "layWalks", "(I)V"⟩, 41), (⟨"TripRoundsModel", "footOf", "(II)I"⟩, 41), (⟨"TripRoundsModel", "isRidden", "(II)Z"⟩, 41), (⟨"TripRoundsModel", "layTrip", "(III)V"⟩, 41), (⟨"TripRoundsModel", "layJourney", "(IIII)Z"⟩, 41), (⟨"TripRoundsModel", "seekRide", "(III)Z"⟩, 41), (⟨"TripRoundsModel", "boardedAt", "(IIIII)I"⟩, 41), (⟨"TripRoundsModel", "putRide", "(II)V"⟩, 41), (⟨"TripRoundsModel", "walkedFrom", "(III)I"⟩, 41), (⟨"TripRoundsModel", "putWalk", "(III)V"⟩, 41), (⟨"TripRoundsModel", "ofLeg", "(II)I"⟩, 41), (⟨"TripRoundsModel", "fareOf", "(II)I"⟩, 41), (⟨"TripRoundsModel", "lateBy", "(IIII)I"⟩, 41), (⟨"TripRoundsModel", "nextBoard", "(IJ)J"⟩, 41)]
theorem lw_r4 : ∀ q ∈ lw_privs_4, lw_okq q := List.forall_mem_cons.mpr ⟨lw_p48, List.forall_mem_cons.mpr ⟨lw_p49, List.forall_mem_cons.mpr ⟨lw_p50, List.forall_mem_cons.mpr ⟨lw_p51, List.forall_mem_cons.mpr ⟨lw_p52, List.forall_mem_cons.mpr ⟨lw_p53, List.forall_mem_cons.mpr ⟨lw_p54, List.forall_mem_cons.mpr ⟨lw_p55, List.forall_mem_cons.mpr ⟨lw_p56, List.forall_mem_cons.mpr ⟨lw_p57, List.forall_mem_cons.mpr ⟨lw_p58, List.forall_mem_cons.mpr ⟨lw_p59, List.forall_mem_cons.mpr ⟨lw_p60, List.forall_mem_cons.mpr ⟨lw_p61, List.forall_mem_cons.mpr ⟨lw_p62, List.forall_mem_cons.mpr ⟨lw_p63, fun _ h => absurd h List.not_mem_nil⟩⟩⟩⟩⟩⟩⟩⟩⟩⟩⟩⟩⟩⟩⟩⟩
theorem lw_p64 : lw_okq (⟨"TripRoundsModel", "departureAt", "(III)I"⟩, 41) := ⟨⟨by decide +kernel, by decide +kernel⟩, List.mem_of_getElem? (i := 714) (by decide +kernel), List.mem_of_getElem? (i := 1129) (by decide +kernel), List.mem_of_getElem? (i := 1130) (by decide +kernel)⟩
theorem lw_p65 : lw_okq (⟨"TripRoundsModel", "placeOn", "(II)I"⟩, 41) := ⟨⟨by decide +kernel, by decide +kernel⟩, List.mem_of_getElem? (i := 714) (by decide +kernel), List.mem_of_getElem? (i := 1133) (by decide +kernel), List.mem_of_getElem? (i := 1134) (by decide +kernel)⟩
theorem lw_p66 : lw_okq (⟨"TripRoundsModel", "arrivalAt", "(III)I"⟩, 41) := ⟨⟨by decide +kernel, by decide +kernel⟩, List.mem_of_getElem? (i := 714) (by decide +kernel), List.mem_of_getElem? (i := 1142) (by decide +kernel), List.mem_of_getElem? (i := 1143) (by decide +kernel)⟩
theorem lw_p67 : lw_okq (⟨"TripRoundsModel", "writesLeg", "(I)V"⟩, 41) := ⟨⟨by decide +kernel, by decide +kernel⟩, List.mem_of_getElem? (i := 714) (by decide +kernel), List.mem_of_getElem? (i := 1154) (by decide +kernel), List.mem_of_getElem? (i := 1155) (by decide +kernel)⟩
theorem lw_p68 : lw_okq (⟨"TripRoundsModel", "writes", "(I)V"⟩, 41) := ⟨⟨by decide +kernel, by decide +kernel⟩, List.mem_of_getElem? (i := 714) (by decide +kernel), List.mem_of_getElem? (i := 1158) (by decide +kernel), List.mem_of_getElem? (i := 1159) (by decide +kernel)⟩
theorem lw_p69 : lw_okq (⟨"TripRoundsModel", "writesNumber", "(I)V"⟩, 41) := ⟨⟨by decide +kernel, by decide +kernel⟩, List.mem_of_getElem? (i := 714) (by decide +kernel), List.mem_of_getElem? (i := 1162) (by decide +kernel), List.mem_of_getElem? (i := 1163) (by decide +kernel)⟩
theorem lw_p70 : lw_okq (⟨"TripRoundsModel", "tripsOf", "(Z)I"⟩, 41) := ⟨⟨by decide +kernel, by decide +kernel⟩, List.mem_of_getElem? (i := 714) (by decide +kernel), List.mem_of_getElem? (i := 1174) (by decide +kernel), List.mem_of_getElem? (i := 1175) (by decide +kernel)⟩
theorem lw_p71 : lw_okq (⟨"TripRoundsModel", "footMany", "()I"⟩, 41) := ⟨⟨by decide +kernel, by decide +kernel⟩, List.mem_of_getElem? (i := 714) (by decide +kernel), List.mem_of_getElem? (i := 1178) (by decide +kernel), List.mem_of_getElem? (i := 1179) (by decide +kernel)⟩
theorem lw_p72 : lw_okq (⟨"TripRoundsModel", "bareStops", "()I"⟩, 41) := ⟨⟨by decide +kernel, by decide +kernel⟩, List.mem_of_getElem? (i := 714) (by decide +kernel), List.mem_of_getElem? (i := 1182) (by decide +kernel), List.mem_of_getElem? (i := 1183) (by decide +kernel)⟩
theorem lw_p73 : lw_okq (⟨"TripRoundsModel", "wrongLay", "(IIII)I"⟩, 41) := ⟨⟨by decide +kernel, by decide +kernel⟩, List.mem_of_getElem? (i := 714) (by decide +kernel), List.mem_of_getElem? (i := 1206) (by decide +kernel), List.mem_of_getElem? (i := 1207) (by decide +kernel)⟩
theorem lw_p74 : lw_okq (⟨"TripRoundsModel", "toldAt", "(II)I"⟩, 41) := ⟨⟨by decide +kernel, by decide +kernel⟩, List.mem_of_getElem? (i := 714) (by decide +kernel), List.mem_of_getElem? (i := 1210) (by decide +kernel), List.mem_of_getElem? (i := 1211) (by decide +kernel)⟩
def lw_privs_5 : List (MethodName × Nat) := [(⟨"TripRoundsModel", "departureAt", "(III)I"⟩, 41), (⟨"TripRoundsModel", "placeOn", "(II)I"⟩, 41), (⟨"TripRoundsModel", "arrivalAt", "(III)I"⟩, 41), (⟨"TripRoundsModel", "writesLeg", "(I)V"⟩, 41), (⟨"TripRoundsModel", "writes", "(I)V"⟩, 41), (⟨"TripRoundsModel", "writesNumber", "(I)V"⟩, 41), (⟨"TripRoundsModel", "tripsOf", "(Z)I"⟩, 41), (⟨"TripRoundsModel", "footMany", "()I"⟩, 41), (⟨"TripRoundsModel", "bareStops", "()I"⟩, 41), (⟨"TripRoundsModel", "wrongLay", "(IIII)I"⟩, 41), (⟨"TripRoundsModel", "toldAt", "(II)I"⟩, 41)]
theorem lw_r5 : ∀ q ∈ lw_privs_5, lw_okq q := List.forall_mem_cons.mpr ⟨lw_p64, List.forall_mem_cons.mpr ⟨lw_p65, List.forall_mem_cons.mpr ⟨lw_p66, List.forall_mem_cons.mpr ⟨lw_p67, List.forall_mem_cons.mpr ⟨lw_p68, List.forall_mem_cons.mpr ⟨lw_p69, List.forall_mem_cons.mpr ⟨lw_p70, List.forall_mem_cons.mpr ⟨lw_p71, List.forall_mem_cons.mpr ⟨lw_p72, List.forall_mem_cons.mpr ⟨lw_p73, List.forall_mem_cons.mpr ⟨lw_p74, fun _ h => absurd h List.not_mem_nil⟩⟩⟩⟩⟩⟩⟩⟩⟩⟩⟩
def lw_privs : List (MethodName × Nat) := lw_privs_1 ++ (lw_privs_2 ++ (lw_privs_3 ++ (lw_privs_4 ++ (lw_privs_5))))
def lw_tbl : List Cond := k2_sels lw_privs ++ tables_1
theorem lw_privs_ok : ∀ q ∈ lw_privs, lw_okq q := by
  show ∀ q ∈ lw_privs_1 ++ (lw_privs_2 ++ (lw_privs_3 ++ (lw_privs_4 ++ (lw_privs_5)))), lw_okq q
  exact List.forall_mem_append.mpr ⟨lw_r1, List.forall_mem_append.mpr ⟨lw_r2, List.forall_mem_append.mpr ⟨lw_r3, List.forall_mem_append.mpr ⟨lw_r4, lw_r5⟩⟩⟩⟩

def RX0 : String := "TripRounds$Board"
def TX0 : u_T := fun k => match k with
  | 0 => ("TripRounds$Board", "net", "LTripRounds$Net;", true)
  | 1 => ("TripRounds$Board", "keys", "[I", true)
  | _ => ("TripRounds$Board", "count", "I", false)
def tyX0 : Nat → FieldType := fun k => match k with
  | 0 => .object "TripRounds$Net"
  | 1 => .array .int
  | _ => .int
abbrev wsX00 : List Cond := u_ws RX0 TX0 3
theorem nmX0 : ∀ a, a < 3 → ∀ b, b < 3 → a ≠ b → (TX0 a).2.1 ≠ (TX0 b).2.1 := by decide +kernel
theorem tyX0_ok : ∀ k, k < 3 → parseFieldDescriptor (TX0 k).2.2.1 = some (tyX0 k) := by decide +kernel
abbrev cX0_init : ByteArray := prog_2_method_1_code
def yX0_init : MethodName := ⟨RX0, "<init>", "(LTripRounds$Net;)V"⟩
abbrev cX0_gather : ByteArray := prog_2_method_2_code
def yX0_gather : MethodName := ⟨RX0, "gather", "(II)V"⟩
abbrev cX0_goesOn : ByteArray := prog_2_method_3_code
def yX0_goesOn : MethodName := ⟨RX0, "goesOn", "(II)Z"⟩
abbrev cX0_insert : ByteArray := prog_2_method_4_code
def yX0_insert : MethodName := ⟨RX0, "insert", "(I)V"⟩
abbrev cX0_tell : ByteArray := prog_2_method_5_code
def yX0_tell : MethodName := ⟨RX0, "tell", "(II)I"⟩
abbrev cX0_leastMiss : ByteArray := prog_2_method_6_code
def yX0_leastMiss : MethodName := ⟨RX0, "leastMiss", "(I)I"⟩
abbrev cX0_leastMissOf : ByteArray := prog_2_method_7_code
def yX0_leastMissOf : MethodName := ⟨RX0, "leastMissOf", "(III)I"⟩
def RX1 : String := "TripRounds$Kinds"
def TX1 : u_T := fun k => match k with
  | _ => ("", "", "", false)
def tyX1 : Nat → FieldType := fun k => match k with
  | _ => .int
abbrev wsX10 : List Cond := u_ws RX1 TX1 0
theorem nmX1 : ∀ a, a < 0 → ∀ b, b < 0 → a ≠ b → (TX1 a).2.1 ≠ (TX1 b).2.1 := by decide +kernel
theorem tyX1_ok : ∀ k, k < 0 → parseFieldDescriptor (TX1 k).2.2.1 = some (tyX1 k) := by decide +kernel
abbrev cX1_goesAt : ByteArray := prog_3_method_2_code
def yX1_goesAt : MethodName := ⟨RX1, "goesAt", "(II)Z"⟩
abbrev cX1_price : ByteArray := prog_3_method_3_code
def yX1_price : MethodName := ⟨RX1, "price", "(II)I"⟩
def RX2 : String := "TripRounds$Lists"
def TX2 : u_T := fun k => match k with
  | 0 => ("TripRounds$Lists", "rows", "[[I", true)
  | _ => ("TripRounds$Lists", "sizes", "[I", true)
def tyX2 : Nat → FieldType := fun k => match k with
  | 0 => .array (.array .int)
  | _ => .array .int
abbrev wsX20 : List Cond := u_ws RX2 TX2 2
theorem nmX2 : ∀ a, a < 2 → ∀ b, b < 2 → a ≠ b → (TX2 a).2.1 ≠ (TX2 b).2.1 := by decide +kernel
theorem tyX2_ok : ∀ k, k < 2 → parseFieldDescriptor (TX2 k).2.2.1 = some (tyX2 k) := by decide +kernel
abbrev cX2_init : ByteArray := prog_4_method_1_code
def yX2_init : MethodName := ⟨RX2, "<init>", "()V"⟩
abbrev cX2_isList : ByteArray := prog_4_method_2_code
def yX2_isList : MethodName := ⟨RX2, "isList", "(I)Z"⟩
abbrev cX2_isHeld : ByteArray := prog_4_method_3_code
def yX2_isHeld : MethodName := ⟨RX2, "isHeld", "(I)Z"⟩
abbrev cX2_hasPlace : ByteArray := prog_4_method_4_code
def yX2_hasPlace : MethodName := ⟨RX2, "hasPlace", "(II)Z"⟩
abbrev cX2_hasPlaceBehind : ByteArray := prog_4_method_5_code
def yX2_hasPlaceBehind : MethodName := ⟨RX2, "hasPlaceBehind", "(III)Z"⟩
abbrev cX2_begin : ByteArray := prog_4_method_6_code
def yX2_begin : MethodName := ⟨RX2, "begin", "(II)V"⟩
def RX3 : String := "TripRounds$Net"
def TX3 : u_T := fun k => match k with
  | 0 => ("TripRounds$Net", "lines", "I", false)
  | 1 => ("TripRounds$Net", "kinds", "[I", true)
  | 2 => ("TripRounds$Net", "sizes", "[I", true)
  | 3 => ("TripRounds$Net", "trips", "[I", true)
  | 4 => ("TripRounds$Net", "stops", "[[I", true)
  | 5 => ("TripRounds$Net", "minutes", "[[I", true)
  | 6 => ("TripRounds$Net", "running", "[I", true)
  | _ => ("TripRounds$Net", "paths", "[[I", true)
def tyX3 : Nat → FieldType := fun k => match k with
  | 0 => .int
  | 1 => .array .int
  | 2 => .array .int
  | 3 => .array .int
  | 4 => .array (.array .int)
  | 5 => .array (.array .int)
  | 6 => .array .int
  | _ => .array (.array .int)
abbrev wsX30 : List Cond := u_ws RX3 TX3 8
theorem nmX3 : ∀ a, a < 8 → ∀ b, b < 8 → a ≠ b → (TX3 a).2.1 ≠ (TX3 b).2.1 := by decide +kernel
theorem tyX3_ok : ∀ k, k < 8 → parseFieldDescriptor (TX3 k).2.2.1 = some (tyX3 k) := by decide +kernel
abbrev cX3_init : ByteArray := prog_5_method_1_code
def yX3_init : MethodName := ⟨RX3, "<init>", "()V"⟩
abbrev cX3_copyFrom : ByteArray := prog_5_method_2_code
def yX3_copyFrom : MethodName := ⟨RX3, "copyFrom", "(LTripRounds$Net;)V"⟩
abbrev cX3_hasLine : ByteArray := prog_5_method_3_code
def yX3_hasLine : MethodName := ⟨RX3, "hasLine", "(I)Z"⟩
abbrev cX3_hasTrip : ByteArray := prog_5_method_4_code
def yX3_hasTrip : MethodName := ⟨RX3, "hasTrip", "(II)Z"⟩
abbrev cX3_hasPlace : ByteArray := prog_5_method_5_code
def yX3_hasPlace : MethodName := ⟨RX3, "hasPlace", "(II)Z"⟩
abbrev cX3_rowOf : ByteArray := prog_5_method_6_code
def yX3_rowOf : MethodName := ⟨RX3, "rowOf", "(II)I"⟩
abbrev cX3_minuteOf : ByteArray := prog_5_method_7_code
def yX3_minuteOf : MethodName := ⟨RX3, "minuteOf", "(III)I"⟩
abbrev cX3_isRunning : ByteArray := prog_5_method_8_code
def yX3_isRunning : MethodName := ⟨RX3, "isRunning", "(II)Z"⟩
abbrev cX3_placeOf : ByteArray := prog_5_method_9_code
def yX3_placeOf : MethodName := ⟨RX3, "placeOf", "(II)I"⟩
abbrev cX3_beginLine : ByteArray := prog_5_method_10_code
def yX3_beginLine : MethodName := ⟨RX3, "beginLine", "(I)V"⟩
abbrev cX3_addStop : ByteArray := prog_5_method_11_code
def yX3_addStop : MethodName := ⟨RX3, "addStop", "(II)V"⟩
abbrev cX3_beginTrip : ByteArray := prog_5_method_12_code
def yX3_beginTrip : MethodName := ⟨RX3, "beginTrip", "(II)V"⟩
abbrev cX3_putMinute : ByteArray := prog_5_method_13_code
def yX3_putMinute : MethodName := ⟨RX3, "putMinute", "(IIII)V"⟩
abbrev cX3_putPath : ByteArray := prog_5_method_14_code
def yX3_putPath : MethodName := ⟨RX3, "putPath", "(III)V"⟩
abbrev cX3_putDelay : ByteArray := prog_5_method_15_code
def yX3_putDelay : MethodName := ⟨RX3, "putDelay", "(IIII)Z"⟩
abbrev cX3_countRunning : ByteArray := prog_5_method_16_code
def yX3_countRunning : MethodName := ⟨RX3, "countRunning", "(I)I"⟩
abbrev cX3_countAllRunning : ByteArray := prog_5_method_17_code
def yX3_countAllRunning : MethodName := ⟨RX3, "countAllRunning", "()I"⟩
abbrev cX3_countTrips : ByteArray := prog_5_method_18_code
def yX3_countTrips : MethodName := ⟨RX3, "countTrips", "()I"⟩
abbrev cX3_countPaths : ByteArray := prog_5_method_19_code
def yX3_countPaths : MethodName := ⟨RX3, "countPaths", "()I"⟩
abbrev cX3_countLoneStops : ByteArray := prog_5_method_20_code
def yX3_countLoneStops : MethodName := ⟨RX3, "countLoneStops", "()I"⟩
abbrev cX3_isServed : ByteArray := prog_5_method_21_code
def yX3_isServed : MethodName := ⟨RX3, "isServed", "(I)Z"⟩
def RX4 : String := "TripRounds$Reader"
def TX4 : u_T := fun k => match k with
  | 0 => ("TripRounds$Reader", "net", "LTripRounds$Net;", true)
  | 1 => ("TripRounds$Reader", "tape", "LTripRounds$Text;", true)
  | 2 => ("TripRounds$Reader", "at", "I", false)
  | 3 => ("TripRounds$Reader", "partBegin", "I", false)
  | 4 => ("TripRounds$Reader", "number", "I", false)
  | 5 => ("TripRounds$Reader", "numberBegin", "I", false)
  | _ => ("TripRounds$Reader", "fault", "I", false)
def tyX4 : Nat → FieldType := fun k => match k with
  | 0 => .object "TripRounds$Net"
  | 1 => .object "TripRounds$Text"
  | 2 => .int
  | 3 => .int
  | 4 => .int
  | 5 => .int
  | _ => .int
abbrev wsX40 : List Cond := u_ws RX4 TX4 7
theorem nmX4 : ∀ a, a < 7 → ∀ b, b < 7 → a ≠ b → (TX4 a).2.1 ≠ (TX4 b).2.1 := by decide +kernel
theorem tyX4_ok : ∀ k, k < 7 → parseFieldDescriptor (TX4 k).2.2.1 = some (tyX4 k) := by decide +kernel
abbrev cX4_init : ByteArray := prog_6_method_1_code
def yX4_init : MethodName := ⟨RX4, "<init>", "(LTripRounds$Net;LTripRounds$Text;)V"⟩
abbrev cX4_readTable : ByteArray := prog_6_method_2_code
def yX4_readTable : MethodName := ⟨RX4, "readTable", "()I"⟩
abbrev cX4_failAt : ByteArray := prog_6_method_3_code
def yX4_failAt : MethodName := ⟨RX4, "failAt", "(I)Z"⟩
abbrev cX4_takeByte : ByteArray := prog_6_method_4_code
def yX4_takeByte : MethodName := ⟨RX4, "takeByte", "(I)Z"⟩
abbrev cX4_isFigure : ByteArray := prog_6_method_5_code
def yX4_isFigure : MethodName := ⟨RX4, "isFigure", "(I)Z"⟩
abbrev cX4_takeNumber : ByteArray := prog_6_method_6_code
def yX4_takeNumber : MethodName := ⟨RX4, "takeNumber", "(III)Z"⟩
abbrev cX4_readPart : ByteArray := prog_6_method_7_code
def yX4_readPart : MethodName := ⟨RX4, "readPart", "()Z"⟩
abbrev cX4_readLine : ByteArray := prog_6_method_8_code
def yX4_readLine : MethodName := ⟨RX4, "readLine", "()Z"⟩
abbrev cX4_isPartEnd : ByteArray := prog_6_method_9_code
def yX4_isPartEnd : MethodName := ⟨RX4, "isPartEnd", "()Z"⟩
abbrev cX4_takeStop : ByteArray := prog_6_method_10_code
def yX4_takeStop : MethodName := ⟨RX4, "takeStop", "()Z"⟩
abbrev cX4_readTrip : ByteArray := prog_6_method_11_code
def yX4_readTrip : MethodName := ⟨RX4, "readTrip", "()Z"⟩
abbrev cX4_readPath : ByteArray := prog_6_method_12_code
def yX4_readPath : MethodName := ⟨RX4, "readPath", "()Z"⟩
abbrev cX4_readDelay : ByteArray := prog_6_method_13_code
def yX4_readDelay : MethodName := ⟨RX4, "readDelay", "()Z"⟩
def RX5 : String := "TripRounds$Route"
def TX5 : u_T := fun k => match k with
  | 0 => ("TripRounds$Route", "net", "LTripRounds$Net;", true)
  | 1 => ("TripRounds$Route", "search", "LTripRounds$Search;", true)
  | 2 => ("TripRounds$Route", "backward", "[[I", true)
  | 3 => ("TripRounds$Route", "count", "I", false)
  | 4 => ("TripRounds$Route", "rideLine", "I", false)
  | 5 => ("TripRounds$Route", "rideTrip", "I", false)
  | _ => ("TripRounds$Route", "rideFrom", "I", false)
def tyX5 : Nat → FieldType := fun k => match k with
  | 0 => .object "TripRounds$Net"
  | 1 => .object "TripRounds$Search"
  | 2 => .array (.array .int)
  | 3 => .int
  | 4 => .int
  | 5 => .int
  | _ => .int
abbrev wsX50 : List Cond := u_ws RX5 TX5 7
theorem nmX5 : ∀ a, a < 7 → ∀ b, b < 7 → a ≠ b → (TX5 a).2.1 ≠ (TX5 b).2.1 := by decide +kernel
theorem tyX5_ok : ∀ k, k < 7 → parseFieldDescriptor (TX5 k).2.2.1 = some (tyX5 k) := by decide +kernel
abbrev cX5_init : ByteArray := prog_7_method_1_code
def yX5_init : MethodName := ⟨RX5, "<init>", "(LTripRounds$Net;LTripRounds$Search;)V"⟩
abbrev cX5_trace : ByteArray := prog_7_method_2_code
def yX5_trace : MethodName := ⟨RX5, "trace", "(IIII)Z"⟩
abbrev cX5_findRide : ByteArray := prog_7_method_3_code
def yX5_findRide : MethodName := ⟨RX5, "findRide", "(III)Z"⟩
abbrev cX5_findBeginning : ByteArray := prog_7_method_4_code
def yX5_findBeginning : MethodName := ⟨RX5, "findBeginning", "(III[I)Z"⟩
abbrev cX5_addRide : ByteArray := prog_7_method_5_code
def yX5_addRide : MethodName := ⟨RX5, "addRide", "(I)I"⟩
abbrev cX5_addWalk : ByteArray := prog_7_method_6_code
def yX5_addWalk : MethodName := ⟨RX5, "addWalk", "(IIII)I"⟩
abbrev cX5_putWalk : ByteArray := prog_7_method_7_code
def yX5_putWalk : MethodName := ⟨RX5, "putWalk", "(IIII)V"⟩
abbrev cX5_tell : ByteArray := prog_7_method_8_code
def yX5_tell : MethodName := ⟨RX5, "tell", "(II)I"⟩
abbrev cX5_sumFares : ByteArray := prog_7_method_9_code
def yX5_sumFares : MethodName := ⟨RX5, "sumFares", "()I"⟩
abbrev cX5_sumMoving : ByteArray := prog_7_method_10_code
def yX5_sumMoving : MethodName := ⟨RX5, "sumMoving", "()I"⟩
abbrev cX5_spellInto : ByteArray := prog_7_method_11_code
def yX5_spellInto : MethodName := ⟨RX5, "spellInto", "(LTripRounds$Text;)V"⟩
def RX6 : String := "TripRounds$Search"
def TX6 : u_T := fun k => match k with
  | 0 => ("TripRounds$Search", "net", "LTripRounds$Net;", true)
  | 1 => ("TripRounds$Search", "best", "[[I", true)
  | 2 => ("TripRounds$Search", "ridden", "[[I", true)
  | 3 => ("TripRounds$Search", "lostLine", "I", false)
  | 4 => ("TripRounds$Search", "lostTrip", "I", false)
  | _ => ("TripRounds$Search", "shutStop", "I", false)
def tyX6 : Nat → FieldType := fun k => match k with
  | 0 => .object "TripRounds$Net"
  | 1 => .array (.array .int)
  | 2 => .array (.array .int)
  | 3 => .int
  | 4 => .int
  | _ => .int
abbrev wsX60 : List Cond := u_ws RX6 TX6 6
theorem nmX6 : ∀ a, a < 6 → ∀ b, b < 6 → a ≠ b → (TX6 a).2.1 ≠ (TX6 b).2.1 := by decide +kernel
theorem tyX6_ok : ∀ k, k < 6 → parseFieldDescriptor (TX6 k).2.2.1 = some (tyX6 k) := by decide +kernel
abbrev cX6_init : ByteArray := prog_8_method_1_code
def yX6_init : MethodName := ⟨RX6, "<init>", "(LTripRounds$Net;)V"⟩
abbrev cX6_loseNothing : ByteArray := prog_8_method_2_code
def yX6_loseNothing : MethodName := ⟨RX6, "loseNothing", "()V"⟩
abbrev cX6_arrival : ByteArray := prog_8_method_3_code
def yX6_arrival : MethodName := ⟨RX6, "arrival", "(IIII)I"⟩
abbrev cX6_arrivalWithoutTrip : ByteArray := prog_8_method_4_code
def yX6_arrivalWithoutTrip : MethodName := ⟨RX6, "arrivalWithoutTrip", "(IIIIII)I"⟩
abbrev cX6_arrivalWithoutStop : ByteArray := prog_8_method_5_code
def yX6_arrivalWithoutStop : MethodName := ⟨RX6, "arrivalWithoutStop", "(IIIII)I"⟩
abbrev cX6_run : ByteArray := prog_8_method_6_code
def yX6_run : MethodName := ⟨RX6, "run", "(III)V"⟩
abbrev cX6_rideAll : ByteArray := prog_8_method_7_code
def yX6_rideAll : MethodName := ⟨RX6, "rideAll", "([I[I)V"⟩
abbrev cX6_rideOne : ByteArray := prog_8_method_8_code
def yX6_rideOne : MethodName := ⟨RX6, "rideOne", "(II[I[I)V"⟩
abbrev cX6_arriveAll : ByteArray := prog_8_method_9_code
def yX6_arriveAll : MethodName := ⟨RX6, "arriveAll", "(II[I[I)V"⟩
abbrev cX6_arriveAt : ByteArray := prog_8_method_10_code
def yX6_arriveAt : MethodName := ⟨RX6, "arriveAt", "(III[I)I"⟩
def RX7 : String := "TripRounds$Text"
def TX7 : u_T := fun k => match k with
  | 0 => ("TripRounds$Text", "bytes", "[I", true)
  | _ => ("TripRounds$Text", "length", "I", false)
def tyX7 : Nat → FieldType := fun k => match k with
  | 0 => .array .int
  | _ => .int
abbrev wsX70 : List Cond := u_ws RX7 TX7 2
theorem nmX7 : ∀ a, a < 2 → ∀ b, b < 2 → a ≠ b → (TX7 a).2.1 ≠ (TX7 b).2.1 := by decide +kernel
theorem tyX7_ok : ∀ k, k < 2 → parseFieldDescriptor (TX7 k).2.2.1 = some (tyX7 k) := by decide +kernel
abbrev cX7_init : ByteArray := prog_9_method_1_code
def yX7_init : MethodName := ⟨RX7, "<init>", "(I)V"⟩
abbrev cX7_put : ByteArray := prog_9_method_2_code
def yX7_put : MethodName := ⟨RX7, "put", "(I)V"⟩
abbrev cX7_putNumber : ByteArray := prog_9_method_3_code
def yX7_putNumber : MethodName := ⟨RX7, "putNumber", "(I)V"⟩
abbrev cX7_byteAt : ByteArray := prog_9_method_4_code
def yX7_byteAt : MethodName := ⟨RX7, "byteAt", "(I)I"⟩
def RX8 : String := "TripRounds"
def TX8 : u_T := fun k => match k with
  | 0 => ("TripRounds", "net", "LTripRounds$Net;", true)
  | 1 => ("TripRounds", "kept", "LTripRounds$Net;", true)
  | 2 => ("TripRounds", "before", "LTripRounds$Net;", true)
  | 3 => ("TripRounds", "search", "LTripRounds$Search;", true)
  | 4 => ("TripRounds", "route", "LTripRounds$Route;", true)
  | 5 => ("TripRounds", "departures", "LTripRounds$Board;", true)
  | 6 => ("TripRounds", "tape", "LTripRounds$Text;", true)
  | 7 => ("TripRounds", "spelled", "LTripRounds$Text;", true)
  | 8 => ("TripRounds", "reader", "LTripRounds$Reader;", true)
  | 9 => ("TripRounds", "lists", "LTripRounds$Lists;", true)
  | _ => ("TripRounds", "hasImage", "Z", false)
def tyX8 : Nat → FieldType := fun k => match k with
  | 0 => .object "TripRounds$Net"
  | 1 => .object "TripRounds$Net"
  | 2 => .object "TripRounds$Net"
  | 3 => .object "TripRounds$Search"
  | 4 => .object "TripRounds$Route"
  | 5 => .object "TripRounds$Board"
  | 6 => .object "TripRounds$Text"
  | 7 => .object "TripRounds$Text"
  | 8 => .object "TripRounds$Reader"
  | 9 => .object "TripRounds$Lists"
  | _ => .boolean
abbrev wsX80 : List Cond := u_ws RX8 TX8 11
theorem nmX8 : ∀ a, a < 11 → ∀ b, b < 11 → a ≠ b → (TX8 a).2.1 ≠ (TX8 b).2.1 := by decide +kernel
theorem tyX8_ok : ∀ k, k < 11 → parseFieldDescriptor (TX8 k).2.2.1 = some (tyX8 k) := by decide +kernel
abbrev cX8_init : ByteArray := prog_1_method_1_code
def yX8_init : MethodName := ⟨RX8, "<init>", "()V"⟩
abbrev cX8_feed : ByteArray := prog_1_method_2_code
def yX8_feed : MethodName := ⟨RX8, "feed", "(I)I"⟩
abbrev cX8_clear : ByteArray := prog_1_method_3_code
def yX8_clear : MethodName := ⟨RX8, "clear", "()I"⟩
abbrev cX8_table : ByteArray := prog_1_method_4_code
def yX8_table : MethodName := ⟨RX8, "table", "()I"⟩
abbrev cX8_line : ByteArray := prog_1_method_5_code
def yX8_line : MethodName := ⟨RX8, "line", "(II)I"⟩
abbrev cX8_stop : ByteArray := prog_1_method_6_code
def yX8_stop : MethodName := ⟨RX8, "stop", "(II)I"⟩
abbrev cX8_minute : ByteArray := prog_1_method_7_code
def yX8_minute : MethodName := ⟨RX8, "minute", "(III)I"⟩
abbrev cX8_runs : ByteArray := prog_1_method_8_code
def yX8_runs : MethodName := ⟨RX8, "runs", "(II)I"⟩
abbrev cX8_foot : ByteArray := prog_1_method_9_code
def yX8_foot : MethodName := ⟨RX8, "foot", "(II)I"⟩
abbrev cX8_walk : ByteArray := prog_1_method_10_code
def yX8_walk : MethodName := ⟨RX8, "walk", "(III)I"⟩
abbrev cX8_delay : ByteArray := prog_1_method_11_code
def yX8_delay : MethodName := ⟨RX8, "delay", "(IIII)I"⟩
abbrev cX8_drop : ByteArray := prog_1_method_12_code
def yX8_drop : MethodName := ⟨RX8, "drop", "(I)I"⟩
abbrev cX8_earliest : ByteArray := prog_1_method_13_code
def yX8_earliest : MethodName := ⟨RX8, "earliest", "(IIII)I"⟩
abbrev cX8_worth : ByteArray := prog_1_method_14_code
def yX8_worth : MethodName := ⟨RX8, "worth", "(III)I"⟩
abbrev cX8_legs : ByteArray := prog_1_method_15_code
def yX8_legs : MethodName := ⟨RX8, "legs", "(IIII)I"⟩
abbrev cX8_leg : ByteArray := prog_1_method_16_code
def yX8_leg : MethodName := ⟨RX8, "leg", "(IIIIII)I"⟩
abbrev cX8_fare : ByteArray := prog_1_method_17_code
def yX8_fare : MethodName := ⟨RX8, "fare", "(IIII)I"⟩
abbrev cX8_waiting : ByteArray := prog_1_method_18_code
def yX8_waiting : MethodName := ⟨RX8, "waiting", "(IIII)I"⟩
abbrev cX8_latest : ByteArray := prog_1_method_19_code
def yX8_latest : MethodName := ⟨RX8, "latest", "(IIII)I"⟩
abbrev cX8_profile : ByteArray := prog_1_method_20_code
def yX8_profile : MethodName := ⟨RX8, "profile", "(IIIIII)I"⟩
abbrev cX8_reached : ByteArray := prog_1_method_21_code
def yX8_reached : MethodName := ⟨RX8, "reached", "(IIII)I"⟩
abbrev cX8_worst : ByteArray := prog_1_method_22_code
def yX8_worst : MethodName := ⟨RX8, "worst", "(IIIII)I"⟩
abbrev cX8_cut : ByteArray := prog_1_method_23_code
def yX8_cut : MethodName := ⟨RX8, "cut", "(IIIII)I"⟩
abbrev cX8_lossAnswer : ByteArray := prog_1_method_24_code
def yX8_lossAnswer : MethodName := ⟨RX8, "lossAnswer", "(III)I"⟩
abbrev cX8_board : ByteArray := prog_1_method_25_code
def yX8_board : MethodName := ⟨RX8, "board", "(IIII)I"⟩
abbrev cX8_missed : ByteArray := prog_1_method_26_code
def yX8_missed : MethodName := ⟨RX8, "missed", "(I)I"⟩
abbrev cX8_meet : ByteArray := prog_1_method_27_code
def yX8_meet : MethodName := ⟨RX8, "meet", "(II)I"⟩
abbrev cX8_spell : ByteArray := prog_1_method_28_code
def yX8_spell : MethodName := ⟨RX8, "spell", "(IIII)I"⟩
abbrev cX8_paper : ByteArray := prog_1_method_29_code
def yX8_paper : MethodName := ⟨RX8, "paper", "(I)I"⟩
abbrev cX8_told : ByteArray := prog_1_method_30_code
def yX8_told : MethodName := ⟨RX8, "told", "(I)I"⟩
abbrev cX8_list : ByteArray := prog_1_method_31_code
def yX8_list : MethodName := ⟨RX8, "list", "(II)I"⟩
abbrev cX8_set : ByteArray := prog_1_method_32_code
def yX8_set : MethodName := ⟨RX8, "set", "(III)I"⟩
abbrev cX8_get : ByteArray := prog_1_method_33_code
def yX8_get : MethodName := ⟨RX8, "get", "(II)I"⟩
abbrev cX8_lay : ByteArray := prog_1_method_34_code
def yX8_lay : MethodName := ⟨RX8, "lay", "(IIIII)I"⟩
abbrev cX8_judge : ByteArray := prog_1_method_35_code
def yX8_judge : MethodName := ⟨RX8, "judge", "(IIIII)I"⟩
abbrev cX8_listRefusal : ByteArray := prog_1_method_36_code
def yX8_listRefusal : MethodName := ⟨RX8, "listRefusal", "(IIII)I"⟩
abbrev cX8_toldArrival : ByteArray := prog_1_method_37_code
def yX8_toldArrival : MethodName := ⟨RX8, "toldArrival", "(II)I"⟩
abbrev cX8_image : ByteArray := prog_1_method_38_code
def yX8_image : MethodName := ⟨RX8, "image", "()I"⟩
abbrev cX8_undo : ByteArray := prog_1_method_39_code
def yX8_undo : MethodName := ⟨RX8, "undo", "()I"⟩
abbrev cX8_isStop : ByteArray := prog_1_method_40_code
def yX8_isStop : MethodName := ⟨RX8, "isStop", "(I)Z"⟩
abbrev cX8_isMinute : ByteArray := prog_1_method_41_code
def yX8_isMinute : MethodName := ⟨RX8, "isMinute", "(I)Z"⟩
abbrev cX8_isRides : ByteArray := prog_1_method_42_code
def yX8_isRides : MethodName := ⟨RX8, "isRides", "(I)Z"⟩
abbrev cX8_refusal : ByteArray := prog_1_method_43_code
def yX8_refusal : MethodName := ⟨RX8, "refusal", "(IIII)I"⟩
abbrev cX8_orMissing : ByteArray := prog_1_method_44_code
def yX8_orMissing : MethodName := ⟨RX8, "orMissing", "(I)I"⟩
def RX9 : String := "TripRoundsModel"
def TX9 : u_T := fun k => match k with
  | 0 => ("TripRoundsModel", "lines", "I", false)
  | 1 => ("TripRoundsModel", "kinds", "[I", true)
  | 2 => ("TripRoundsModel", "stopMany", "[I", true)
  | 3 => ("TripRoundsModel", "stops", "[I", true)
  | 4 => ("TripRoundsModel", "tripMany", "[I", true)
  | 5 => ("TripRoundsModel", "firsts", "[I", true)
  | 6 => ("TripRoundsModel", "minutes", "[I", true)
  | 7 => ("TripRoundsModel", "feet", "[I", true)
  | 8 => ("TripRoundsModel", "thrown", "I", false)
  | 9 => ("TripRoundsModel", "lostTrip", "I", false)
  | 10 => ("TripRoundsModel", "lostStop", "I", false)
  | 11 => ("TripRoundsModel", "set0", "I", false)
  | 12 => ("TripRoundsModel", "rides", "[I", true)
  | 13 => ("TripRoundsModel", "there", "[I", true)
  | 14 => ("TripRoundsModel", "legMany", "I", false)
  | 15 => ("TripRoundsModel", "legLine", "[I", true)
  | 16 => ("TripRoundsModel", "legTrip", "[I", true)
  | 17 => ("TripRoundsModel", "legFrom", "[I", true)
  | 18 => ("TripRoundsModel", "legTo", "[I", true)
  | 19 => ("TripRoundsModel", "legBegins", "[I", true)
  | 20 => ("TripRoundsModel", "legEnds", "[I", true)
  | 21 => ("TripRoundsModel", "legStops", "[I", true)
  | 22 => ("TripRoundsModel", "rideLine", "I", false)
  | 23 => ("TripRoundsModel", "rideTrip", "I", false)
  | 24 => ("TripRoundsModel", "ridePlace", "I", false)
  | 25 => ("TripRoundsModel", "tape", "[I", true)
  | 26 => ("TripRoundsModel", "size", "I", false)
  | 27 => ("TripRoundsModel", "place", "I", false)
  | 28 => ("TripRoundsModel", "isBad", "Z", false)
  | 29 => ("TripRoundsModel", "numberAt", "I", false)
  | 30 => ("TripRoundsModel", "kept", "[I", true)
  | 31 => ("TripRoundsModel", "imaged", "[I", true)
  | 32 => ("TripRoundsModel", "hasImage", "Z", false)
  | 33 => ("TripRoundsModel", "place0", "I", false)
  | 34 => ("TripRoundsModel", "isTaking", "Z", false)
  | 35 => ("TripRoundsModel", "keptIn", "[I", false)
  | 36 => ("TripRoundsModel", "paper0", "[I", true)
  | 37 => ("TripRoundsModel", "paperSize", "I", false)
  | 38 => ("TripRoundsModel", "holdsList", "[Z", true)
  | 39 => ("TripRoundsModel", "listMany", "[I", true)
  | _ => ("TripRoundsModel", "listed", "[I", true)
def tyX9 : Nat → FieldType := fun k => match k with
  | 0 => .int
  | 1 => .array .int
  | 2 => .array .int
  | 3 => .array .int
  | 4 => .array .int
  | 5 => .array .int
  | 6 => .array .int
  | 7 => .array .int
  | 8 => .int
  | 9 => .int
  | 10 => .int
  | 11 => .int
  | 12 => .array .int
  | 13 => .array .int
  | 14 => .int
  | 15 => .array .int
  | 16 => .array .int
  | 17 => .array .int
  | 18 => .array .int
  | 19 => .array .int
  | 20 => .array .int
  | 21 => .array .int
  | 22 => .int
  | 23 => .int
  | 24 => .int
  | 25 => .array .int
  | 26 => .int
  | 27 => .int
  | 28 => .boolean
  | 29 => .int
  | 30 => .array .int
  | 31 => .array .int
  | 32 => .boolean
  | 33 => .int
  | 34 => .boolean
  | 35 => .array .int
  | 36 => .array .int
  | 37 => .int
  | 38 => .array .boolean
  | 39 => .array .int
  | _ => .array .int
abbrev wsX90 : List Cond := u_ws RX9 TX9 41
theorem nmX9 : ∀ a, a < 41 → ∀ b, b < 41 → a ≠ b → (TX9 a).2.1 ≠ (TX9 b).2.1 := by decide +kernel
theorem tyX9_ok : ∀ k, k < 41 → parseFieldDescriptor (TX9 k).2.2.1 = some (tyX9 k) := by decide +kernel
abbrev cX9_init : ByteArray := prog_11_method_1_code
def yX9_init : MethodName := ⟨RX9, "<init>", "()V"⟩
abbrev cX9_in : ByteArray := prog_11_method_3_code
def yX9_in : MethodName := ⟨RX9, "in", "(JJJ)Z"⟩
abbrev cX9_isStop : ByteArray := prog_11_method_4_code
def yX9_isStop : MethodName := ⟨RX9, "isStop", "(I)Z"⟩
abbrev cX9_isMinute : ByteArray := prog_11_method_5_code
def yX9_isMinute : MethodName := ⟨RX9, "isMinute", "(I)Z"⟩
abbrev cX9_isLine : ByteArray := prog_11_method_6_code
def yX9_isLine : MethodName := ⟨RX9, "isLine", "(I)Z"⟩
abbrev cX9_isTrip : ByteArray := prog_11_method_7_code
def yX9_isTrip : MethodName := ⟨RX9, "isTrip", "(II)Z"⟩
abbrev cX9_isNight : ByteArray := prog_11_method_8_code
def yX9_isNight : MethodName := ⟨RX9, "isNight", "(I)Z"⟩
abbrev cX9_isRunning : ByteArray := prog_11_method_9_code
def yX9_isRunning : MethodName := ⟨RX9, "isRunning", "(II)Z"⟩
abbrev cX9_fareOf : ByteArray := prog_11_method_10_code
def yX9_fareOf : MethodName := ⟨RX9, "fareOf", "(II)I"⟩
abbrev cX9_minuteAt : ByteArray := prog_11_method_11_code
def yX9_minuteAt : MethodName := ⟨RX9, "minuteAt", "(III)I"⟩
abbrev cX9_stopAt : ByteArray := prog_11_method_12_code
def yX9_stopAt : MethodName := ⟨RX9, "stopAt", "(II)I"⟩
abbrev cX9_isRidden : ByteArray := prog_11_method_13_code
def yX9_isRidden : MethodName := ⟨RX9, "isRidden", "(II)Z"⟩
abbrev cX9_footOf : ByteArray := prog_11_method_14_code
def yX9_footOf : MethodName := ⟨RX9, "footOf", "(II)I"⟩
abbrev cX9_layWalks : ByteArray := prog_11_method_15_code
def yX9_layWalks : MethodName := ⟨RX9, "layWalks", "(I)V"⟩
abbrev cX9_layTrip : ByteArray := prog_11_method_16_code
def yX9_layTrip : MethodName := ⟨RX9, "layTrip", "(III)V"⟩
abbrev cX9_layRounds : ByteArray := prog_11_method_17_code
def yX9_layRounds : MethodName := ⟨RX9, "layRounds", "(II)V"⟩
abbrev cX9_earliestOf : ByteArray := prog_11_method_18_code
def yX9_earliestOf : MethodName := ⟨RX9, "earliestOf", "(IIII)I"⟩
abbrev cX9_boardedAt : ByteArray := prog_11_method_19_code
def yX9_boardedAt : MethodName := ⟨RX9, "boardedAt", "(IIIII)I"⟩
abbrev cX9_seekRide : ByteArray := prog_11_method_20_code
def yX9_seekRide : MethodName := ⟨RX9, "seekRide", "(III)Z"⟩
abbrev cX9_putRide : ByteArray := prog_11_method_21_code
def yX9_putRide : MethodName := ⟨RX9, "putRide", "(II)V"⟩
abbrev cX9_putWalk : ByteArray := prog_11_method_22_code
def yX9_putWalk : MethodName := ⟨RX9, "putWalk", "(III)V"⟩
abbrev cX9_walkedFrom : ByteArray := prog_11_method_23_code
def yX9_walkedFrom : MethodName := ⟨RX9, "walkedFrom", "(III)I"⟩
abbrev cX9_layJourney : ByteArray := prog_11_method_24_code
def yX9_layJourney : MethodName := ⟨RX9, "layJourney", "(IIII)Z"⟩
abbrev cX9_feed : ByteArray := prog_11_method_25_code
def yX9_feed : MethodName := ⟨RX9, "feed", "(I)I"⟩
abbrev cX9_clear : ByteArray := prog_11_method_26_code
def yX9_clear : MethodName := ⟨RX9, "clear", "()I"⟩
abbrev cX9_here : ByteArray := prog_11_method_27_code
def yX9_here : MethodName := ⟨RX9, "here", "()I"⟩
abbrev cX9_goesOn : ByteArray := prog_11_method_28_code
def yX9_goesOn : MethodName := ⟨RX9, "goesOn", "(I)Z"⟩
abbrev cX9_wants : ByteArray := prog_11_method_29_code
def yX9_wants : MethodName := ⟨RX9, "wants", "(I)V"⟩
abbrev cX9_readFigures : ByteArray := prog_11_method_30_code
def yX9_readFigures : MethodName := ⟨RX9, "readFigures", "(I)I"⟩
abbrev cX9_mustBe : ByteArray := prog_11_method_31_code
def yX9_mustBe : MethodName := ⟨RX9, "mustBe", "(ZI)V"⟩
abbrev cX9_readWithin : ByteArray := prog_11_method_32_code
def yX9_readWithin : MethodName := ⟨RX9, "readWithin", "(III)I"⟩
abbrev cX9_readLine : ByteArray := prog_11_method_33_code
def yX9_readLine : MethodName := ⟨RX9, "readLine", "(I)V"⟩
abbrev cX9_readTrip : ByteArray := prog_11_method_34_code
def yX9_readTrip : MethodName := ⟨RX9, "readTrip", "(I)V"⟩
abbrev cX9_readFoot : ByteArray := prog_11_method_35_code
def yX9_readFoot : MethodName := ⟨RX9, "readFoot", "()V"⟩
abbrev cX9_isTooLate : ByteArray := prog_11_method_36_code
def yX9_isTooLate : MethodName := ⟨RX9, "isTooLate", "(III)Z"⟩
abbrev cX9_delays : ByteArray := prog_11_method_37_code
def yX9_delays : MethodName := ⟨RX9, "delays", "(IIII)V"⟩
abbrev cX9_readDelay : ByteArray := prog_11_method_38_code
def yX9_readDelay : MethodName := ⟨RX9, "readDelay", "(I)V"⟩
abbrev cX9_readPart : ByteArray := prog_11_method_39_code
def yX9_readPart : MethodName := ⟨RX9, "readPart", "()V"⟩
abbrev cX9_table : ByteArray := prog_11_method_40_code
def yX9_table : MethodName := ⟨RX9, "table", "()I"⟩
abbrev cX9_carry : ByteArray := prog_11_method_41_code
def yX9_carry : MethodName := ⟨RX9, "carry", "(I)I"⟩
abbrev cX9_carryAll : ByteArray := prog_11_method_42_code
def yX9_carryAll : MethodName := ⟨RX9, "carryAll", "([IZ)V"⟩
abbrev cX9_image : ByteArray := prog_11_method_43_code
def yX9_image : MethodName := ⟨RX9, "image", "()I"⟩
abbrev cX9_undo : ByteArray := prog_11_method_44_code
def yX9_undo : MethodName := ⟨RX9, "undo", "()I"⟩
abbrev cX9_runsOf : ByteArray := prog_11_method_45_code
def yX9_runsOf : MethodName := ⟨RX9, "runsOf", "(I)I"⟩
abbrev cX9_line : ByteArray := prog_11_method_46_code
def yX9_line : MethodName := ⟨RX9, "line", "(II)I"⟩
abbrev cX9_stop : ByteArray := prog_11_method_47_code
def yX9_stop : MethodName := ⟨RX9, "stop", "(II)I"⟩
abbrev cX9_minute : ByteArray := prog_11_method_48_code
def yX9_minute : MethodName := ⟨RX9, "minute", "(III)I"⟩
abbrev cX9_runs : ByteArray := prog_11_method_49_code
def yX9_runs : MethodName := ⟨RX9, "runs", "(II)I"⟩
abbrev cX9_areTwo : ByteArray := prog_11_method_50_code
def yX9_areTwo : MethodName := ⟨RX9, "areTwo", "(II)Z"⟩
abbrev cX9_footTold : ByteArray := prog_11_method_51_code
def yX9_footTold : MethodName := ⟨RX9, "footTold", "(II)I"⟩
abbrev cX9_foot : ByteArray := prog_11_method_52_code
def yX9_foot : MethodName := ⟨RX9, "foot", "(II)I"⟩
abbrev cX9_walk : ByteArray := prog_11_method_53_code
def yX9_walk : MethodName := ⟨RX9, "walk", "(III)I"⟩
abbrev cX9_delay : ByteArray := prog_11_method_54_code
def yX9_delay : MethodName := ⟨RX9, "delay", "(IIII)I"⟩
abbrev cX9_drop : ByteArray := prog_11_method_55_code
def yX9_drop : MethodName := ⟨RX9, "drop", "(I)I"⟩
abbrev cX9_wrong : ByteArray := prog_11_method_56_code
def yX9_wrong : MethodName := ⟨RX9, "wrong", "(IIII)I"⟩
abbrev cX9_earliest : ByteArray := prog_11_method_57_code
def yX9_earliest : MethodName := ⟨RX9, "earliest", "(IIII)I"⟩
abbrev cX9_worth : ByteArray := prog_11_method_58_code
def yX9_worth : MethodName := ⟨RX9, "worth", "(III)I"⟩
abbrev cX9_legs : ByteArray := prog_11_method_59_code
def yX9_legs : MethodName := ⟨RX9, "legs", "(IIII)I"⟩
abbrev cX9_ofLeg : ByteArray := prog_11_method_60_code
def yX9_ofLeg : MethodName := ⟨RX9, "ofLeg", "(II)I"⟩
abbrev cX9_leg : ByteArray := prog_11_method_61_code
def yX9_leg : MethodName := ⟨RX9, "leg", "(IIIIII)I"⟩
abbrev cX9_fare : ByteArray := prog_11_method_62_code
def yX9_fare : MethodName := ⟨RX9, "fare", "(IIII)I"⟩
abbrev cX9_waiting : ByteArray := prog_11_method_63_code
def yX9_waiting : MethodName := ⟨RX9, "waiting", "(IIII)I"⟩
abbrev cX9_latest : ByteArray := prog_11_method_64_code
def yX9_latest : MethodName := ⟨RX9, "latest", "(IIII)I"⟩
abbrev cX9_profile : ByteArray := prog_11_method_65_code
def yX9_profile : MethodName := ⟨RX9, "profile", "(IIIIII)I"⟩
abbrev cX9_reached : ByteArray := prog_11_method_66_code
def yX9_reached : MethodName := ⟨RX9, "reached", "(IIII)I"⟩
abbrev cX9_lateBy : ByteArray := prog_11_method_67_code
def yX9_lateBy : MethodName := ⟨RX9, "lateBy", "(IIII)I"⟩
abbrev cX9_worst : ByteArray := prog_11_method_68_code
def yX9_worst : MethodName := ⟨RX9, "worst", "(IIIII)I"⟩
abbrev cX9_cut : ByteArray := prog_11_method_69_code
def yX9_cut : MethodName := ⟨RX9, "cut", "(IIIII)I"⟩
abbrev cX9_placeOn : ByteArray := prog_11_method_70_code
def yX9_placeOn : MethodName := ⟨RX9, "placeOn", "(II)I"⟩
abbrev cX9_departureAt : ByteArray := prog_11_method_71_code
def yX9_departureAt : MethodName := ⟨RX9, "departureAt", "(III)I"⟩
abbrev cX9_arrivalAt : ByteArray := prog_11_method_72_code
def yX9_arrivalAt : MethodName := ⟨RX9, "arrivalAt", "(III)I"⟩
abbrev cX9_nextBoard : ByteArray := prog_11_method_73_code
def yX9_nextBoard : MethodName := ⟨RX9, "nextBoard", "(IJ)J"⟩
abbrev cX9_board : ByteArray := prog_11_method_74_code
def yX9_board : MethodName := ⟨RX9, "board", "(IIII)I"⟩
abbrev cX9_missed : ByteArray := prog_11_method_75_code
def yX9_missed : MethodName := ⟨RX9, "missed", "(I)I"⟩
abbrev cX9_meet : ByteArray := prog_11_method_76_code
def yX9_meet : MethodName := ⟨RX9, "meet", "(II)I"⟩
abbrev cX9_writes : ByteArray := prog_11_method_77_code
def yX9_writes : MethodName := ⟨RX9, "writes", "(I)V"⟩
abbrev cX9_writesNumber : ByteArray := prog_11_method_78_code
def yX9_writesNumber : MethodName := ⟨RX9, "writesNumber", "(I)V"⟩
abbrev cX9_writesLeg : ByteArray := prog_11_method_79_code
def yX9_writesLeg : MethodName := ⟨RX9, "writesLeg", "(I)V"⟩
abbrev cX9_spell : ByteArray := prog_11_method_80_code
def yX9_spell : MethodName := ⟨RX9, "spell", "(IIII)I"⟩
abbrev cX9_paper : ByteArray := prog_11_method_81_code
def yX9_paper : MethodName := ⟨RX9, "paper", "(I)I"⟩
abbrev cX9_tripsOf : ByteArray := prog_11_method_82_code
def yX9_tripsOf : MethodName := ⟨RX9, "tripsOf", "(Z)I"⟩
abbrev cX9_footMany : ByteArray := prog_11_method_83_code
def yX9_footMany : MethodName := ⟨RX9, "footMany", "()I"⟩
abbrev cX9_bareStops : ByteArray := prog_11_method_84_code
def yX9_bareStops : MethodName := ⟨RX9, "bareStops", "()I"⟩
abbrev cX9_told : ByteArray := prog_11_method_85_code
def yX9_told : MethodName := ⟨RX9, "told", "(I)I"⟩
abbrev cX9_isList : ByteArray := prog_11_method_86_code
def yX9_isList : MethodName := ⟨RX9, "isList", "(I)Z"⟩
abbrev cX9_list : ByteArray := prog_11_method_87_code
def yX9_list : MethodName := ⟨RX9, "list", "(II)I"⟩
abbrev cX9_set : ByteArray := prog_11_method_88_code
def yX9_set : MethodName := ⟨RX9, "set", "(III)I"⟩
abbrev cX9_get : ByteArray := prog_11_method_89_code
def yX9_get : MethodName := ⟨RX9, "get", "(II)I"⟩
abbrev cX9_wrongLay : ByteArray := prog_11_method_90_code
def yX9_wrongLay : MethodName := ⟨RX9, "wrongLay", "(IIII)I"⟩
abbrev cX9_toldAt : ByteArray := prog_11_method_91_code
def yX9_toldAt : MethodName := ⟨RX9, "toldAt", "(II)I"⟩
abbrev cX9_lay : ByteArray := prog_11_method_92_code
def yX9_lay : MethodName := ⟨RX9, "lay", "(IIIII)I"⟩
abbrev cX9_judge : ByteArray := prog_11_method_93_code
def yX9_judge : MethodName := ⟨RX9, "judge", "(IIIII)I"⟩
def RJ9 : String := "java/lang/Math"
abbrev cJ9_max_7cf53 : ByteArray := prog_12_method_65_code
def yJ9_max_7cf53 : MethodName := ⟨RJ9, "max", "(II)I"⟩
abbrev cJ9_min_7cf53 : ByteArray := prog_12_method_69_code
def yJ9_min_7cf53 : MethodName := ⟨RJ9, "min", "(II)I"⟩
def RJ10 : String := "java/lang/System"
def RJ7 : String := "java/util/Arrays"
abbrev cJ7_fill_53178 : ByteArray := prog_14_method_103_code
def yJ7_fill_53178 : MethodName := ⟨RJ7, "fill", "([II)V"⟩
def RL : String := "TripRoundsLaw"
abbrev cL_law : ByteArray := code
def yL_law : MethodName := ⟨RL, "law", "([I)Z"⟩
abbrev vwCl : List vw_C := [(RX0, TX0, 3), (RX2, TX2, 2), (RX3, TX3, 8), (RX4, TX4, 7), (RX5, TX5, 7), (RX6, TX6, 6), (RX7, TX7, 2), (RX8, TX8, 11), (RX9, TX9, 41)]
