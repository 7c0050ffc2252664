section
-- ===== PART A: goes FIRST, ahead of the names: the tables' words, and 'selects' of the private methods out of them =====
/-- a private method of a class that the tables say can be made, by its rows of tables_1 -/
def lw_okq (q : MethodName × Nat) : Prop := (q.1.cls ≠ "java/lang/invoke/MethodHandle" ∧ q.1.cls ≠ "java/lang/invoke/VarHandle") ∧ Cond.instantiable q.1.cls q.2 ∈ tables_1 ∧ Cond.privateMethod q.1 ∈ tables_1 ∧ Cond.instanceMethod q.1 ∈ tables_1
theorem lw_p0 : lw_okq (⟨"FourLorries", "takeCells", "(IIII)I"⟩, 8) := ⟨⟨by decide +kernel, by decide +kernel⟩, List.mem_of_getElem? (i := 18) (by decide +kernel), List.mem_of_getElem? (i := 281) (by decide +kernel), List.mem_of_getElem? (i := 282) (by decide +kernel)⟩
theorem lw_p1 : lw_okq (⟨"FourLorries", "takeRow", "(LFourLorries$Row;I)I"⟩, 8) := ⟨⟨by decide +kernel, by decide +kernel⟩, List.mem_of_getElem? (i := 18) (by decide +kernel), List.mem_of_getElem? (i := 291) (by decide +kernel), List.mem_of_getElem? (i := 292) (by decide +kernel)⟩
theorem lw_p2 : lw_okq (⟨"FourLorries", "faulty", "(I)I"⟩, 8) := ⟨⟨by decide +kernel, by decide +kernel⟩, List.mem_of_getElem? (i := 18) (by decide +kernel), List.mem_of_getElem? (i := 299) (by decide +kernel), List.mem_of_getElem? (i := 300) (by decide +kernel)⟩
theorem lw_p3 : lw_okq (⟨"FourLorries$TextReader", "readLorries", "()Z"⟩, 10) := ⟨⟨by decide +kernel, by decide +kernel⟩, List.mem_of_getElem? (i := 28) (by decide +kernel), List.mem_of_getElem? (i := 311) (by decide +kernel), List.mem_of_getElem? (i := 312) (by decide +kernel)⟩
theorem lw_p4 : lw_okq (⟨"FourLorries$TextReader", "readCode", "(I)Z"⟩, 10) := ⟨⟨by decide +kernel, by decide +kernel⟩, List.mem_of_getElem? (i := 28) (by decide +kernel), List.mem_of_getElem? (i := 315) (by decide +kernel), List.mem_of_getElem? (i := 316) (by decide +kernel)⟩
theorem lw_p5 : lw_okq (⟨"FourLorries$TextReader", "peek", "()I"⟩, 10) := ⟨⟨by decide +kernel, by decide +kernel⟩, List.mem_of_getElem? (i := 28) (by decide +kernel), List.mem_of_getElem? (i := 319) (by decide +kernel), List.mem_of_getElem? (i := 320) (by decide +kernel)⟩
theorem lw_p6 : lw_okq (⟨"FourLorries$TextReader", "peekAt", "(I)I"⟩, 10) := ⟨⟨by decide +kernel, by decide +kernel⟩, List.mem_of_getElem? (i := 28) (by decide +kernel), List.mem_of_getElem? (i := 323) (by decide +kernel), List.mem_of_getElem? (i := 324) (by decide +kernel)⟩
theorem lw_p7 : lw_okq (⟨"FourLorries$TextReader", "readNumber", "(III)Z"⟩, 10) := ⟨⟨by decide +kernel, by decide +kernel⟩, List.mem_of_getElem? (i := 28) (by decide +kernel), List.mem_of_getElem? (i := 327) (by decide +kernel), List.mem_of_getElem? (i := 328) (by decide +kernel)⟩
theorem lw_p8 : lw_okq (⟨"FourLorries$TextReader", "readSorts", "()Z"⟩, 10) := ⟨⟨by decide +kernel, by decide +kernel⟩, List.mem_of_getElem? (i := 28) (by decide +kernel), List.mem_of_getElem? (i := 334) (by decide +kernel), List.mem_of_getElem? (i := 335) (by decide +kernel)⟩
theorem lw_p9 : lw_okq (⟨"FourLorries$TextReader", "readSort", "(I)Z"⟩, 10) := ⟨⟨by decide +kernel, by decide +kernel⟩, List.mem_of_getElem? (i := 28) (by decide +kernel), List.mem_of_getElem? (i := 338) (by decide +kernel), List.mem_of_getElem? (i := 339) (by decide +kernel)⟩
theorem lw_p10 : lw_okq (⟨"FourLorries$TextReader", "readBrings", "()Z"⟩, 10) := ⟨⟨by decide +kernel, by decide +kernel⟩, List.mem_of_getElem? (i := 28) (by decide +kernel), List.mem_of_getElem? (i := 350) (by decide +kernel), List.mem_of_getElem? (i := 351) (by decide +kernel)⟩
theorem lw_p11 : lw_okq (⟨"FourLorries$TextReader", "readPlane", "()Z"⟩, 10) := ⟨⟨by decide +kernel, by decide +kernel⟩, List.mem_of_getElem? (i := 28) (by decide +kernel), List.mem_of_getElem? (i := 354) (by decide +kernel), List.mem_of_getElem? (i := 355) (by decide +kernel)⟩
theorem lw_p12 : lw_okq (⟨"FourLorries", "isCamp", "(I)Z"⟩, 8) := ⟨⟨by decide +kernel, by decide +kernel⟩, List.mem_of_getElem? (i := 18) (by decide +kernel), List.mem_of_getElem? (i := 407) (by decide +kernel), List.mem_of_getElem? (i := 408) (by decide +kernel)⟩
theorem lw_p13 : lw_okq (⟨"FourLorries", "isSortOf", "(II)Z"⟩, 8) := ⟨⟨by decide +kernel, by decide +kernel⟩, List.mem_of_getElem? (i := 18) (by decide +kernel), List.mem_of_getElem? (i := 424) (by decide +kernel), List.mem_of_getElem? (i := 425) (by decide +kernel)⟩
theorem lw_p14 : lw_okq (⟨"FourLorries$Outlook", "setChances", "(II)V"⟩, 14) := ⟨⟨by decide +kernel, by decide +kernel⟩, List.mem_of_getElem? (i := 71) (by decide +kernel), List.mem_of_getElem? (i := 461) (by decide +kernel), List.mem_of_getElem? (i := 462) (by decide +kernel)⟩
theorem lw_p15 : lw_okq (⟨"FourLorries$Outlook", "meanAt", "(III)J"⟩, 14) := ⟨⟨by decide +kernel, by decide +kernel⟩, List.mem_of_getElem? (i := 71) (by decide +kernel), List.mem_of_getElem? (i := 465) (by decide +kernel), List.mem_of_getElem? (i := 466) (by decide +kernel)⟩
def lw_privs_1 : List (MethodName × Nat) := [(⟨"FourLorries", "takeCells", "(IIII)I"⟩, 8), (⟨"FourLorries", "takeRow", "(LFourLorries$Row;I)I"⟩, 8), (⟨"FourLorries", "faulty", "(I)I"⟩, 8), (⟨"FourLorries$TextReader", "readLorries", "()Z"⟩, 10), (⟨"FourLorries$TextReader", "readCode", "(I)Z"⟩, 10), (⟨"FourLorries$TextReader", "peek", "()I"⟩, 10), (⟨"FourLorries$TextReader", "peekAt", "(I)I"⟩, 10), (⟨"FourLorries$TextReader", "readNumber", "(III)Z"⟩, 10), (⟨"FourLorries$TextReader", "readSorts", "()Z"⟩, 10), (⟨"FourLorries$TextReader", "readSort", "(I)Z"⟩, 10), (⟨"FourLorries$TextReader", "readBrings", "()Z"⟩, 10), (⟨"FourLorries$TextReader", "readPlane", "()Z"⟩, 10), (⟨"FourLorries", "isCamp", "(I)Z"⟩, 8), (⟨"FourLorries", "isSortOf", "(II)Z"⟩, 8), (⟨"FourLorries$Outlook", "setChances", "(II)V"⟩, 14), (⟨"FourLorries$Outlook", "meanAt", "(III)J"⟩, 14)]
theorem lw_r1 : ∀ q ∈ lw_privs_1, lw_okq q := List.forall_mem_cons.mpr ⟨lw_p0, List.forall_mem_cons.mpr ⟨lw_p1, List.forall_mem_cons.mpr ⟨lw_p2, List.forall_mem_cons.mpr ⟨lw_p3, List.forall_mem_cons.mpr ⟨lw_p4, List.forall_mem_cons.mpr ⟨lw_p5, List.forall_mem_cons.mpr ⟨lw_p6, List.forall_mem_cons.mpr ⟨lw_p7, List.forall_mem_cons.mpr ⟨lw_p8, List.forall_mem_cons.mpr ⟨lw_p9, List.forall_mem_cons.mpr ⟨lw_p10, List.forall_mem_cons.mpr ⟨lw_p11, List.forall_mem_cons.mpr ⟨lw_p12, List.forall_mem_cons.mpr ⟨lw_p13, List.forall_mem_cons.mpr ⟨lw_p14, List.forall_mem_cons.mpr ⟨lw_p15, fun _ h => absurd h List.not_mem_nil⟩⟩⟩⟩⟩⟩⟩⟩⟩⟩⟩⟩⟩⟩⟩⟩
theorem lw_p16 : lw_okq (⟨"FourLorries$Outlook", "setSizes", "()V"⟩, 14) := ⟨⟨by decide +kernel, by decide +kernel⟩, List.mem_of_getElem? (i := 71) (by decide +kernel), List.mem_of_getElem? (i := 476) (by decide +kernel), List.mem_of_getElem? (i := 477) (by decide +kernel)⟩
theorem lw_p17 : lw_okq (⟨"FourLorries$Outlook", "fewestIn", "(I)I"⟩, 14) := ⟨⟨by decide +kernel, by decide +kernel⟩, List.mem_of_getElem? (i := 71) (by decide +kernel), List.mem_of_getElem? (i := 481) (by decide +kernel), List.mem_of_getElem? (i := 482) (by decide +kernel)⟩
theorem lw_p18 : lw_okq (⟨"FourLorries$Outlook", "goodIn", "(II)I"⟩, 14) := ⟨⟨by decide +kernel, by decide +kernel⟩, List.mem_of_getElem? (i := 71) (by decide +kernel), List.mem_of_getElem? (i := 485) (by decide +kernel), List.mem_of_getElem? (i := 486) (by decide +kernel)⟩
theorem lw_p19 : lw_okq (⟨"FourLorries$Outlook", "passDay", "(II)V"⟩, 14) := ⟨⟨by decide +kernel, by decide +kernel⟩, List.mem_of_getElem? (i := 71) (by decide +kernel), List.mem_of_getElem? (i := 489) (by decide +kernel), List.mem_of_getElem? (i := 490) (by decide +kernel)⟩
theorem lw_p20 : lw_okq (⟨"FourLorries$Outlook", "afterPlane", "(I)I"⟩, 14) := ⟨⟨by decide +kernel, by decide +kernel⟩, List.mem_of_getElem? (i := 71) (by decide +kernel), List.mem_of_getElem? (i := 493) (by decide +kernel), List.mem_of_getElem? (i := 494) (by decide +kernel)⟩
theorem lw_p21 : lw_okq (⟨"FourLorries$Outlook", "isTried", "(II)Z"⟩, 14) := ⟨⟨by decide +kernel, by decide +kernel⟩, List.mem_of_getElem? (i := 71) (by decide +kernel), List.mem_of_getElem? (i := 498) (by decide +kernel), List.mem_of_getElem? (i := 499) (by decide +kernel)⟩
theorem lw_p22 : lw_okq (⟨"FourLorries$Outlook", "tryDriving", "(II)V"⟩, 14) := ⟨⟨by decide +kernel, by decide +kernel⟩, List.mem_of_getElem? (i := 71) (by decide +kernel), List.mem_of_getElem? (i := 502) (by decide +kernel), List.mem_of_getElem? (i := 503) (by decide +kernel)⟩
theorem lw_p23 : lw_okq (⟨"FourLorries$Outlook", "takeMeans", "(III)V"⟩, 14) := ⟨⟨by decide +kernel, by decide +kernel⟩, List.mem_of_getElem? (i := 71) (by decide +kernel), List.mem_of_getElem? (i := 507) (by decide +kernel), List.mem_of_getElem? (i := 508) (by decide +kernel)⟩
theorem lw_p24 : lw_okq (⟨"FourLorries$Outlook", "stateNow", "()I"⟩, 14) := ⟨⟨by decide +kernel, by decide +kernel⟩, List.mem_of_getElem? (i := 71) (by decide +kernel), List.mem_of_getElem? (i := 516) (by decide +kernel), List.mem_of_getElem? (i := 517) (by decide +kernel)⟩
theorem lw_p25 : lw_okq (⟨"FourLorries", "bestGain", "(LFourLorries$Camp;III)J"⟩, 8) := ⟨⟨by decide +kernel, by decide +kernel⟩, List.mem_of_getElem? (i := 18) (by decide +kernel), List.mem_of_getElem? (i := 532) (by decide +kernel), List.mem_of_getElem? (i := 533) (by decide +kernel)⟩
theorem lw_p26 : lw_okq (⟨"FourLorries", "isPart", "(I)Z"⟩, 8) := ⟨⟨by decide +kernel, by decide +kernel⟩, List.mem_of_getElem? (i := 18) (by decide +kernel), List.mem_of_getElem? (i := 653) (by decide +kernel), List.mem_of_getElem? (i := 654) (by decide +kernel)⟩
theorem lw_p27 : lw_okq (⟨"FourLorries$Yard", "takeOff", "(LFourLorries$Part;I)V"⟩, 7) := ⟨⟨by decide +kernel, by decide +kernel⟩, List.mem_of_getElem? (i := 121) (by decide +kernel), List.mem_of_getElem? (i := 700) (by decide +kernel), List.mem_of_getElem? (i := 701) (by decide +kernel)⟩
theorem lw_p28 : lw_okq (⟨"FourLorries$Yard", "canGo", "(I)Z"⟩, 7) := ⟨⟨by decide +kernel, by decide +kernel⟩, List.mem_of_getElem? (i := 121) (by decide +kernel), List.mem_of_getElem? (i := 736) (by decide +kernel), List.mem_of_getElem? (i := 737) (by decide +kernel)⟩
theorem lw_p29 : lw_okq (⟨"FourLorries$Way", "mostLorries", "()I"⟩, 16) := ⟨⟨by decide +kernel, by decide +kernel⟩, List.mem_of_getElem? (i := 129) (by decide +kernel), List.mem_of_getElem? (i := 752) (by decide +kernel), List.mem_of_getElem? (i := 753) (by decide +kernel)⟩
theorem lw_p30 : lw_okq (⟨"FourLorries$Way", "usableFor", "(I)I"⟩, 16) := ⟨⟨by decide +kernel, by decide +kernel⟩, List.mem_of_getElem? (i := 129) (by decide +kernel), List.mem_of_getElem? (i := 756) (by decide +kernel), List.mem_of_getElem? (i := 757) (by decide +kernel)⟩
theorem lw_p31 : lw_okq (⟨"FourLorries$Way", "priceOf", "(I)J"⟩, 16) := ⟨⟨by decide +kernel, by decide +kernel⟩, List.mem_of_getElem? (i := 129) (by decide +kernel), List.mem_of_getElem? (i := 779) (by decide +kernel), List.mem_of_getElem? (i := 780) (by decide +kernel)⟩
def lw_privs_2 : List (MethodName × Nat) := [(⟨"FourLorries$Outlook", "setSizes", "()V"⟩, 14), (⟨"FourLorries$Outlook", "fewestIn", "(I)I"⟩, 14), (⟨"FourLorries$Outlook", "goodIn", "(II)I"⟩, 14), (⟨"FourLorries$Outlook", "passDay", "(II)V"⟩, 14), (⟨"FourLorries$Outlook", "afterPlane", "(I)I"⟩, 14), (⟨"FourLorries$Outlook", "isTried", "(II)Z"⟩, 14), (⟨"FourLorries$Outlook", "tryDriving", "(II)V"⟩, 14), (⟨"FourLorries$Outlook", "takeMeans", "(III)V"⟩, 14), (⟨"FourLorries$Outlook", "stateNow", "()I"⟩, 14), (⟨"FourLorries", "bestGain", "(LFourLorries$Camp;III)J"⟩, 8), (⟨"FourLorries", "isPart", "(I)Z"⟩, 8), (⟨"FourLorries$Yard", "takeOff", "(LFourLorries$Part;I)V"⟩, 7), (⟨"FourLorries$Yard", "canGo", "(I)Z"⟩, 7), (⟨"FourLorries$Way", "mostLorries", "()I"⟩, 16), (⟨"FourLorries$Way", "usableFor", "(I)I"⟩, 16), (⟨"FourLorries$Way", "priceOf", "(I)J"⟩, 16)]
theorem lw_r2 : ∀ q ∈ lw_privs_2, lw_okq q := List.forall_mem_cons.mpr ⟨lw_p16, List.forall_mem_cons.mpr ⟨lw_p17, List.forall_mem_cons.mpr ⟨lw_p18, List.forall_mem_cons.mpr ⟨lw_p19, List.forall_mem_cons.mpr ⟨lw_p20, List.forall_mem_cons.mpr ⟨lw_p21, List.forall_mem_cons.mpr ⟨lw_p22, List.forall_mem_cons.mpr ⟨lw_p23, List.forall_mem_cons.mpr ⟨lw_p24, List.forall_mem_cons.mpr ⟨lw_p25, List.forall_mem_cons.mpr ⟨lw_p26, List.forall_mem_cons.mpr ⟨lw_p27, List.forall_mem_cons.mpr ⟨lw_p28, List.forall_mem_cons.mpr ⟨lw_p29, List.forall_mem_cons.mpr ⟨lw_p30, List.forall_mem_cons.mpr ⟨lw_p31, fun _ h => absurd h List.not_mem_nil⟩⟩⟩⟩⟩⟩⟩⟩⟩⟩⟩⟩⟩⟩⟩⟩
theorem lw_p32 : lw_okq (⟨"FourLorries$Way", "setPrices", "(I)V"⟩, 16) := ⟨⟨by decide +kernel, by decide +kernel⟩, List.mem_of_getElem? (i := 129) (by decide +kernel), List.mem_of_getElem? (i := 783) (by decide +kernel), List.mem_of_getElem? (i := 784) (by decide +kernel)⟩
theorem lw_p33 : lw_okq (⟨"FourLorries$Way", "givePartTo", "(I)V"⟩, 16) := ⟨⟨by decide +kernel, by decide +kernel⟩, List.mem_of_getElem? (i := 129) (by decide +kernel), List.mem_of_getElem? (i := 795) (by decide +kernel), List.mem_of_getElem? (i := 796) (by decide +kernel)⟩
theorem lw_p34 : lw_okq (⟨"FourLorries$Way", "findSlacks", "(I)V"⟩, 16) := ⟨⟨by decide +kernel, by decide +kernel⟩, List.mem_of_getElem? (i := 129) (by decide +kernel), List.mem_of_getElem? (i := 799) (by decide +kernel), List.mem_of_getElem? (i := 800) (by decide +kernel)⟩
theorem lw_p35 : lw_okq (⟨"FourLorries$Way", "nearest", "()I"⟩, 16) := ⟨⟨by decide +kernel, by decide +kernel⟩, List.mem_of_getElem? (i := 129) (by decide +kernel), List.mem_of_getElem? (i := 803) (by decide +kernel), List.mem_of_getElem? (i := 804) (by decide +kernel)⟩
theorem lw_p36 : lw_okq (⟨"FourLorries$Way", "lowerBids", "(J)V"⟩, 16) := ⟨⟨by decide +kernel, by decide +kernel⟩, List.mem_of_getElem? (i := 129) (by decide +kernel), List.mem_of_getElem? (i := 807) (by decide +kernel), List.mem_of_getElem? (i := 808) (by decide +kernel)⟩
theorem lw_p37 : lw_okq (⟨"FourLorries$Way", "keep", "(IJ)V"⟩, 16) := ⟨⟨by decide +kernel, by decide +kernel⟩, List.mem_of_getElem? (i := 129) (by decide +kernel), List.mem_of_getElem? (i := 811) (by decide +kernel), List.mem_of_getElem? (i := 812) (by decide +kernel)⟩
theorem lw_p38 : lw_okq (⟨"FourLorriesModel", "barred", "(IIIJ)I"⟩, 38) := ⟨⟨by decide +kernel, by decide +kernel⟩, List.mem_of_getElem? (i := 933) (by decide +kernel), List.mem_of_getElem? (i := 1059) (by decide +kernel), List.mem_of_getElem? (i := 1060) (by decide +kernel)⟩
theorem lw_p39 : lw_okq (⟨"FourLorriesModel", "refused", "(I)I"⟩, 38) := ⟨⟨by decide +kernel, by decide +kernel⟩, List.mem_of_getElem? (i := 933) (by decide +kernel), List.mem_of_getElem? (i := 1070) (by decide +kernel), List.mem_of_getElem? (i := 1071) (by decide +kernel)⟩
theorem lw_p40 : lw_okq (⟨"FourLorriesModel", "failed", "(I)I"⟩, 38) := ⟨⟨by decide +kernel, by decide +kernel⟩, List.mem_of_getElem? (i := 933) (by decide +kernel), List.mem_of_getElem? (i := 1075) (by decide +kernel), List.mem_of_getElem? (i := 1076) (by decide +kernel)⟩
theorem lw_p41 : lw_okq (⟨"FourLorriesModel", "readsCamp", "(II)Z"⟩, 38) := ⟨⟨by decide +kernel, by decide +kernel⟩, List.mem_of_getElem? (i := 933) (by decide +kernel), List.mem_of_getElem? (i := 1082) (by decide +kernel), List.mem_of_getElem? (i := 1083) (by decide +kernel)⟩
theorem lw_p42 : lw_okq (⟨"FourLorriesModel", "takes", "(III)Z"⟩, 38) := ⟨⟨by decide +kernel, by decide +kernel⟩, List.mem_of_getElem? (i := 933) (by decide +kernel), List.mem_of_getElem? (i := 1086) (by decide +kernel), List.mem_of_getElem? (i := 1087) (by decide +kernel)⟩
theorem lw_p43 : lw_okq (⟨"FourLorriesModel", "readsNumber", "(IIIII)Z"⟩, 38) := ⟨⟨by decide +kernel, by decide +kernel⟩, List.mem_of_getElem? (i := 933) (by decide +kernel), List.mem_of_getElem? (i := 1090) (by decide +kernel), List.mem_of_getElem? (i := 1091) (by decide +kernel)⟩
theorem lw_p44 : lw_okq (⟨"FourLorriesModel", "readsSort", "(II)Z"⟩, 38) := ⟨⟨by decide +kernel, by decide +kernel⟩, List.mem_of_getElem? (i := 933) (by decide +kernel), List.mem_of_getElem? (i := 1096) (by decide +kernel), List.mem_of_getElem? (i := 1097) (by decide +kernel)⟩
theorem lw_p45 : lw_okq (⟨"FourLorriesModel", "readsOne", "(IIIIIII)Z"⟩, 38) := ⟨⟨by decide +kernel, by decide +kernel⟩, List.mem_of_getElem? (i := 933) (by decide +kernel), List.mem_of_getElem? (i := 1100) (by decide +kernel), List.mem_of_getElem? (i := 1101) (by decide +kernel)⟩
theorem lw_p46 : lw_okq (⟨"FourLorriesModel", "nextIs", "(III)Z"⟩, 38) := ⟨⟨by decide +kernel, by decide +kernel⟩, List.mem_of_getElem? (i := 933) (by decide +kernel), List.mem_of_getElem? (i := 1104) (by decide +kernel), List.mem_of_getElem? (i := 1105) (by decide +kernel)⟩
theorem lw_p47 : lw_okq (⟨"FourLorriesModel", "readsBrings", "(II)Z"⟩, 38) := ⟨⟨by decide +kernel, by decide +kernel⟩, List.mem_of_getElem? (i := 933) (by decide +kernel), List.mem_of_getElem? (i := 1108) (by decide +kernel), List.mem_of_getElem? (i := 1109) (by decide +kernel)⟩
def lw_privs_3 : List (MethodName × Nat) := [(⟨"FourLorries$Way", "setPrices", "(I)V"⟩, 16), (⟨"FourLorries$Way", "givePartTo", "(I)V"⟩, 16), (⟨"FourLorries$Way", "findSlacks", "(I)V"⟩, 16), (⟨"FourLorries$Way", "nearest", "()I"⟩, 16), (⟨"FourLorries$Way", "lowerBids", "(J)V"⟩, 16), (⟨"FourLorries$Way", "keep", "(IJ)V"⟩, 16), (⟨"FourLorriesModel", "barred", "(IIIJ)I"⟩, 38), (⟨"FourLorriesModel", "refused", "(I)I"⟩, 38), (⟨"FourLorriesModel", "failed", "(I)I"⟩, 38), (⟨"FourLorriesModel", "readsCamp", "(II)Z"⟩, 38), (⟨"FourLorriesModel", "takes", "(III)Z"⟩, 38), (⟨"FourLorriesModel", "readsNumber", "(IIIII)Z"⟩, 38), (⟨"FourLorriesModel", "readsSort", "(II)Z"⟩, 38), (⟨"FourLorriesModel", "readsOne", "(IIIIIII)Z"⟩, 38), (⟨"FourLorriesModel", "nextIs", "(III)Z"⟩, 38), (⟨"FourLorriesModel", "readsBrings", "(II)Z"⟩, 38)]
theorem lw_r3 : ∀ q ∈ lw_privs_3, lw_okq q := List.forall_mem_cons.mpr ⟨lw_p32, List.forall_mem_cons.mpr ⟨lw_p33, List.forall_mem_cons.mpr ⟨lw_p34, List.forall_mem_cons.mpr ⟨lw_p35, List.forall_mem_cons.mpr ⟨lw_p36, List.forall_mem_cons.mpr ⟨lw_p37, List.forall_mem_cons.mpr ⟨lw_p38, List.forall_mem_cons.mpr ⟨lw_p39, List.forall_mem_cons.mpr ⟨lw_p40, List.forall_mem_cons.mpr ⟨lw_p41, List.forall_mem_cons.mpr ⟨lw_p42, List.forall_mem_cons.mpr ⟨lw_p43, List.forall_mem_cons.mpr ⟨lw_p44, List.forall_mem_cons.mpr ⟨lw_p45, List.forall_mem_cons.mpr ⟨lw_p46, List.forall_mem_cons.mpr ⟨lw_p47, fun _ h => absurd h List.not_mem_nil⟩⟩⟩⟩⟩⟩⟩⟩⟩⟩⟩⟩⟩⟩⟩⟩
theorem lw_p48 : lw_okq (⟨"FourLorriesModel", "readsPlane", "(II)Z"⟩, 38) := ⟨⟨by decide +kernel, by decide +kernel⟩, List.mem_of_getElem? (i := 933) (by decide +kernel), List.mem_of_getElem? (i := 1112) (by decide +kernel), List.mem_of_getElem? (i := 1113) (by decide +kernel)⟩
theorem lw_p49 : lw_okq (⟨"FourLorriesModel", "noCamp", "(I)Z"⟩, 38) := ⟨⟨by decide +kernel, by decide +kernel⟩, List.mem_of_getElem? (i := 933) (by decide +kernel), List.mem_of_getElem? (i := 1120) (by decide +kernel), List.mem_of_getElem? (i := 1121) (by decide +kernel)⟩
theorem lw_p50 : lw_okq (⟨"FourLorriesModel", "stateOf", "(I)I"⟩, 38) := ⟨⟨by decide +kernel, by decide +kernel⟩, List.mem_of_getElem? (i := 933) (by decide +kernel), List.mem_of_getElem? (i := 1124) (by decide +kernel), List.mem_of_getElem? (i := 1125) (by decide +kernel)⟩
theorem lw_p51 : lw_okq (⟨"FourLorriesModel", "of", "(III)I"⟩, 38) := ⟨⟨by decide +kernel, by decide +kernel⟩, List.mem_of_getElem? (i := 933) (by decide +kernel), List.mem_of_getElem? (i := 1128) (by decide +kernel), List.mem_of_getElem? (i := 1129) (by decide +kernel)⟩
theorem lw_p52 : lw_okq (⟨"FourLorriesModel", "canRun", "(III)I"⟩, 38) := ⟨⟨by decide +kernel, by decide +kernel⟩, List.mem_of_getElem? (i := 933) (by decide +kernel), List.mem_of_getElem? (i := 1132) (by decide +kernel), List.mem_of_getElem? (i := 1133) (by decide +kernel)⟩
theorem lw_p53 : lw_okq (⟨"FourLorriesModel", "noSort", "(II)Z"⟩, 38) := ⟨⟨by decide +kernel, by decide +kernel⟩, List.mem_of_getElem? (i := 933) (by decide +kernel), List.mem_of_getElem? (i := 1144) (by decide +kernel), List.mem_of_getElem? (i := 1145) (by decide +kernel)⟩
theorem lw_p54 : lw_okq (⟨"FourLorriesModel", "layAll", "(IIII)V"⟩, 38) := ⟨⟨by decide +kernel, by decide +kernel⟩, List.mem_of_getElem? (i := 933) (by decide +kernel), List.mem_of_getElem? (i := 1165) (by decide +kernel), List.mem_of_getElem? (i := 1166) (by decide +kernel)⟩
theorem lw_p55 : lw_okq (⟨"FourLorriesModel", "layLone", "(II)V"⟩, 38) := ⟨⟨by decide +kernel, by decide +kernel⟩, List.mem_of_getElem? (i := 933) (by decide +kernel), List.mem_of_getElem? (i := 1169) (by decide +kernel), List.mem_of_getElem? (i := 1170) (by decide +kernel)⟩
theorem lw_p56 : lw_okq (⟨"FourLorriesModel", "layDay", "(IIII)V"⟩, 38) := ⟨⟨by decide +kernel, by decide +kernel⟩, List.mem_of_getElem? (i := 933) (by decide +kernel), List.mem_of_getElem? (i := 1183) (by decide +kernel), List.mem_of_getElem? (i := 1184) (by decide +kernel)⟩
theorem lw_p57 : lw_okq (⟨"FourLorriesModel", "layMean", "(IIIIIZ)V"⟩, 38) := ⟨⟨by decide +kernel, by decide +kernel⟩, List.mem_of_getElem? (i := 933) (by decide +kernel), List.mem_of_getElem? (i := 1191) (by decide +kernel), List.mem_of_getElem? (i := 1192) (by decide +kernel)⟩
theorem lw_p58 : lw_okq (⟨"FourLorriesModel", "planed", "(II)I"⟩, 38) := ⟨⟨by decide +kernel, by decide +kernel⟩, List.mem_of_getElem? (i := 933) (by decide +kernel), List.mem_of_getElem? (i := 1195) (by decide +kernel), List.mem_of_getElem? (i := 1196) (by decide +kernel)⟩
theorem lw_p59 : lw_okq (⟨"FourLorriesModel", "manyBy", "(III)I"⟩, 38) := ⟨⟨by decide +kernel, by decide +kernel⟩, List.mem_of_getElem? (i := 933) (by decide +kernel), List.mem_of_getElem? (i := 1200) (by decide +kernel), List.mem_of_getElem? (i := 1201) (by decide +kernel)⟩
theorem lw_p60 : lw_okq (⟨"FourLorriesModel", "lowWith", "(IIII)J"⟩, 38) := ⟨⟨by decide +kernel, by decide +kernel⟩, List.mem_of_getElem? (i := 933) (by decide +kernel), List.mem_of_getElem? (i := 1212) (by decide +kernel), List.mem_of_getElem? (i := 1213) (by decide +kernel)⟩
theorem lw_p61 : lw_okq (⟨"FourLorriesModel", "isMore", "(IIII)Z"⟩, 38) := ⟨⟨by decide +kernel, by decide +kernel⟩, List.mem_of_getElem? (i := 933) (by decide +kernel), List.mem_of_getElem? (i := 1229) (by decide +kernel), List.mem_of_getElem? (i := 1230) (by decide +kernel)⟩
theorem lw_p62 : lw_okq (⟨"FourLorriesModel", "noPart", "(I)Z"⟩, 38) := ⟨⟨by decide +kernel, by decide +kernel⟩, List.mem_of_getElem? (i := 933) (by decide +kernel), List.mem_of_getElem? (i := 1245) (by decide +kernel), List.mem_of_getElem? (i := 1246) (by decide +kernel)⟩
theorem lw_p63 : lw_okq (⟨"FourLorriesModel", "hoursFor", "(II)I"⟩, 38) := ⟨⟨by decide +kernel, by decide +kernel⟩, List.mem_of_getElem? (i := 933) (by decide +kernel), List.mem_of_getElem? (i := 1260) (by decide +kernel), List.mem_of_getElem? (i := 1261) (by decide +kernel)⟩
def lw_privs_4 : List (MethodName × Nat) := [(⟨"FourLorriesModel", "readsPlane", "(II)Z"⟩, 38), (⟨"FourLorriesModel", "noCamp", "(I)Z"⟩, 38), (⟨"FourLorriesModel", "stateOf", "(I)I"⟩, 38), (⟨"FourLorriesModel", "of", "(III)I"⟩, 38), (⟨"FourLorriesModel", "canRun", "(III)I"⟩, 38), (⟨"FourLorriesModel", "noSort", "(II)Z"⟩, 38), (⟨"FourLorriesModel", "layAll", "(IIII)V"⟩, 38), (⟨"FourLorriesModel", "layLone", "(II)V"⟩, 38), (⟨"FourLorriesModel", "layDay", "(IIII)V"⟩, 38), (⟨"FourLorriesModel", "layMean", "(IIIIIZ)V"⟩, 38), (⟨"FourLorriesModel", "planed", "(II)I"⟩, 38), (⟨"FourLorriesModel", "manyBy", "(III)I"⟩, 38), (⟨"FourLorriesModel", "lowWith", "(IIII)J"⟩, 38), (⟨"FourLorriesModel", "isMore", "(IIII)Z"⟩, 38), (⟨"FourLorriesModel", "noPart", "(I)Z"⟩, 38), (⟨"FourLorriesModel", "hoursFor", "(II)I"⟩, 38)]
theorem lw_r4 : ∀ q ∈ lw_privs_4, lw_okq q := List.forall_mem_cons.mpr ⟨lw_p48, List.forall_mem_cons.mpr ⟨lw_p49, List.forall_mem_cons.mpr ⟨lw_p50, List.forall_mem_cons.mpr ⟨lw_p51, List.forall_mem_cons.mpr ⟨lw_p52, List.forall_mem_cons.mpr ⟨lw_p53, List.forall_mem_cons.mpr ⟨lw_p54, List.forall_mem_cons.mpr ⟨lw_p55, List.forall_mem_cons.mpr ⟨lw_p56, List.forall_mem_cons.mpr ⟨lw_p57, List.forall_mem_cons.mpr ⟨lw_p58, List.forall_mem_cons.mpr ⟨lw_p59, List.forall_mem_cons.mpr ⟨lw_p60, List.forall_mem_cons.mpr ⟨lw_p61, List.forall_mem_cons.mpr ⟨lw_p62, List.forall_mem_cons.mpr ⟨lw_p63, fun _ h => absurd h List.not_mem_nil⟩⟩⟩⟩⟩⟩⟩⟩⟩⟩⟩⟩⟩⟩⟩⟩
theorem lw_p64 : lw_okq (⟨"FourLorriesModel", "doesRun", "(I)Z"⟩, 38) := ⟨⟨by decide +kernel, by decide +kernel⟩, List.mem_of_getElem? (i := 933) (by decide +kernel), List.mem_of_getElem? (i := 1289) (by decide +kernel), List.mem_of_getElem? (i := 1290) (by decide +kernel)⟩
theorem lw_p65 : lw_okq (⟨"FourLorriesModel", "layWay", "()V"⟩, 38) := ⟨⟨by decide +kernel, by decide +kernel⟩, List.mem_of_getElem? (i := 933) (by decide +kernel), List.mem_of_getElem? (i := 1297) (by decide +kernel), List.mem_of_getElem? (i := 1298) (by decide +kernel)⟩
theorem lw_p66 : lw_okq (⟨"FourLorriesModel", "layCosts", "(I)V"⟩, 38) := ⟨⟨by decide +kernel, by decide +kernel⟩, List.mem_of_getElem? (i := 933) (by decide +kernel), List.mem_of_getElem? (i := 1304) (by decide +kernel), List.mem_of_getElem? (i := 1305) (by decide +kernel)⟩
theorem lw_p67 : lw_okq (⟨"FourLorriesModel", "layWanted", "(I)V"⟩, 38) := ⟨⟨by decide +kernel, by decide +kernel⟩, List.mem_of_getElem? (i := 933) (by decide +kernel), List.mem_of_getElem? (i := 1308) (by decide +kernel), List.mem_of_getElem? (i := 1309) (by decide +kernel)⟩
theorem lw_p68 : lw_okq (⟨"FourLorriesModel", "costOf", "(II)I"⟩, 38) := ⟨⟨by decide +kernel, by decide +kernel⟩, List.mem_of_getElem? (i := 933) (by decide +kernel), List.mem_of_getElem? (i := 1316) (by decide +kernel), List.mem_of_getElem? (i := 1317) (by decide +kernel)⟩
theorem lw_p69 : lw_okq (⟨"FourLorriesModel", "noCell", "(II)I"⟩, 38) := ⟨⟨by decide +kernel, by decide +kernel⟩, List.mem_of_getElem? (i := 933) (by decide +kernel), List.mem_of_getElem? (i := 1341) (by decide +kernel), List.mem_of_getElem? (i := 1342) (by decide +kernel)⟩
theorem lw_p70 : lw_okq (⟨"FourLorriesModel", "failedLong", "(I)J"⟩, 38) := ⟨⟨by decide +kernel, by decide +kernel⟩, List.mem_of_getElem? (i := 933) (by decide +kernel), List.mem_of_getElem? (i := 1349) (by decide +kernel), List.mem_of_getElem? (i := 1350) (by decide +kernel)⟩
theorem lw_p71 : lw_okq (⟨"FourLorriesModel", "traced", "(I)V"⟩, 38) := ⟨⟨by decide +kernel, by decide +kernel⟩, List.mem_of_getElem? (i := 933) (by decide +kernel), List.mem_of_getElem? (i := 1361) (by decide +kernel), List.mem_of_getElem? (i := 1362) (by decide +kernel)⟩
def lw_privs_5 : List (MethodName × Nat) := [(⟨"FourLorriesModel", "doesRun", "(I)Z"⟩, 38), (⟨"FourLorriesModel", "layWay", "()V"⟩, 38), (⟨"FourLorriesModel", "layCosts", "(I)V"⟩, 38), (⟨"FourLorriesModel", "layWanted", "(I)V"⟩, 38), (⟨"FourLorriesModel", "costOf", "(II)I"⟩, 38), (⟨"FourLorriesModel", "noCell", "(II)I"⟩, 38), (⟨"FourLorriesModel", "failedLong", "(I)J"⟩, 38), (⟨"FourLorriesModel", "traced", "(I)V"⟩, 38)]
theorem lw_r5 : ∀ q ∈ lw_privs_5, lw_okq q := List.forall_mem_cons.mpr ⟨lw_p64, List.forall_mem_cons.mpr ⟨lw_p65, List.forall_mem_cons.mpr ⟨lw_p66, List.forall_mem_cons.mpr ⟨lw_p67, List.forall_mem_cons.mpr ⟨lw_p68, List.forall_mem_cons.mpr ⟨lw_p69, List.forall_mem_cons.mpr ⟨lw_p70, List.forall_mem_cons.mpr ⟨lw_p71, fun _ h => absurd h List.not_mem_nil⟩⟩⟩⟩⟩⟩⟩⟩
def lw_privs : List (MethodName × Nat) := lw_privs_1 ++ (lw_privs_2 ++ (lw_privs_3 ++ (lw_privs_4 ++ (lw_privs_5))))
def lw_tbl : List Cond := k2_sels lw_privs ++ tables_1
theorem lw_privs_ok : ∀ q ∈ lw_privs, lw_okq q := by
  show ∀ q ∈ lw_privs_1 ++ (lw_privs_2 ++ (lw_privs_3 ++ (lw_privs_4 ++ (lw_privs_5)))), lw_okq q
  exact List.forall_mem_append.mpr ⟨lw_r1, List.forall_mem_append.mpr ⟨lw_r2, List.forall_mem_append.mpr ⟨lw_r3, List.forall_mem_append.mpr ⟨lw_r4, lw_r5⟩⟩⟩⟩
-- ===== end of PART A; then your names; then what follows =====
end
section
def RX0 : String := "FourLorries$Camp"
def TX0 : u_T := fun k => match k with
  | 0 => ("FourLorries$Camp", "lorries", "I", true)
  | 1 => ("FourLorries$Camp", "sorts", "I", true)
  | 2 => ("FourLorries$Camp", "planeDays", "I", true)
  | 3 => ("FourLorries$Camp", "numbers", "[I", true)
  | _ => ("FourLorries$Camp", "brings", "[I", true)
def tyX0 : Nat → FieldType := fun k => match k with
  | 0 => .int
  | 1 => .int
  | 2 => .int
  | 3 => .array .int
  | _ => .array .int
theorem nmX0 : ∀ a, a < 5 → ∀ b, b < 5 → a ≠ b → (TX0 a).2.1 ≠ (TX0 b).2.1 := by decide +kernel
theorem tyX0_ok : ∀ k, k < 5 → parseFieldDescriptor (TX0 k).2.2.1 = some (tyX0 k) := by decide +kernel
abbrev cX0_init : ByteArray := prog_2_method_1_code
def yX0_init : MethodName := ⟨RX0, "<init>", "(LFourLorries$TextReader;)V"⟩
abbrev cX0_number : ByteArray := prog_2_method_2_code
def yX0_number : MethodName := ⟨RX0, "number", "(II)I"⟩
abbrev cX0_setNumber : ByteArray := prog_2_method_3_code
def yX0_setNumber : MethodName := ⟨RX0, "setNumber", "(III)V"⟩
abbrev cX0_canRun : ByteArray := prog_2_method_4_code
def yX0_canRun : MethodName := ⟨RX0, "canRun", "()I"⟩
def RX1 : String := "FourLorries$Common"
def TX1 : u_T := fun k => match k with
  | 0 => ("FourLorries$Part", "number", "I", true)
  | 1 => ("FourLorries$Part", "sort", "I", true)
  | 2 => ("FourLorries$Part", "hours", "I", true)
  | 3 => ("FourLorries$Part", "good", "Z", false)
  | 4 => ("FourLorries$Part", "hidden", "Z", false)
  | _ => ("FourLorries$Part", "place", "I", false)
def tyX1 : Nat → FieldType := fun k => match k with
  | 0 => .int
  | 1 => .int
  | 2 => .int
  | 3 => .boolean
  | 4 => .boolean
  | _ => .int
theorem nmX1 : ∀ a, a < 6 → ∀ b, b < 6 → a ≠ b → (TX1 a).2.1 ≠ (TX1 b).2.1 := by decide +kernel
theorem tyX1_ok : ∀ k, k < 6 → parseFieldDescriptor (TX1 k).2.2.1 = some (tyX1 k) := by decide +kernel
abbrev cX1_init : ByteArray := prog_3_method_1_code
def yX1_init : MethodName := ⟨RX1, "<init>", "(III)V"⟩
abbrev cX1_kind : ByteArray := prog_3_method_2_code
def yX1_kind : MethodName := ⟨RX1, "kind", "()I"⟩
abbrev cX1_hoursFor : ByteArray := prog_3_method_3_code
def yX1_hoursFor : MethodName := ⟨RX1, "hoursFor", "(I)I"⟩
abbrev cX1_telling : ByteArray := prog_3_method_4_code
def yX1_telling : MethodName := ⟨RX1, "telling", "(LFourLorries$Trace;)I"⟩
abbrev cX1_listed : ByteArray := prog_3_method_5_code
def yX1_listed : MethodName := ⟨RX1, "listed", "(LFourLorries$Trace;)I"⟩
def RX2 : String := "FourLorries$Filed"
def TX2 : u_T := fun k => match k with
  | 0 => ("FourLorries$Part", "number", "I", true)
  | 1 => ("FourLorries$Part", "sort", "I", true)
  | 2 => ("FourLorries$Part", "hours", "I", true)
  | 3 => ("FourLorries$Part", "good", "Z", false)
  | 4 => ("FourLorries$Part", "hidden", "Z", false)
  | _ => ("FourLorries$Part", "place", "I", false)
def tyX2 : Nat → FieldType := fun k => match k with
  | 0 => .int
  | 1 => .int
  | 2 => .int
  | 3 => .boolean
  | 4 => .boolean
  | _ => .int
theorem nmX2 : ∀ a, a < 6 → ∀ b, b < 6 → a ≠ b → (TX2 a).2.1 ≠ (TX2 b).2.1 := by decide +kernel
theorem tyX2_ok : ∀ k, k < 6 → parseFieldDescriptor (TX2 k).2.2.1 = some (tyX2 k) := by decide +kernel
abbrev cX2_init : ByteArray := prog_4_method_1_code
def yX2_init : MethodName := ⟨RX2, "<init>", "(III)V"⟩
abbrev cX2_kind : ByteArray := prog_4_method_2_code
def yX2_kind : MethodName := ⟨RX2, "kind", "()I"⟩
abbrev cX2_hoursFor : ByteArray := prog_4_method_3_code
def yX2_hoursFor : MethodName := ⟨RX2, "hoursFor", "(I)I"⟩
abbrev cX2_telling : ByteArray := prog_4_method_4_code
def yX2_telling : MethodName := ⟨RX2, "telling", "(LFourLorries$Trace;)I"⟩
def RX3 : String := "FourLorries$Outlook"
def TX3 : u_T := fun k => match k with
  | 0 => ("FourLorries$Outlook", "camp", "LFourLorries$Camp;", false)
  | 1 => ("FourLorries$Outlook", "rule", "I", false)
  | 2 => ("FourLorries$Outlook", "days", "I", false)
  | 3 => ("FourLorries$Outlook", "end", "I", false)
  | 4 => ("FourLorries$Outlook", "spare", "I", false)
  | 5 => ("FourLorries$Outlook", "states", "I", false)
  | 6 => ("FourLorries$Outlook", "sizes", "[I", true)
  | 7 => ("FourLorries$Outlook", "strides", "[I", true)
  | 8 => ("FourLorries$Outlook", "can", "[I", true)
  | 9 => ("FourLorries$Outlook", "worths", "[J", true)
  | 10 => ("FourLorries$Outlook", "choices", "[I", true)
  | 11 => ("FourLorries$Outlook", "follows", "[J", true)
  | 12 => ("FourLorries$Outlook", "means", "[J", true)
  | _ => ("FourLorries$Outlook", "chances", "[J", true)
def tyX3 : Nat → FieldType := fun k => match k with
  | 0 => .object "FourLorries$Camp"
  | 1 => .int
  | 2 => .int
  | 3 => .int
  | 4 => .int
  | 5 => .int
  | 6 => .array .int
  | 7 => .array .int
  | 8 => .array .int
  | 9 => .array .long
  | 10 => .array .int
  | 11 => .array .long
  | 12 => .array .long
  | _ => .array .long
theorem nmX3 : ∀ a, a < 14 → ∀ b, b < 14 → a ≠ b → (TX3 a).2.1 ≠ (TX3 b).2.1 := by decide +kernel
theorem tyX3_ok : ∀ k, k < 14 → parseFieldDescriptor (TX3 k).2.2.1 = some (tyX3 k) := by decide +kernel
abbrev cX3_init : ByteArray := prog_5_method_1_code
def yX3_init : MethodName := ⟨RX3, "<init>", "()V"⟩
abbrev cX3_forget : ByteArray := prog_5_method_2_code
def yX3_forget : MethodName := ⟨RX3, "forget", "()V"⟩
abbrev cX3_look : ByteArray := prog_5_method_3_code
def yX3_look : MethodName := ⟨RX3, "look", "(LFourLorries$Camp;IIII)V"⟩
abbrev cX3_worthNow : ByteArray := prog_5_method_4_code
def yX3_worthNow : MethodName := ⟨RX3, "worthNow", "()J"⟩
abbrev cX3_choiceNow : ByteArray := prog_5_method_5_code
def yX3_choiceNow : MethodName := ⟨RX3, "choiceNow", "()I"⟩
abbrev cX3_gain : ByteArray := prog_5_method_6_code
def yX3_gain : MethodName := ⟨RX3, "gain", "(II)J"⟩
abbrev cX3_setSizes : ByteArray := prog_5_method_7_code
def yX3_setSizes : MethodName := ⟨RX3, "setSizes", "()V"⟩
abbrev cX3_goodIn : ByteArray := prog_5_method_8_code
def yX3_goodIn : MethodName := ⟨RX3, "goodIn", "(II)I"⟩
abbrev cX3_stateNow : ByteArray := prog_5_method_9_code
def yX3_stateNow : MethodName := ⟨RX3, "stateNow", "()I"⟩
abbrev cX3_fewestIn : ByteArray := prog_5_method_10_code
def yX3_fewestIn : MethodName := ⟨RX3, "fewestIn", "(I)I"⟩
abbrev cX3_afterPlane : ByteArray := prog_5_method_11_code
def yX3_afterPlane : MethodName := ⟨RX3, "afterPlane", "(I)I"⟩
abbrev cX3_passDay : ByteArray := prog_5_method_12_code
def yX3_passDay : MethodName := ⟨RX3, "passDay", "(II)V"⟩
abbrev cX3_isTried : ByteArray := prog_5_method_13_code
def yX3_isTried : MethodName := ⟨RX3, "isTried", "(II)Z"⟩
abbrev cX3_tryDriving : ByteArray := prog_5_method_14_code
def yX3_tryDriving : MethodName := ⟨RX3, "tryDriving", "(II)V"⟩
abbrev cX3_takeMeans : ByteArray := prog_5_method_15_code
def yX3_takeMeans : MethodName := ⟨RX3, "takeMeans", "(III)V"⟩
abbrev cX3_meanAt : ByteArray := prog_5_method_16_code
def yX3_meanAt : MethodName := ⟨RX3, "meanAt", "(III)J"⟩
abbrev cX3_setChances : ByteArray := prog_5_method_17_code
def yX3_setChances : MethodName := ⟨RX3, "setChances", "(II)V"⟩
abbrev cX3_neverMoved : ByteArray := prog_5_method_18_code
def yX3_neverMoved : MethodName := ⟨RX3, "neverMoved", "(LFourLorries$Camp;II)J"⟩
abbrev cX3_added : ByteArray := prog_5_method_19_code
def yX3_added : MethodName := ⟨RX3, "added", "(II)I"⟩
abbrev cX3_weightAdded : ByteArray := prog_5_method_20_code
def yX3_weightAdded : MethodName := ⟨RX3, "weightAdded", "(I)I"⟩
abbrev cX3_bestFilled : ByteArray := prog_5_method_21_code
def yX3_bestFilled : MethodName := ⟨RX3, "bestFilled", "(I)I"⟩
def RX4 : String := "FourLorries$Part"
def TX4 : u_T := fun k => match k with
  | 0 => ("FourLorries$Part", "number", "I", true)
  | 1 => ("FourLorries$Part", "sort", "I", true)
  | 2 => ("FourLorries$Part", "hours", "I", true)
  | 3 => ("FourLorries$Part", "good", "Z", false)
  | 4 => ("FourLorries$Part", "hidden", "Z", false)
  | _ => ("FourLorries$Part", "place", "I", false)
def tyX4 : Nat → FieldType := fun k => match k with
  | 0 => .int
  | 1 => .int
  | 2 => .int
  | 3 => .boolean
  | 4 => .boolean
  | _ => .int
theorem nmX4 : ∀ a, a < 6 → ∀ b, b < 6 → a ≠ b → (TX4 a).2.1 ≠ (TX4 b).2.1 := by decide +kernel
theorem tyX4_ok : ∀ k, k < 6 → parseFieldDescriptor (TX4 k).2.2.1 = some (tyX4 k) := by decide +kernel
abbrev cX4_init : ByteArray := prog_6_method_1_code
def yX4_init : MethodName := ⟨RX4, "<init>", "(III)V"⟩
abbrev cX4_kind : ByteArray := prog_6_method_2_code
def yX4_kind : MethodName := ⟨RX4, "kind", "()I"⟩
abbrev cX4_hoursFor : ByteArray := prog_6_method_3_code
def yX4_hoursFor : MethodName := ⟨RX4, "hoursFor", "(I)I"⟩
abbrev cX4_isUsable : ByteArray := prog_6_method_4_code
def yX4_isUsable : MethodName := ⟨RX4, "isUsable", "()Z"⟩
abbrev cX4_telling : ByteArray := prog_6_method_5_code
def yX4_telling : MethodName := ⟨RX4, "telling", "(LFourLorries$Trace;)I"⟩
abbrev cX4_firstTelling : ByteArray := prog_6_method_6_code
def yX4_firstTelling : MethodName := ⟨RX4, "firstTelling", "(LFourLorries$Trace;)I"⟩
abbrev cX4_listed : ByteArray := prog_6_method_7_code
def yX4_listed : MethodName := ⟨RX4, "listed", "(LFourLorries$Trace;)I"⟩
def RX5 : String := "FourLorries$Row"
def TX5 : u_T := fun k => match k with
  | 0 => ("FourLorries$Row", "lane", "I", false)
  | 1 => ("FourLorries$Row", "length", "I", false)
  | _ => ("FourLorries$Row", "cells", "[I", true)
def tyX5 : Nat → FieldType := fun k => match k with
  | 0 => .int
  | 1 => .int
  | _ => .array .int
theorem nmX5 : ∀ a, a < 3 → ∀ b, b < 3 → a ≠ b → (TX5 a).2.1 ≠ (TX5 b).2.1 := by decide +kernel
theorem tyX5_ok : ∀ k, k < 3 → parseFieldDescriptor (TX5 k).2.2.1 = some (tyX5 k) := by decide +kernel
abbrev cX5_init : ByteArray := prog_7_method_1_code
def yX5_init : MethodName := ⟨RX5, "<init>", "()V"⟩
abbrev cX5_isNothing : ByteArray := prog_7_method_2_code
def yX5_isNothing : MethodName := ⟨RX5, "isNothing", "()Z"⟩
abbrev cX5_begin : ByteArray := prog_7_method_3_code
def yX5_begin : MethodName := ⟨RX5, "begin", "(II)V"⟩
abbrev cX5_lacks : ByteArray := prog_7_method_4_code
def yX5_lacks : MethodName := ⟨RX5, "lacks", "(II)Z"⟩
abbrev cX5_write : ByteArray := prog_7_method_5_code
def yX5_write : MethodName := ⟨RX5, "write", "(II)V"⟩
abbrev cX5_areDraws : ByteArray := prog_7_method_6_code
def yX5_areDraws : MethodName := ⟨RX5, "areDraws", "(II)Z"⟩
def RX6 : String := "FourLorries$TextReader"
def TX6 : u_T := fun k => match k with
  | 0 => ("FourLorries$TextReader", "row", "LFourLorries$Row;", false)
  | 1 => ("FourLorries$TextReader", "from", "I", false)
  | 2 => ("FourLorries$TextReader", "codes", "I", false)
  | 3 => ("FourLorries$TextReader", "place", "I", false)
  | 4 => ("FourLorries$TextReader", "lastNumber", "I", false)
  | 5 => ("FourLorries$TextReader", "lorries", "I", false)
  | 6 => ("FourLorries$TextReader", "sorts", "I", false)
  | 7 => ("FourLorries$TextReader", "planeDays", "I", false)
  | 8 => ("FourLorries$TextReader", "numbers", "[I", true)
  | _ => ("FourLorries$TextReader", "brings", "[I", true)
def tyX6 : Nat → FieldType := fun k => match k with
  | 0 => .object "FourLorries$Row"
  | 1 => .int
  | 2 => .int
  | 3 => .int
  | 4 => .int
  | 5 => .int
  | 6 => .int
  | 7 => .int
  | 8 => .array .int
  | _ => .array .int
theorem nmX6 : ∀ a, a < 10 → ∀ b, b < 10 → a ≠ b → (TX6 a).2.1 ≠ (TX6 b).2.1 := by decide +kernel
theorem tyX6_ok : ∀ k, k < 10 → parseFieldDescriptor (TX6 k).2.2.1 = some (tyX6 k) := by decide +kernel
abbrev cX6_init : ByteArray := prog_8_method_1_code
def yX6_init : MethodName := ⟨RX6, "<init>", "()V"⟩
abbrev cX6_firstFault : ByteArray := prog_8_method_2_code
def yX6_firstFault : MethodName := ⟨RX6, "firstFault", "(LFourLorries$Row;II)I"⟩
abbrev cX6_readLorries : ByteArray := prog_8_method_3_code
def yX6_readLorries : MethodName := ⟨RX6, "readLorries", "()Z"⟩
abbrev cX6_readSorts : ByteArray := prog_8_method_4_code
def yX6_readSorts : MethodName := ⟨RX6, "readSorts", "()Z"⟩
abbrev cX6_readSort : ByteArray := prog_8_method_5_code
def yX6_readSort : MethodName := ⟨RX6, "readSort", "(I)Z"⟩
abbrev cX6_readBrings : ByteArray := prog_8_method_6_code
def yX6_readBrings : MethodName := ⟨RX6, "readBrings", "()Z"⟩
abbrev cX6_readPlane : ByteArray := prog_8_method_7_code
def yX6_readPlane : MethodName := ⟨RX6, "readPlane", "()Z"⟩
abbrev cX6_peek : ByteArray := prog_8_method_8_code
def yX6_peek : MethodName := ⟨RX6, "peek", "()I"⟩
abbrev cX6_peekAt : ByteArray := prog_8_method_9_code
def yX6_peekAt : MethodName := ⟨RX6, "peekAt", "(I)I"⟩
abbrev cX6_readCode : ByteArray := prog_8_method_10_code
def yX6_readCode : MethodName := ⟨RX6, "readCode", "(I)Z"⟩
abbrev cX6_readNumber : ByteArray := prog_8_method_11_code
def yX6_readNumber : MethodName := ⟨RX6, "readNumber", "(III)Z"⟩
abbrev cX6_isDigit : ByteArray := prog_8_method_12_code
def yX6_isDigit : MethodName := ⟨RX6, "isDigit", "(I)Z"⟩
def RX7 : String := "FourLorries$Trace"
def TX7 : u_T := fun k => match k with
  | _ => ("FourLorries$Trace", "left", "I", false)
def tyX7 : Nat → FieldType := fun k => match k with
  | _ => .int
theorem nmX7 : ∀ a, a < 1 → ∀ b, b < 1 → a ≠ b → (TX7 a).2.1 ≠ (TX7 b).2.1 := by decide +kernel
theorem tyX7_ok : ∀ k, k < 1 → parseFieldDescriptor (TX7 k).2.2.1 = some (tyX7 k) := by decide +kernel
abbrev cX7_init : ByteArray := prog_9_method_1_code
def yX7_init : MethodName := ⟨RX7, "<init>", "()V"⟩
abbrev cX7_leave : ByteArray := prog_9_method_2_code
def yX7_leave : MethodName := ⟨RX7, "leave", "(I)V"⟩
def RX8 : String := "FourLorries$Way"
def TX8 : u_T := fun k => match k with
  | 0 => ("FourLorries$Way", "count", "I", false)
  | 1 => ("FourLorries$Way", "moves", "I", false)
  | 2 => ("FourLorries$Way", "hours", "I", false)
  | 3 => ("FourLorries$Way", "lorries", "I", false)
  | 4 => ("FourLorries$Way", "goesTo", "[I", true)
  | 5 => ("FourLorries$Way", "parts", "[LFourLorries$Part;", false)
  | 6 => ("FourLorries$Way", "partCount", "I", false)
  | 7 => ("FourLorries$Way", "wanted", "I", false)
  | 8 => ("FourLorries$Way", "wantedPlaces", "[I", true)
  | 9 => ("FourLorries$Way", "prices", "[J", true)
  | 10 => ("FourLorries$Way", "placeBids", "[J", true)
  | 11 => ("FourLorries$Way", "partBids", "[J", true)
  | 12 => ("FourLorries$Way", "slacks", "[J", true)
  | 13 => ("FourLorries$Way", "holders", "[I", true)
  | 14 => ("FourLorries$Way", "befores", "[I", true)
  | _ => ("FourLorries$Way", "seen", "[Z", true)
def tyX8 : Nat → FieldType := fun k => match k with
  | 0 => .int
  | 1 => .int
  | 2 => .int
  | 3 => .int
  | 4 => .array .int
  | 5 => .array (.object "FourLorries$Part")
  | 6 => .int
  | 7 => .int
  | 8 => .array .int
  | 9 => .array .long
  | 10 => .array .long
  | 11 => .array .long
  | 12 => .array .long
  | 13 => .array .int
  | 14 => .array .int
  | _ => .array .boolean
theorem nmX8 : ∀ a, a < 16 → ∀ b, b < 16 → a ≠ b → (TX8 a).2.1 ≠ (TX8 b).2.1 := by decide +kernel
theorem tyX8_ok : ∀ k, k < 16 → parseFieldDescriptor (TX8 k).2.2.1 = some (tyX8 k) := by decide +kernel
abbrev cX8_init : ByteArray := prog_10_method_1_code
def yX8_init : MethodName := ⟨RX8, "<init>", "()V"⟩
abbrev cX8_find : ByteArray := prog_10_method_2_code
def yX8_find : MethodName := ⟨RX8, "find", "([LFourLorries$Part;I)V"⟩
abbrev cX8_mostLorries : ByteArray := prog_10_method_3_code
def yX8_mostLorries : MethodName := ⟨RX8, "mostLorries", "()I"⟩
abbrev cX8_usableFor : ByteArray := prog_10_method_4_code
def yX8_usableFor : MethodName := ⟨RX8, "usableFor", "(I)I"⟩
abbrev cX8_fitsOneOf : ByteArray := prog_10_method_5_code
def yX8_fitsOneOf : MethodName := ⟨RX8, "fitsOneOf", "(LFourLorries$Part;I)Z"⟩
abbrev cX8_priceOf : ByteArray := prog_10_method_6_code
def yX8_priceOf : MethodName := ⟨RX8, "priceOf", "(I)J"⟩
abbrev cX8_setPrices : ByteArray := prog_10_method_7_code
def yX8_setPrices : MethodName := ⟨RX8, "setPrices", "(I)V"⟩
abbrev cX8_price : ByteArray := prog_10_method_8_code
def yX8_price : MethodName := ⟨RX8, "price", "(LFourLorries$Part;I)J"⟩
abbrev cX8_givePartTo : ByteArray := prog_10_method_9_code
def yX8_givePartTo : MethodName := ⟨RX8, "givePartTo", "(I)V"⟩
abbrev cX8_findSlacks : ByteArray := prog_10_method_10_code
def yX8_findSlacks : MethodName := ⟨RX8, "findSlacks", "(I)V"⟩
abbrev cX8_nearest : ByteArray := prog_10_method_11_code
def yX8_nearest : MethodName := ⟨RX8, "nearest", "()I"⟩
abbrev cX8_lowerBids : ByteArray := prog_10_method_12_code
def yX8_lowerBids : MethodName := ⟨RX8, "lowerBids", "(J)V"⟩
abbrev cX8_keep : ByteArray := prog_10_method_13_code
def yX8_keep : MethodName := ⟨RX8, "keep", "(IJ)V"⟩
def RX9 : String := "FourLorries$Yard"
def TX9 : u_T := fun k => match k with
  | 0 => ("FourLorries$Yard", "parts", "[LFourLorries$Part;", true)
  | 1 => ("FourLorries$Yard", "count", "I", false)
  | 2 => ("FourLorries$Yard", "places", "[I", true)
  | 3 => ("FourLorries$Yard", "spoilsBelow", "I", false)
  | 4 => ("FourLorries$Yard", "breaksBelow", "[I", true)
  | 5 => ("FourLorries$Yard", "way", "LFourLorries$Way;", true)
  | _ => ("FourLorries$Yard", "wayIsKnown", "Z", false)
def tyX9 : Nat → FieldType := fun k => match k with
  | 0 => .array (.object "FourLorries$Part")
  | 1 => .int
  | 2 => .array .int
  | 3 => .int
  | 4 => .array .int
  | 5 => .object "FourLorries$Way"
  | _ => .boolean
theorem nmX9 : ∀ a, a < 7 → ∀ b, b < 7 → a ≠ b → (TX9 a).2.1 ≠ (TX9 b).2.1 := by decide +kernel
theorem tyX9_ok : ∀ k, k < 7 → parseFieldDescriptor (TX9 k).2.2.1 = some (tyX9 k) := by decide +kernel
abbrev cX9_init : ByteArray := prog_11_method_1_code
def yX9_init : MethodName := ⟨RX9, "<init>", "()V"⟩
abbrev cX9_addPart : ByteArray := prog_11_method_2_code
def yX9_addPart : MethodName := ⟨RX9, "addPart", "(III)I"⟩
abbrev cX9_carry : ByteArray := prog_11_method_3_code
def yX9_carry : MethodName := ⟨RX9, "carry", "(LFourLorries$Part;II)I"⟩
abbrev cX9_takeOff : ByteArray := prog_11_method_4_code
def yX9_takeOff : MethodName := ⟨RX9, "takeOff", "(LFourLorries$Part;I)V"⟩
abbrev cX9_makeGood : ByteArray := prog_11_method_5_code
def yX9_makeGood : MethodName := ⟨RX9, "makeGood", "(LFourLorries$Part;Z)I"⟩
abbrev cX9_makeHidden : ByteArray := prog_11_method_6_code
def yX9_makeHidden : MethodName := ⟨RX9, "makeHidden", "(LFourLorries$Part;Z)I"⟩
abbrev cX9_running : ByteArray := prog_11_method_7_code
def yX9_running : MethodName := ⟨RX9, "running", "()I"⟩
abbrev cX9_canGo : ByteArray := prog_11_method_8_code
def yX9_canGo : MethodName := ⟨RX9, "canGo", "(I)Z"⟩
abbrev cX9_driveOut : ByteArray := prog_11_method_9_code
def yX9_driveOut : MethodName := ⟨RX9, "driveOut", "(LFourLorries$Row;I)I"⟩
abbrev cX9_bestWay : ByteArray := prog_11_method_10_code
def yX9_bestWay : MethodName := ⟨RX9, "bestWay", "()LFourLorries$Way;"⟩
abbrev cX9_countGood : ByteArray := prog_11_method_11_code
def yX9_countGood : MethodName := ⟨RX9, "countGood", "()I"⟩
abbrev cX9_countHidden : ByteArray := prog_11_method_12_code
def yX9_countHidden : MethodName := ⟨RX9, "countHidden", "()I"⟩
def RX10 : String := "FourLorries"
def TX10 : u_T := fun k => match k with
  | 0 => ("FourLorries", "camps", "[LFourLorries$Camp;", true)
  | 1 => ("FourLorries", "campCount", "I", false)
  | 2 => ("FourLorries", "reader", "LFourLorries$TextReader;", true)
  | 3 => ("FourLorries", "outlook", "LFourLorries$Outlook;", true)
  | 4 => ("FourLorries", "yard", "LFourLorries$Yard;", true)
  | 5 => ("FourLorries", "rows", "[LFourLorries$Row;", true)
  | 6 => ("FourLorries", "traced", "LFourLorries$Trace;", true)
  | _ => ("FourLorries", "latestFault", "I", false)
def tyX10 : Nat → FieldType := fun k => match k with
  | 0 => .array (.object "FourLorries$Camp")
  | 1 => .int
  | 2 => .object "FourLorries$TextReader"
  | 3 => .object "FourLorries$Outlook"
  | 4 => .object "FourLorries$Yard"
  | 5 => .array (.object "FourLorries$Row")
  | 6 => .object "FourLorries$Trace"
  | _ => .int
theorem nmX10 : ∀ a, a < 8 → ∀ b, b < 8 → a ≠ b → (TX10 a).2.1 ≠ (TX10 b).2.1 := by decide +kernel
theorem tyX10_ok : ∀ k, k < 8 → parseFieldDescriptor (TX10 k).2.2.1 = some (tyX10 k) := by decide +kernel
abbrev cX10_init : ByteArray := prog_1_method_1_code
def yX10_init : MethodName := ⟨RX10, "<init>", "()V"⟩
abbrev cX10_camp : ByteArray := prog_1_method_2_code
def yX10_camp : MethodName := ⟨RX10, "camp", "(IIII)I"⟩
abbrev cX10_ofCamp : ByteArray := prog_1_method_3_code
def yX10_ofCamp : MethodName := ⟨RX10, "ofCamp", "(II)I"⟩
abbrev cX10_ofSort : ByteArray := prog_1_method_4_code
def yX10_ofSort : MethodName := ⟨RX10, "ofSort", "(III)I"⟩
abbrev cX10_turn : ByteArray := prog_1_method_5_code
def yX10_turn : MethodName := ⟨RX10, "turn", "(IIII)I"⟩
abbrev cX10_value : ByteArray := prog_1_method_6_code
def yX10_value : MethodName := ⟨RX10, "value", "(IIII)J"⟩
abbrev cX10_today : ByteArray := prog_1_method_7_code
def yX10_today : MethodName := ⟨RX10, "today", "(III)I"⟩
abbrev cX10_worth : ByteArray := prog_1_method_8_code
def yX10_worth : MethodName := ⟨RX10, "worth", "(III)J"⟩
abbrev cX10_crate : ByteArray := prog_1_method_9_code
def yX10_crate : MethodName := ⟨RX10, "crate", "(IIII)I"⟩
abbrev cX10_lent : ByteArray := prog_1_method_10_code
def yX10_lent : MethodName := ⟨RX10, "lent", "(IIII)J"⟩
abbrev cX10_both : ByteArray := prog_1_method_11_code
def yX10_both : MethodName := ⟨RX10, "both", "(IIIII)I"⟩
abbrev cX10_part : ByteArray := prog_1_method_12_code
def yX10_part : MethodName := ⟨RX10, "part", "(III)I"⟩
abbrev cX10_ofPart : ByteArray := prog_1_method_13_code
def yX10_ofPart : MethodName := ⟨RX10, "ofPart", "(II)I"⟩
abbrev cX10_at : ByteArray := prog_1_method_14_code
def yX10_at : MethodName := ⟨RX10, "at", "(II)I"⟩
abbrev cX10_fits : ByteArray := prog_1_method_15_code
def yX10_fits : MethodName := ⟨RX10, "fits", "(II)I"⟩
abbrev cX10_move : ByteArray := prog_1_method_16_code
def yX10_move : MethodName := ⟨RX10, "move", "(IIII)I"⟩
abbrev cX10_mend : ByteArray := prog_1_method_17_code
def yX10_mend : MethodName := ⟨RX10, "mend", "(IZ)I"⟩
abbrev cX10_hide : ByteArray := prog_1_method_18_code
def yX10_hide : MethodName := ⟨RX10, "hide", "(IZ)I"⟩
abbrev cX10_spoils : ByteArray := prog_1_method_19_code
def yX10_spoils : MethodName := ⟨RX10, "spoils", "(I)I"⟩
abbrev cX10_odds : ByteArray := prog_1_method_20_code
def yX10_odds : MethodName := ⟨RX10, "odds", "(II)I"⟩
abbrev cX10_runs : ByteArray := prog_1_method_21_code
def yX10_runs : MethodName := ⟨RX10, "runs", "()I"⟩
abbrev cX10_most : ByteArray := prog_1_method_22_code
def yX10_most : MethodName := ⟨RX10, "most", "(I)I"⟩
abbrev cX10_goes : ByteArray := prog_1_method_23_code
def yX10_goes : MethodName := ⟨RX10, "goes", "(I)I"⟩
abbrev cX10_drive : ByteArray := prog_1_method_24_code
def yX10_drive : MethodName := ⟨RX10, "drive", "(IIII)I"⟩
abbrev cX10_sheet : ByteArray := prog_1_method_25_code
def yX10_sheet : MethodName := ⟨RX10, "sheet", "(III)I"⟩
abbrev cX10_lose : ByteArray := prog_1_method_26_code
def yX10_lose : MethodName := ⟨RX10, "lose", "(I)I"⟩
abbrev cX10_put : ByteArray := prog_1_method_27_code
def yX10_put : MethodName := ⟨RX10, "put", "(III)I"⟩
abbrev cX10_cell : ByteArray := prog_1_method_28_code
def yX10_cell : MethodName := ⟨RX10, "cell", "(III)J"⟩
abbrev cX10_copy : ByteArray := prog_1_method_29_code
def yX10_copy : MethodName := ⟨RX10, "copy", "(IIIII)I"⟩
abbrev cX10_tell : ByteArray := prog_1_method_30_code
def yX10_tell : MethodName := ⟨RX10, "tell", "(I)I"⟩
abbrev cX10_list : ByteArray := prog_1_method_31_code
def yX10_list : MethodName := ⟨RX10, "list", "(I)I"⟩
abbrev cX10_as : ByteArray := prog_1_method_32_code
def yX10_as : MethodName := ⟨RX10, "as", "(II)I"⟩
abbrev cX10_trace : ByteArray := prog_1_method_33_code
def yX10_trace : MethodName := ⟨RX10, "trace", "()I"⟩
abbrev cX10_fault : ByteArray := prog_1_method_34_code
def yX10_fault : MethodName := ⟨RX10, "fault", "()I"⟩
abbrev cX10_many : ByteArray := prog_1_method_35_code
def yX10_many : MethodName := ⟨RX10, "many", "(I)I"⟩
abbrev cX10_isCamp : ByteArray := prog_1_method_36_code
def yX10_isCamp : MethodName := ⟨RX10, "isCamp", "(I)Z"⟩
abbrev cX10_isSortOf : ByteArray := prog_1_method_37_code
def yX10_isSortOf : MethodName := ⟨RX10, "isSortOf", "(II)Z"⟩
abbrev cX10_isPart : ByteArray := prog_1_method_38_code
def yX10_isPart : MethodName := ⟨RX10, "isPart", "(I)Z"⟩
abbrev cX10_isDay : ByteArray := prog_1_method_39_code
def yX10_isDay : MethodName := ⟨RX10, "isDay", "(I)Z"⟩
abbrev cX10_isYardLorry : ByteArray := prog_1_method_40_code
def yX10_isYardLorry : MethodName := ⟨RX10, "isYardLorry", "(I)Z"⟩
abbrev cX10_isYardSort : ByteArray := prog_1_method_41_code
def yX10_isYardSort : MethodName := ⟨RX10, "isYardSort", "(I)Z"⟩
abbrev cX10_isSheet : ByteArray := prog_1_method_42_code
def yX10_isSheet : MethodName := ⟨RX10, "isSheet", "(I)Z"⟩
abbrev cX10_isLane : ByteArray := prog_1_method_43_code
def yX10_isLane : MethodName := ⟨RX10, "isLane", "(I)Z"⟩
abbrev cX10_faulty : ByteArray := prog_1_method_44_code
def yX10_faulty : MethodName := ⟨RX10, "faulty", "(I)I"⟩
abbrev cX10_takeRow : ByteArray := prog_1_method_45_code
def yX10_takeRow : MethodName := ⟨RX10, "takeRow", "(LFourLorries$Row;I)I"⟩
abbrev cX10_takeCells : ByteArray := prog_1_method_46_code
def yX10_takeCells : MethodName := ⟨RX10, "takeCells", "(IIII)I"⟩
abbrev cX10_bestGain : ByteArray := prog_1_method_47_code
def yX10_bestGain : MethodName := ⟨RX10, "bestGain", "(LFourLorries$Camp;III)J"⟩
abbrev cX10_canSwap : ByteArray := prog_1_method_48_code
def yX10_canSwap : MethodName := ⟨RX10, "canSwap", "(LFourLorries$Camp;II)Z"⟩
def RX11 : String := "FourLorriesModel"
def TX11 : u_T := fun k => match k with
  | 0 => ("FourLorriesModel", "fault", "I", false)
  | 1 => ("FourLorriesModel", "camps", "I", false)
  | 2 => ("FourLorriesModel", "lorriesOf", "[I", true)
  | 3 => ("FourLorriesModel", "sortsOf", "[I", true)
  | 4 => ("FourLorriesModel", "planeOf", "[I", true)
  | 5 => ("FourLorriesModel", "brings", "[I", true)
  | 6 => ("FourLorriesModel", "sortNumber", "[I", true)
  | 7 => ("FourLorriesModel", "readAt", "I", false)
  | 8 => ("FourLorriesModel", "readValue", "I", false)
  | 9 => ("FourLorriesModel", "readLorries", "I", false)
  | 10 => ("FourLorriesModel", "readSorts", "I", false)
  | 11 => ("FourLorriesModel", "readPlane", "I", false)
  | 12 => ("FourLorriesModel", "readBrings", "[I", true)
  | 13 => ("FourLorriesModel", "readNumber", "[I", true)
  | 14 => ("FourLorriesModel", "follows", "[J", true)
  | 15 => ("FourLorriesModel", "then", "[J", true)
  | 16 => ("FourLorriesModel", "within", "[J", true)
  | 17 => ("FourLorriesModel", "best", "[J", true)
  | 18 => ("FourLorriesModel", "parts", "I", false)
  | 19 => ("FourLorriesModel", "kindOf", "[I", true)
  | 20 => ("FourLorriesModel", "sortOf", "[I", true)
  | 21 => ("FourLorriesModel", "hoursOf", "[I", true)
  | 22 => ("FourLorriesModel", "isGood", "[Z", true)
  | 23 => ("FourLorriesModel", "isHidden", "[Z", true)
  | 24 => ("FourLorriesModel", "placeOf", "[I", true)
  | 25 => ("FourLorriesModel", "place", "[I", true)
  | 26 => ("FourLorriesModel", "spoilsNow", "I", false)
  | 27 => ("FourLorriesModel", "oddsOf", "[I", true)
  | 28 => ("FourLorriesModel", "costFrom", "[I", true)
  | 29 => ("FourLorriesModel", "wanted", "I", false)
  | 30 => ("FourLorriesModel", "wantedPlace", "[I", true)
  | 31 => ("FourLorriesModel", "waySet", "I", false)
  | 32 => ("FourLorriesModel", "wayCost", "I", false)
  | 33 => ("FourLorriesModel", "sheetSize", "[I", true)
  | 34 => ("FourLorriesModel", "sheetLane", "[I", true)
  | 35 => ("FourLorriesModel", "sheet", "[I", true)
  | 36 => ("FourLorriesModel", "hands", "[I", true)
  | _ => ("FourLorriesModel", "traceNow", "I", false)
def tyX11 : Nat → FieldType := fun k => match k with
  | 0 => .int
  | 1 => .int
  | 2 => .array .int
  | 3 => .array .int
  | 4 => .array .int
  | 5 => .array .int
  | 6 => .array .int
  | 7 => .int
  | 8 => .int
  | 9 => .int
  | 10 => .int
  | 11 => .int
  | 12 => .array .int
  | 13 => .array .int
  | 14 => .array .long
  | 15 => .array .long
  | 16 => .array .long
  | 17 => .array .long
  | 18 => .int
  | 19 => .array .int
  | 20 => .array .int
  | 21 => .array .int
  | 22 => .array .boolean
  | 23 => .array .boolean
  | 24 => .array .int
  | 25 => .array .int
  | 26 => .int
  | 27 => .array .int
  | 28 => .array .int
  | 29 => .int
  | 30 => .array .int
  | 31 => .int
  | 32 => .int
  | 33 => .array .int
  | 34 => .array .int
  | 35 => .array .int
  | 36 => .array .int
  | _ => .int
theorem nmX11 : ∀ a, a < 38 → ∀ b, b < 38 → a ≠ b → (TX11 a).2.1 ≠ (TX11 b).2.1 := by decide +kernel
theorem tyX11_ok : ∀ k, k < 38 → parseFieldDescriptor (TX11 k).2.2.1 = some (tyX11 k) := by decide +kernel
abbrev cX11_init : ByteArray := prog_13_method_1_code
def yX11_init : MethodName := ⟨RX11, "<init>", "()V"⟩
abbrev cX11_in : ByteArray := prog_13_method_2_code
def yX11_in : MethodName := ⟨RX11, "in", "(JJJ)Z"⟩
abbrev cX11_lost : ByteArray := prog_13_method_3_code
def yX11_lost : MethodName := ⟨RX11, "lost", "()J"⟩
abbrev cX11_hasBit : ByteArray := prog_13_method_4_code
def yX11_hasBit : MethodName := ⟨RX11, "hasBit", "(II)Z"⟩
abbrev cX11_lesser : ByteArray := prog_13_method_5_code
def yX11_lesser : MethodName := ⟨RX11, "lesser", "(II)I"⟩
abbrev cX11_refused : ByteArray := prog_13_method_6_code
def yX11_refused : MethodName := ⟨RX11, "refused", "(I)I"⟩
abbrev cX11_failed : ByteArray := prog_13_method_7_code
def yX11_failed : MethodName := ⟨RX11, "failed", "(I)I"⟩
abbrev cX11_failedLong : ByteArray := prog_13_method_8_code
def yX11_failedLong : MethodName := ⟨RX11, "failedLong", "(I)J"⟩
abbrev cX11_barred : ByteArray := prog_13_method_9_code
def yX11_barred : MethodName := ⟨RX11, "barred", "(IIIJ)I"⟩
abbrev cX11_noCamp : ByteArray := prog_13_method_10_code
def yX11_noCamp : MethodName := ⟨RX11, "noCamp", "(I)Z"⟩
abbrev cX11_noSort : ByteArray := prog_13_method_11_code
def yX11_noSort : MethodName := ⟨RX11, "noSort", "(II)Z"⟩
abbrev cX11_of : ByteArray := prog_13_method_12_code
def yX11_of : MethodName := ⟨RX11, "of", "(III)I"⟩
abbrev cX11_takes : ByteArray := prog_13_method_13_code
def yX11_takes : MethodName := ⟨RX11, "takes", "(III)Z"⟩
abbrev cX11_readsNumber : ByteArray := prog_13_method_14_code
def yX11_readsNumber : MethodName := ⟨RX11, "readsNumber", "(IIIII)Z"⟩
abbrev cX11_readsOne : ByteArray := prog_13_method_15_code
def yX11_readsOne : MethodName := ⟨RX11, "readsOne", "(IIIIIII)Z"⟩
abbrev cX11_readsSort : ByteArray := prog_13_method_16_code
def yX11_readsSort : MethodName := ⟨RX11, "readsSort", "(II)Z"⟩
abbrev cX11_readsBrings : ByteArray := prog_13_method_17_code
def yX11_readsBrings : MethodName := ⟨RX11, "readsBrings", "(II)Z"⟩
abbrev cX11_readsPlane : ByteArray := prog_13_method_18_code
def yX11_readsPlane : MethodName := ⟨RX11, "readsPlane", "(II)Z"⟩
abbrev cX11_nextIs : ByteArray := prog_13_method_19_code
def yX11_nextIs : MethodName := ⟨RX11, "nextIs", "(III)Z"⟩
abbrev cX11_readsCamp : ByteArray := prog_13_method_20_code
def yX11_readsCamp : MethodName := ⟨RX11, "readsCamp", "(II)Z"⟩
abbrev cX11_camp : ByteArray := prog_13_method_21_code
def yX11_camp : MethodName := ⟨RX11, "camp", "(IIII)I"⟩
abbrev cX11_canRun : ByteArray := prog_13_method_22_code
def yX11_canRun : MethodName := ⟨RX11, "canRun", "(III)I"⟩
abbrev cX11_stateOf : ByteArray := prog_13_method_23_code
def yX11_stateOf : MethodName := ⟨RX11, "stateOf", "(I)I"⟩
abbrev cX11_ofCamp : ByteArray := prog_13_method_24_code
def yX11_ofCamp : MethodName := ⟨RX11, "ofCamp", "(II)I"⟩
abbrev cX11_ofSort : ByteArray := prog_13_method_25_code
def yX11_ofSort : MethodName := ⟨RX11, "ofSort", "(III)I"⟩
abbrev cX11_turn : ByteArray := prog_13_method_26_code
def yX11_turn : MethodName := ⟨RX11, "turn", "(IIII)I"⟩
abbrev cX11_power : ByteArray := prog_13_method_27_code
def yX11_power : MethodName := ⟨RX11, "power", "(II)J"⟩
abbrev cX11_chance : ByteArray := prog_13_method_28_code
def yX11_chance : MethodName := ⟨RX11, "chance", "(III)J"⟩
abbrev cX11_part12 : ByteArray := prog_13_method_29_code
def yX11_part12 : MethodName := ⟨RX11, "part12", "(JII)J"⟩
abbrev cX11_sixes : ByteArray := prog_13_method_30_code
def yX11_sixes : MethodName := ⟨RX11, "sixes", "(I)I"⟩
abbrev cX11_planed : ByteArray := prog_13_method_31_code
def yX11_planed : MethodName := ⟨RX11, "planed", "(II)I"⟩
abbrev cX11_layMean : ByteArray := prog_13_method_32_code
def yX11_layMean : MethodName := ⟨RX11, "layMean", "(IIIIIZ)V"⟩
abbrev cX11_manyBy : ByteArray := prog_13_method_33_code
def yX11_manyBy : MethodName := ⟨RX11, "manyBy", "(III)I"⟩
abbrev cX11_layDay : ByteArray := prog_13_method_34_code
def yX11_layDay : MethodName := ⟨RX11, "layDay", "(IIII)V"⟩
abbrev cX11_layLone : ByteArray := prog_13_method_35_code
def yX11_layLone : MethodName := ⟨RX11, "layLone", "(II)V"⟩
abbrev cX11_layAll : ByteArray := prog_13_method_36_code
def yX11_layAll : MethodName := ⟨RX11, "layAll", "(IIII)V"⟩
abbrev cX11_isSpan : ByteArray := prog_13_method_37_code
def yX11_isSpan : MethodName := ⟨RX11, "isSpan", "(I)Z"⟩
abbrev cX11_value : ByteArray := prog_13_method_38_code
def yX11_value : MethodName := ⟨RX11, "value", "(IIII)J"⟩
abbrev cX11_today : ByteArray := prog_13_method_39_code
def yX11_today : MethodName := ⟨RX11, "today", "(III)I"⟩
abbrev cX11_lowWith : ByteArray := prog_13_method_40_code
def yX11_lowWith : MethodName := ⟨RX11, "lowWith", "(IIII)J"⟩
abbrev cX11_worth : ByteArray := prog_13_method_41_code
def yX11_worth : MethodName := ⟨RX11, "worth", "(III)J"⟩
abbrev cX11_crate : ByteArray := prog_13_method_42_code
def yX11_crate : MethodName := ⟨RX11, "crate", "(IIII)I"⟩
abbrev cX11_lent : ByteArray := prog_13_method_43_code
def yX11_lent : MethodName := ⟨RX11, "lent", "(IIII)J"⟩
abbrev cX11_isMore : ByteArray := prog_13_method_44_code
def yX11_isMore : MethodName := ⟨RX11, "isMore", "(IIII)Z"⟩
abbrev cX11_both : ByteArray := prog_13_method_45_code
def yX11_both : MethodName := ⟨RX11, "both", "(IIIII)I"⟩
abbrev cX11_noPart : ByteArray := prog_13_method_46_code
def yX11_noPart : MethodName := ⟨RX11, "noPart", "(I)Z"⟩
abbrev cX11_noYardSort : ByteArray := prog_13_method_47_code
def yX11_noYardSort : MethodName := ⟨RX11, "noYardSort", "(I)Z"⟩
abbrev cX11_part : ByteArray := prog_13_method_48_code
def yX11_part : MethodName := ⟨RX11, "part", "(III)I"⟩
abbrev cX11_ofPart : ByteArray := prog_13_method_49_code
def yX11_ofPart : MethodName := ⟨RX11, "ofPart", "(II)I"⟩
abbrev cX11_noLorry : ByteArray := prog_13_method_50_code
def yX11_noLorry : MethodName := ⟨RX11, "noLorry", "(I)Z"⟩
abbrev cX11_at : ByteArray := prog_13_method_51_code
def yX11_at : MethodName := ⟨RX11, "at", "(II)I"⟩
abbrev cX11_hoursFor : ByteArray := prog_13_method_52_code
def yX11_hoursFor : MethodName := ⟨RX11, "hoursFor", "(II)I"⟩
abbrev cX11_fits : ByteArray := prog_13_method_53_code
def yX11_fits : MethodName := ⟨RX11, "fits", "(II)I"⟩
abbrev cX11_move : ByteArray := prog_13_method_54_code
def yX11_move : MethodName := ⟨RX11, "move", "(IIII)I"⟩
abbrev cX11_mend : ByteArray := prog_13_method_55_code
def yX11_mend : MethodName := ⟨RX11, "mend", "(IZ)I"⟩
abbrev cX11_hide : ByteArray := prog_13_method_56_code
def yX11_hide : MethodName := ⟨RX11, "hide", "(IZ)I"⟩
abbrev cX11_spoils : ByteArray := prog_13_method_57_code
def yX11_spoils : MethodName := ⟨RX11, "spoils", "(I)I"⟩
abbrev cX11_odds : ByteArray := prog_13_method_58_code
def yX11_odds : MethodName := ⟨RX11, "odds", "(II)I"⟩
abbrev cX11_doesRun : ByteArray := prog_13_method_59_code
def yX11_doesRun : MethodName := ⟨RX11, "doesRun", "(I)Z"⟩
abbrev cX11_runs : ByteArray := prog_13_method_60_code
def yX11_runs : MethodName := ⟨RX11, "runs", "()I"⟩
abbrev cX11_layWanted : ByteArray := prog_13_method_61_code
def yX11_layWanted : MethodName := ⟨RX11, "layWanted", "(I)V"⟩
abbrev cX11_costOf : ByteArray := prog_13_method_62_code
def yX11_costOf : MethodName := ⟨RX11, "costOf", "(II)I"⟩
abbrev cX11_layCosts : ByteArray := prog_13_method_63_code
def yX11_layCosts : MethodName := ⟨RX11, "layCosts", "(I)V"⟩
abbrev cX11_bits : ByteArray := prog_13_method_64_code
def yX11_bits : MethodName := ⟨RX11, "bits", "(I)I"⟩
abbrev cX11_layWay : ByteArray := prog_13_method_65_code
def yX11_layWay : MethodName := ⟨RX11, "layWay", "()V"⟩
abbrev cX11_most : ByteArray := prog_13_method_66_code
def yX11_most : MethodName := ⟨RX11, "most", "(I)I"⟩
abbrev cX11_goes : ByteArray := prog_13_method_67_code
def yX11_goes : MethodName := ⟨RX11, "goes", "(I)I"⟩
abbrev cX11_drive : ByteArray := prog_13_method_68_code
def yX11_drive : MethodName := ⟨RX11, "drive", "(IIII)I"⟩
abbrev cX11_noSheet : ByteArray := prog_13_method_69_code
def yX11_noSheet : MethodName := ⟨RX11, "noSheet", "(I)Z"⟩
abbrev cX11_sheet : ByteArray := prog_13_method_70_code
def yX11_sheet : MethodName := ⟨RX11, "sheet", "(III)I"⟩
abbrev cX11_lose : ByteArray := prog_13_method_71_code
def yX11_lose : MethodName := ⟨RX11, "lose", "(I)I"⟩
abbrev cX11_noCell : ByteArray := prog_13_method_72_code
def yX11_noCell : MethodName := ⟨RX11, "noCell", "(II)I"⟩
abbrev cX11_put : ByteArray := prog_13_method_73_code
def yX11_put : MethodName := ⟨RX11, "put", "(III)I"⟩
abbrev cX11_cell : ByteArray := prog_13_method_74_code
def yX11_cell : MethodName := ⟨RX11, "cell", "(III)J"⟩
abbrev cX11_isBeyond : ByteArray := prog_13_method_75_code
def yX11_isBeyond : MethodName := ⟨RX11, "isBeyond", "(IJI)Z"⟩
abbrev cX11_copy : ByteArray := prog_13_method_76_code
def yX11_copy : MethodName := ⟨RX11, "copy", "(IIIII)I"⟩
abbrev cX11_traced : ByteArray := prog_13_method_77_code
def yX11_traced : MethodName := ⟨RX11, "traced", "(I)V"⟩
abbrev cX11_tell : ByteArray := prog_13_method_78_code
def yX11_tell : MethodName := ⟨RX11, "tell", "(I)I"⟩
abbrev cX11_list : ByteArray := prog_13_method_79_code
def yX11_list : MethodName := ⟨RX11, "list", "(I)I"⟩
abbrev cX11_as : ByteArray := prog_13_method_80_code
def yX11_as : MethodName := ⟨RX11, "as", "(II)I"⟩
abbrev cX11_trace : ByteArray := prog_13_method_81_code
def yX11_trace : MethodName := ⟨RX11, "trace", "()I"⟩
abbrev cX11_fault : ByteArray := prog_13_method_82_code
def yX11_fault : MethodName := ⟨RX11, "fault", "()I"⟩
abbrev cX11_many : ByteArray := prog_13_method_83_code
def yX11_many : MethodName := ⟨RX11, "many", "(I)I"⟩
def RJx8e188 : String := "java/lang/Cloneable"
def RJ6 : String := "java/lang/Integer"
abbrev cJ6_bitCount_0f7a4 : ByteArray := prog_15_method_49_code
def yJ6_bitCount_0f7a4 : MethodName := ⟨RJ6, "bitCount", "(I)I"⟩
def RJ9 : String := "java/lang/Math"
abbrev cJ9_min_7cf53 : ByteArray := prog_16_method_69_code
def yJ9_min_7cf53 : MethodName := ⟨RJ9, "min", "(II)I"⟩
def RJ10 : String := "java/lang/System"
def RJ7 : String := "java/util/Arrays"
abbrev cJ7_fill_d0a16 : ByteArray := prog_18_method_101_code
def yJ7_fill_d0a16 : MethodName := ⟨RJ7, "fill", "([JJ)V"⟩
abbrev cJ7_fill_53178 : ByteArray := prog_18_method_103_code
def yJ7_fill_53178 : MethodName := ⟨RJ7, "fill", "([II)V"⟩
abbrev cJ7_copyOf_59c91 : ByteArray := prog_18_method_123_code
def yJ7_copyOf_59c91 : MethodName := ⟨RJ7, "copyOf", "([II)[I"⟩
def RL : String := "FourLorriesLaw"
abbrev cL_law : ByteArray := code
def yL_law : MethodName := ⟨RL, "law", "([I)Z"⟩
abbrev vwCl : List vw_C := [(RX0, TX0, 5), (RX1, TX1, 6), (RX2, TX2, 6), (RX3, TX3, 14), (RX4, TX4, 6), (RX5, TX5, 3), (RX6, TX6, 10), (RX7, TX7, 1), (RX8, TX8, 16), (RX9, TX9, 7), (RX10, TX10, 8), (RX11, TX11, 38)]
end
section
abbrev Rw : Type := Nat × Nat × Instr × Nat × Value
def ct0 : List Rw := [(0, 1, .iload_n 0, 0, .null), (1, 2, .iload_n 0, 0, .null), (2, 3, .iconst 1, 0, .int 1), (3, 4, .iushr, 0, .null), (4, 7, .ldc_w 265, 0, .int 1431655765), (7, 8, .iand, 0, .null), (8, 9, .isub, 0, .null), (9, 10, .istore_n 0, 0, .null), (10, 11, .iload_n 0, 0, .null), (11, 14, .ldc_w 266, 0, .int 858993459), (14, 15, .iand, 0, .null), (15, 16, .iload_n 0, 0, .null), (16, 17, .iconst 2, 0, .int 2), (17, 18, .iushr, 0, .null), (18, 21, .ldc_w 266, 0, .int 858993459), (21, 22, .iand, 0, .null), (22, 23, .iadd, 0, .null), (23, 24, .istore_n 0, 0, .null), (24, 25, .iload_n 0, 0, .null), (25, 26, .iload_n 0, 0, .null), (26, 27, .iconst 4, 0, .int 4), (27, 28, .iushr, 0, .null), (28, 29, .iadd, 0, .null), (29, 32, .ldc_w 267, 0, .int 252645135), (32, 33, .iand, 0, .null), (33, 34, .istore_n 0, 0, .null), (34, 35, .iload_n 0, 0, .null), (35, 36, .iload_n 0, 0, .null), (36, 38, .bipush 8, 0, .int 8), (38, 39, .iushr, 0, .null), (39, 40, .iadd, 0, .null), (40, 41, .istore_n 0, 0, .null), (41, 42, .iload_n 0, 0, .null), (42, 43, .iload_n 0, 0, .null), (43, 45, .bipush 16, 0, .int 16), (45, 46, .iushr, 0, .null), (46, 47, .iadd, 0, .null), (47, 48, .istore_n 0, 0, .null), (48, 49, .iload_n 0, 0, .null), (49, 51, .bipush 63, 0, .int 63), (51, 52, .iand, 0, .null), (52, 53, .ireturn, 0, .null)]
def ct1 : List Rw := [(0, 1, .iconst 0, 0, .int 0), (1, 2, .istore_n 3, 0, .null), (2, 3, .aload_n 0, 0, .null), (3, 4, .arraylength, 0, .null), (4, 6, .istore 4, 0, .null), (6, 7, .iload_n 3, 0, .null), (7, 9, .iload 4, 0, .null), (9, 12, .if_icmp .ge 13, 22, .null), (12, 13, .aload_n 0, 0, .null), (13, 14, .iload_n 3, 0, .null), (14, 15, .lload_n 1, 0, .null), (15, 16, .lastore, 0, .null), (16, 19, .iinc 3 1, 0, .null), (19, 22, .goto (-13), 6, .null), (22, 23, .return_, 0, .null)]
def ct2 : List Rw := [(0, 1, .iconst 0, 0, .int 0), (1, 2, .istore_n 2, 0, .null), (2, 3, .aload_n 0, 0, .null), (3, 4, .arraylength, 0, .null), (4, 5, .istore_n 3, 0, .null), (5, 6, .iload_n 2, 0, .null), (6, 7, .iload_n 3, 0, .null), (7, 10, .if_icmp .ge 13, 20, .null), (10, 11, .aload_n 0, 0, .null), (11, 12, .iload_n 2, 0, .null), (12, 13, .iload_n 1, 0, .null), (13, 14, .iastore, 0, .null), (14, 17, .iinc 2 1, 0, .null), (17, 20, .goto (-12), 5, .null), (20, 21, .return_, 0, .null)]
def ct3 : List Rw := [(0, 1, .iload_n 1, 0, .null), (1, 2, .aload_n 0, 0, .null), (2, 3, .arraylength, 0, .null), (3, 6, .if_icmp .ne 11, 14, .null), (6, 7, .aload_n 0, 0, .null), (7, 10, .invokevirtual 316, 0, .null), (10, 13, .checkcast 317, 0, .null), (13, 14, .areturn, 0, .null), (14, 15, .iload_n 1, 0, .null), (15, 17, .newarray .int, 0, .null), (17, 18, .astore_n 2, 0, .null), (18, 19, .aload_n 0, 0, .null), (19, 20, .iconst 0, 0, .int 0), (20, 21, .aload_n 2, 0, .null), (21, 22, .iconst 0, 0, .int 0), (22, 23, .aload_n 0, 0, .null), (23, 24, .arraylength, 0, .null), (24, 25, .iload_n 1, 0, .null), (25, 28, .invokestatic 304, 0, .null), (28, 31, .invokestatic 150, 0, .null), (31, 32, .aload_n 2, 0, .null), (32, 33, .areturn, 0, .null)]
def ct4 : List Rw := [(0, 1, .aload_n 0, 0, .null), (1, 4, .invokespecial 3, 0, .null), (4, 5, .aload_n 0, 0, .null), (5, 6, .aload_n 1, 0, .null), (6, 9, .getfield 9, 0, .null), (9, 12, .putfield 15, 0, .null), (12, 13, .aload_n 0, 0, .null), (13, 14, .aload_n 1, 0, .null), (14, 17, .getfield 18, 0, .null), (17, 20, .putfield 21, 0, .null), (20, 21, .aload_n 0, 0, .null), (21, 22, .aload_n 1, 0, .null), (22, 25, .getfield 22, 0, .null), (25, 28, .putfield 25, 0, .null), (28, 29, .aload_n 0, 0, .null), (29, 30, .aload_n 1, 0, .null), (30, 33, .getfield 26, 0, .null), (33, 34, .aload_n 1, 0, .null), (34, 37, .getfield 26, 0, .null), (37, 38, .arraylength, 0, .null), (38, 41, .invokestatic 30, 0, .null), (41, 44, .putfield 36, 0, .null), (44, 45, .aload_n 0, 0, .null), (45, 46, .aload_n 1, 0, .null), (46, 49, .getfield 37, 0, .null), (49, 50, .aload_n 1, 0, .null), (50, 53, .getfield 37, 0, .null), (53, 54, .arraylength, 0, .null), (54, 57, .invokestatic 30, 0, .null), (57, 60, .putfield 40, 0, .null), (60, 61, .return_, 0, .null)]
def ct5 : List Rw := [(0, 1, .aload_n 0, 0, .null), (1, 4, .getfield 36, 0, .null), (4, 5, .iload_n 1, 0, .null), (5, 6, .iconst 5, 0, .int 5), (6, 7, .imul, 0, .null), (7, 8, .iload_n 2, 0, .null), (8, 9, .iadd, 0, .null), (9, 10, .iaload, 0, .null), (10, 11, .ireturn, 0, .null)]
def ct6 : List Rw := [(0, 1, .aload_n 0, 0, .null), (1, 4, .getfield 36, 0, .null), (4, 5, .iload_n 1, 0, .null), (5, 6, .iconst 5, 0, .int 5), (6, 7, .imul, 0, .null), (7, 8, .iload_n 2, 0, .null), (8, 9, .iadd, 0, .null), (9, 10, .iload_n 3, 0, .null), (10, 11, .iastore, 0, .null), (11, 12, .return_, 0, .null)]
def ct7 : List Rw := [(0, 1, .aload_n 0, 0, .null), (1, 4, .getfield 15, 0, .null), (4, 5, .istore_n 1, 0, .null), (5, 6, .iconst 0, 0, .int 0), (6, 7, .istore_n 2, 0, .null), (7, 8, .iload_n 2, 0, .null), (8, 9, .aload_n 0, 0, .null), (9, 12, .getfield 21, 0, .null), (12, 15, .if_icmp .ge 20, 32, .null), (15, 16, .iload_n 1, 0, .null), (16, 17, .aload_n 0, 0, .null), (17, 18, .iload_n 2, 0, .null), (18, 19, .iconst 0, 0, .int 0), (19, 22, .invokevirtual 41, 0, .null), (22, 25, .invokestatic 45, 0, .null), (25, 26, .istore_n 1, 0, .null), (26, 29, .iinc 2 1, 0, .null), (29, 32, .goto (-22), 7, .null), (32, 33, .iload_n 1, 0, .null), (33, 34, .ireturn, 0, .null)]
def ct8 : List Rw := [(0, 1, .aload_n 0, 0, .null), (1, 2, .iload_n 1, 0, .null), (2, 3, .iload_n 2, 0, .null), (3, 4, .iload_n 3, 0, .null), (4, 7, .invokespecial 1, 0, .null), (7, 8, .return_, 0, .null)]
def ct9 : List Rw := [(0, 1, .iconst 2, 0, .int 2), (1, 2, .ireturn, 0, .null)]
def ct10 : List Rw := [(0, 1, .iload_n 1, 0, .null), (1, 2, .aload_n 0, 0, .null), (2, 5, .getfield 7, 0, .null), (5, 8, .if_icmp .ne 10, 15, .null), (8, 9, .aload_n 0, 0, .null), (9, 12, .getfield 13, 0, .null), (12, 15, .goto 9, 21, .null), (15, 16, .aload_n 0, 0, .null), (16, 19, .getfield 13, 0, .null), (19, 20, .iconst 1, 0, .int 1), (20, 21, .iadd, 0, .null), (21, 22, .ireturn, 0, .null)]
def ct11 : List Rw := [(0, 1, .aload_n 1, 0, .null), (1, 2, .iconst 3, 0, .int 3), (2, 5, .invokevirtual 16, 0, .null), (5, 6, .aload_n 0, 0, .null), (6, 7, .aload_n 1, 0, .null), (7, 10, .invokespecial 22, 0, .null), (10, 11, .aload_n 0, 0, .null), (11, 12, .aload_n 1, 0, .null), (12, 15, .invokevirtual 26, 0, .null), (15, 16, .iadd, 0, .null), (16, 17, .ireturn, 0, .null)]
def ct12 : List Rw := [(0, 1, .aload_n 1, 0, .null), (1, 2, .iconst 5, 0, .int 5), (2, 5, .invokevirtual 16, 0, .null), (5, 7, .bipush 60, 0, .int 60), (7, 8, .ireturn, 0, .null)]
def ct13 : List Rw := [(0, 1, .aload_n 0, 0, .null), (1, 2, .iload_n 1, 0, .null), (2, 3, .iload_n 2, 0, .null), (3, 4, .iload_n 3, 0, .null), (4, 7, .invokespecial 3, 0, .null), (7, 8, .return_, 0, .null)]
def ct14 : List Rw := [(0, 1, .iconst 1, 0, .int 1), (1, 2, .ireturn, 0, .null)]
def ct15 : List Rw := [(0, 1, .iload_n 1, 0, .null), (1, 2, .aload_n 0, 0, .null), (2, 5, .getfield 9, 0, .null), (5, 6, .iconst 1, 0, .int 1), (6, 7, .iadd, 0, .null), (7, 8, .iconst 3, 0, .int 3), (8, 9, .irem, 0, .null), (9, 12, .if_icmp .ne 12, 21, .null), (12, 13, .aload_n 0, 0, .null), (13, 16, .getfield 15, 0, .null), (16, 17, .iconst 2, 0, .int 2), (17, 18, .iadd, 0, .null), (18, 21, .goto 8, 26, .null), (21, 22, .aload_n 0, 0, .null), (22, 23, .iload_n 1, 0, .null), (23, 26, .invokespecial 18, 0, .null), (26, 27, .ireturn, 0, .null)]
def ct16 : List Rw := [(0, 1, .aload_n 1, 0, .null), (1, 2, .iconst 2, 0, .int 2), (2, 5, .invokevirtual 22, 0, .null), (5, 6, .aload_n 0, 0, .null), (6, 7, .aload_n 1, 0, .null), (7, 10, .invokespecial 28, 0, .null), (10, 12, .bipush 100, 0, .int 100), (12, 13, .iadd, 0, .null), (13, 14, .ireturn, 0, .null)]
def ct17 : List Rw := [(0, 1, .aload_n 0, 0, .null), (1, 4, .invokespecial 3, 0, .null), (4, 5, .aload_n 0, 0, .null), (5, 6, .aconst_null, 0, .null), (6, 9, .putfield 9, 0, .null), (9, 10, .aload_n 0, 0, .null), (10, 11, .iconst 0, 0, .int 0), (11, 14, .putfield 15, 0, .null), (14, 15, .aload_n 0, 0, .null), (15, 16, .iconst 0, 0, .int 0), (16, 19, .putfield 19, 0, .null), (19, 20, .aload_n 0, 0, .null), (20, 21, .iconst 0, 0, .int 0), (21, 24, .putfield 22, 0, .null), (24, 25, .aload_n 0, 0, .null), (25, 26, .iconst 0, 0, .int 0), (26, 29, .putfield 25, 0, .null), (29, 30, .aload_n 0, 0, .null), (30, 31, .iconst 0, 0, .int 0), (31, 34, .putfield 28, 0, .null), (34, 35, .aload_n 0, 0, .null), (35, 36, .iconst 3, 0, .int 3), (36, 38, .newarray .int, 0, .null), (38, 41, .putfield 31, 0, .null), (41, 42, .aload_n 0, 0, .null), (42, 43, .iconst 3, 0, .int 3), (43, 45, .newarray .int, 0, .null), (45, 48, .putfield 35, 0, .null), (48, 49, .aload_n 0, 0, .null), (49, 52, .sipush 216, 0, .int 216), (52, 54, .newarray .int, 0, .null), (54, 57, .putfield 38, 0, .null), (57, 58, .aload_n 0, 0, .null), (58, 61, .sipush 216, 0, .int 216), (61, 63, .newarray .long, 0, .null), (63, 66, .putfield 41, 0, .null), (66, 67, .aload_n 0, 0, .null), (67, 70, .sipush 216, 0, .int 216), (70, 72, .newarray .int, 0, .null), (72, 75, .putfield 45, 0, .null), (75, 76, .aload_n 0, 0, .null), (76, 79, .sipush 216, 0, .int 216), (79, 81, .newarray .long, 0, .null), (81, 84, .putfield 48, 0, .null), (84, 85, .aload_n 0, 0, .null), (85, 88, .sipush 216, 0, .int 216), (88, 90, .newarray .long, 0, .null), (90, 93, .putfield 51, 0, .null), (93, 94, .aload_n 0, 0, .null), (94, 95, .iconst 5, 0, .int 5), (95, 97, .newarray .long, 0, .null), (97, 100, .putfield 54, 0, .null), (100, 101, .return_, 0, .null)]
def ct18 : List Rw := [(0, 1, .aload_n 0, 0, .null), (1, 2, .aconst_null, 0, .null), (2, 5, .putfield 9, 0, .null), (5, 6, .return_, 0, .null)]
def ct19_0 : List Rw := [(0, 1, .aload_n 0, 0, .null), (1, 4, .getfield 9, 0, .null), (4, 5, .aload_n 1, 0, .null), (5, 8, .if_acmp .ne 38, 43, .null), (8, 9, .aload_n 0, 0, .null), (9, 12, .getfield 15, 0, .null), (12, 13, .iload_n 2, 0, .null), (13, 16, .if_icmp .ne 30, 43, .null), (16, 17, .aload_n 0, 0, .null), (17, 20, .getfield 19, 0, .null), (20, 21, .iload_n 3, 0, .null), (21, 24, .if_icmp .ne 22, 43, .null), (24, 25, .aload_n 0, 0, .null), (25, 28, .getfield 22, 0, .null), (28, 30, .iload 4, 0, .null), (30, 33, .if_icmp .ne 13, 43, .null), (33, 34, .aload_n 0, 0, .null), (34, 37, .getfield 25, 0, .null), (37, 39, .iload 5, 0, .null), (39, 42, .if_icmp .lt 4, 43, .null), (42, 43, .return_, 0, .null), (43, 44, .aload_n 0, 0, .null), (44, 45, .aload_n 1, 0, .null), (45, 48, .putfield 9, 0, .null), (48, 49, .aload_n 0, 0, .null), (49, 50, .iload_n 2, 0, .null), (50, 53, .putfield 15, 0, .null), (53, 54, .aload_n 0, 0, .null), (54, 55, .iload_n 3, 0, .null), (55, 58, .putfield 19, 0, .null), (58, 59, .aload_n 0, 0, .null), (59, 61, .iload 4, 0, .null), (61, 64, .putfield 22, 0, .null), (64, 65, .aload_n 0, 0, .null), (65, 67, .iload 5, 0, .null), (67, 70, .putfield 25, 0, .null), (70, 71, .aload_n 0, 0, .null), (71, 74, .invokevirtual 57, 0, .null), (74, 75, .aload_n 0, 0, .null), (75, 78, .getfield 15, 0, .null), (78, 79, .iconst 3, 0, .int 3), (79, 82, .if_icmp .ne 15, 94, .null), (82, 83, .aload_n 0, 0, .null), (83, 86, .getfield 9, 0, .null), (86, 89, .getfield 60, 0, .null), (89, 90, .iconst 1, 0, .int 1), (90, 91, .isub, 0, .null), (91, 94, .goto 10, 101, .null), (94, 95, .aload_n 0, 0, .null), (95, 98, .getfield 9, 0, .null), (98, 101, .getfield 60, 0, .null), (101, 103, .istore 6, 0, .null), (103, 104, .iconst 0, 0, .int 0), (104, 106, .istore 7, 0, .null), (106, 108, .iload 7, 0, .null), (108, 109, .aload_n 0, 0, .null), (109, 112, .getfield 28, 0, .null), (112, 115, .if_icmp .ge 35, 147, .null), (115, 116, .aload_n 0, 0, .null), (116, 119, .getfield 38, 0, .null)]
def ct19_1 : List Rw := [(119, 121, .iload 7, 0, .null), (121, 123, .iload 6, 0, .null), (123, 124, .aload_n 0, 0, .null), (124, 126, .iload 7, 0, .null), (126, 129, .invokevirtual 65, 0, .null), (129, 132, .invokestatic 69, 0, .null), (132, 133, .iastore, 0, .null), (133, 134, .aload_n 0, 0, .null), (134, 137, .getfield 41, 0, .null), (137, 139, .iload 7, 0, .null), (139, 140, .lconst 0, 0, .long 0), (140, 141, .lastore, 0, .null), (141, 144, .iinc 7 1, 0, .null), (144, 147, .goto (-38), 106, .null), (147, 148, .aload_n 0, 0, .null), (148, 151, .getfield 19, 0, .null), (151, 153, .istore 7, 0, .null), (153, 155, .iload 7, 0, .null), (155, 156, .iconst 1, 0, .int 1), (156, 159, .if_icmp .lt 17, 173, .null), (159, 160, .aload_n 0, 0, .null), (160, 162, .iload 7, 0, .null), (162, 164, .iload 6, 0, .null), (164, 167, .invokevirtual 75, 0, .null), (167, 170, .iinc 7 (-1), 0, .null), (170, 173, .goto (-17), 153, .null), (173, 174, .return_, 0, .null)]
def ct19 : List Rw := ct19_0 ++ ct19_1
def ct20 : List Rw := [(0, 1, .aload_n 0, 0, .null), (1, 4, .getfield 41, 0, .null), (4, 5, .aload_n 0, 0, .null), (5, 8, .invokevirtual 79, 0, .null), (8, 9, .laload, 0, .null), (9, 10, .lreturn, 0, .null)]
def ct21 : List Rw := [(0, 1, .aload_n 0, 0, .null), (1, 4, .getfield 45, 0, .null), (4, 5, .aload_n 0, 0, .null), (5, 8, .invokevirtual 79, 0, .null), (8, 9, .iaload, 0, .null), (9, 10, .ireturn, 0, .null)]
def ct22 : List Rw := [(0, 1, .aload_n 0, 0, .null), (1, 4, .invokevirtual 79, 0, .null), (4, 5, .istore_n 3, 0, .null), (5, 6, .iload_n 3, 0, .null), (6, 7, .iload_n 1, 0, .null), (7, 9, .bipush (-9), 0, .int (-9)), (9, 12, .if_icmp .ne 7, 16, .null), (12, 13, .iconst 0, 0, .int 0), (13, 16, .goto 9, 22, .null), (16, 17, .aload_n 0, 0, .null), (17, 20, .getfield 35, 0, .null), (20, 21, .iload_n 1, 0, .null), (21, 22, .iaload, 0, .null), (22, 23, .iadd, 0, .null), (23, 24, .iload_n 2, 0, .null), (24, 26, .bipush (-9), 0, .int (-9)), (26, 29, .if_icmp .ne 7, 33, .null), (29, 30, .iconst 0, 0, .int 0), (30, 33, .goto 9, 39, .null), (33, 34, .aload_n 0, 0, .null), (34, 37, .getfield 35, 0, .null), (37, 38, .iload_n 2, 0, .null), (38, 39, .iaload, 0, .null), (39, 40, .isub, 0, .null), (40, 42, .istore 4, 0, .null), (42, 43, .aload_n 0, 0, .null), (43, 46, .getfield 41, 0, .null), (46, 48, .iload 4, 0, .null), (48, 49, .laload, 0, .null), (49, 50, .aload_n 0, 0, .null), (50, 53, .getfield 41, 0, .null), (53, 54, .iload_n 3, 0, .null), (54, 55, .laload, 0, .null), (55, 56, .lsub, 0, .null), (56, 57, .lreturn, 0, .null)]
def ct23_0 : List Rw := [(0, 1, .aload_n 0, 0, .null), (1, 2, .iconst 1, 0, .int 1), (2, 5, .putfield 28, 0, .null), (5, 6, .aload_n 0, 0, .null), (6, 9, .getfield 9, 0, .null), (9, 12, .getfield 83, 0, .null), (12, 13, .iconst 1, 0, .int 1), (13, 14, .isub, 0, .null), (14, 15, .istore_n 1, 0, .null), (15, 16, .iload_n 1, 0, .null), (16, 19, .ifCond .lt 96, 112, .null), (19, 20, .aload_n 0, 0, .null), (20, 23, .getfield 9, 0, .null), (23, 26, .getfield 86, 0, .null), (26, 29, .ifCond .le 19, 45, .null), (29, 30, .aload_n 0, 0, .null), (30, 33, .getfield 9, 0, .null), (33, 34, .iload_n 1, 0, .null), (34, 35, .iconst 4, 0, .int 4), (35, 38, .invokevirtual 89, 0, .null), (38, 41, .ifCond .le 7, 45, .null), (41, 42, .iconst 1, 0, .int 1), (42, 45, .goto 4, 46, .null), (45, 46, .iconst 0, 0, .int 0), (46, 47, .istore_n 2, 0, .null), (47, 48, .aload_n 0, 0, .null), (48, 51, .getfield 31, 0, .null), (51, 52, .iload_n 1, 0, .null), (52, 53, .iconst 1, 0, .int 1), (53, 54, .iload_n 2, 0, .null), (54, 57, .ifCond .eq 7, 61, .null), (57, 58, .iconst 5, 0, .int 5), (58, 61, .goto 21, 79, .null), (61, 62, .iconst 5, 0, .int 5), (62, 63, .aload_n 0, 0, .null), (63, 66, .getfield 9, 0, .null), (66, 67, .iload_n 1, 0, .null), (67, 68, .iconst 0, 0, .int 0), (68, 71, .invokevirtual 89, 0, .null), (71, 72, .aload_n 0, 0, .null), (72, 75, .getfield 25, 0, .null), (75, 76, .iadd, 0, .null), (76, 79, .invokestatic 69, 0, .null), (79, 80, .iadd, 0, .null), (80, 81, .iastore, 0, .null), (81, 82, .aload_n 0, 0, .null), (82, 85, .getfield 35, 0, .null), (85, 86, .iload_n 1, 0, .null), (86, 87, .aload_n 0, 0, .null), (87, 90, .getfield 28, 0, .null), (90, 91, .iastore, 0, .null), (91, 92, .aload_n 0, 0, .null), (92, 93, .dup, 0, .null), (93, 96, .getfield 28, 0, .null), (96, 97, .aload_n 0, 0, .null), (97, 100, .getfield 31, 0, .null), (100, 101, .iload_n 1, 0, .null), (101, 102, .iaload, 0, .null), (102, 103, .imul, 0, .null), (103, 106, .putfield 28, 0, .null)]
def ct23_1 : List Rw := [(106, 109, .iinc 1 (-1), 0, .null), (109, 112, .goto (-94), 15, .null), (112, 113, .return_, 0, .null)]
def ct23 : List Rw := ct23_0 ++ ct23_1
def ct24 : List Rw := [(0, 1, .iload_n 1, 0, .null), (1, 2, .aload_n 0, 0, .null), (2, 5, .getfield 35, 0, .null), (5, 6, .iload_n 2, 0, .null), (6, 7, .iaload, 0, .null), (7, 8, .idiv, 0, .null), (8, 9, .aload_n 0, 0, .null), (9, 12, .getfield 31, 0, .null), (12, 13, .iload_n 2, 0, .null), (13, 14, .iaload, 0, .null), (14, 15, .irem, 0, .null), (15, 16, .ireturn, 0, .null)]
def ct25 : List Rw := [(0, 1, .iconst 0, 0, .int 0), (1, 2, .istore_n 1, 0, .null), (2, 3, .iconst 0, 0, .int 0), (3, 4, .istore_n 2, 0, .null), (4, 5, .iload_n 2, 0, .null), (5, 6, .aload_n 0, 0, .null), (6, 9, .getfield 9, 0, .null), (9, 12, .getfield 83, 0, .null), (12, 15, .if_icmp .ge 28, 40, .null), (15, 16, .iload_n 1, 0, .null), (16, 17, .aload_n 0, 0, .null), (17, 20, .getfield 9, 0, .null), (20, 21, .iload_n 2, 0, .null), (21, 22, .iconst 0, 0, .int 0), (22, 25, .invokevirtual 89, 0, .null), (25, 26, .aload_n 0, 0, .null), (26, 29, .getfield 35, 0, .null), (29, 30, .iload_n 2, 0, .null), (30, 31, .iaload, 0, .null), (31, 32, .imul, 0, .null), (32, 33, .iadd, 0, .null), (33, 34, .istore_n 1, 0, .null), (34, 37, .iinc 2 1, 0, .null), (37, 40, .goto (-33), 4, .null), (40, 41, .iload_n 1, 0, .null), (41, 42, .ireturn, 0, .null)]
def ct26 : List Rw := [(0, 1, .iconst 5, 0, .int 5), (1, 2, .istore_n 2, 0, .null), (2, 3, .iconst 0, 0, .int 0), (3, 4, .istore_n 3, 0, .null), (4, 5, .iload_n 3, 0, .null), (5, 6, .aload_n 0, 0, .null), (6, 9, .getfield 9, 0, .null), (9, 12, .getfield 83, 0, .null), (12, 15, .if_icmp .ge 20, 32, .null), (15, 16, .iload_n 2, 0, .null), (16, 17, .aload_n 0, 0, .null), (17, 18, .iload_n 1, 0, .null), (18, 19, .iload_n 3, 0, .null), (19, 22, .invokevirtual 92, 0, .null), (22, 25, .invokestatic 69, 0, .null), (25, 26, .istore_n 2, 0, .null), (26, 29, .iinc 3 1, 0, .null), (29, 32, .goto (-25), 4, .null), (32, 33, .iload_n 2, 0, .null), (33, 34, .ireturn, 0, .null)]
def ct27 : List Rw := [(0, 1, .iconst 0, 0, .int 0), (1, 2, .istore_n 2, 0, .null), (2, 3, .iconst 0, 0, .int 0), (3, 4, .istore_n 3, 0, .null), (4, 5, .iload_n 3, 0, .null), (5, 6, .aload_n 0, 0, .null), (6, 9, .getfield 9, 0, .null), (9, 12, .getfield 83, 0, .null), (12, 15, .if_icmp .ge 39, 51, .null), (15, 16, .iload_n 2, 0, .null), (16, 17, .iconst 5, 0, .int 5), (17, 18, .aload_n 0, 0, .null), (18, 19, .iload_n 1, 0, .null), (19, 20, .iload_n 3, 0, .null), (20, 23, .invokevirtual 92, 0, .null), (23, 24, .aload_n 0, 0, .null), (24, 27, .getfield 9, 0, .null), (27, 28, .iload_n 3, 0, .null), (28, 29, .iconst 4, 0, .int 4), (29, 32, .invokevirtual 89, 0, .null), (32, 33, .iadd, 0, .null), (33, 36, .invokestatic 69, 0, .null), (36, 37, .aload_n 0, 0, .null), (37, 40, .getfield 35, 0, .null), (40, 41, .iload_n 3, 0, .null), (41, 42, .iaload, 0, .null), (42, 43, .imul, 0, .null), (43, 44, .iadd, 0, .null), (44, 45, .istore_n 2, 0, .null), (45, 48, .iinc 3 1, 0, .null), (48, 51, .goto (-44), 4, .null), (51, 52, .iload_n 2, 0, .null), (52, 53, .ireturn, 0, .null)]
def ct28_0 : List Rw := [(0, 1, .aload_n 0, 0, .null), (1, 4, .getfield 9, 0, .null), (4, 7, .getfield 86, 0, .null), (7, 10, .ifCond .le 19, 26, .null), (10, 11, .iload_n 1, 0, .null), (11, 12, .aload_n 0, 0, .null), (12, 15, .getfield 9, 0, .null), (15, 18, .getfield 86, 0, .null), (18, 19, .irem, 0, .null), (19, 22, .ifCond .ne 7, 26, .null), (22, 23, .iconst 1, 0, .int 1), (23, 26, .goto 4, 27, .null), (26, 27, .iconst 0, 0, .int 0), (27, 28, .istore_n 3, 0, .null), (28, 29, .iconst 0, 0, .int 0), (29, 31, .istore 4, 0, .null), (31, 33, .iload 4, 0, .null), (33, 34, .aload_n 0, 0, .null), (34, 37, .getfield 28, 0, .null), (37, 40, .if_icmp .ge 36, 73, .null), (40, 41, .aload_n 0, 0, .null), (41, 44, .getfield 48, 0, .null), (44, 46, .iload 4, 0, .null), (46, 47, .aload_n 0, 0, .null), (47, 50, .getfield 41, 0, .null), (50, 51, .iload_n 3, 0, .null), (51, 54, .ifCond .eq 12, 63, .null), (54, 55, .aload_n 0, 0, .null), (55, 57, .iload 4, 0, .null), (57, 60, .invokevirtual 95, 0, .null), (60, 63, .goto 5, 65, .null), (63, 65, .iload 4, 0, .null), (65, 66, .laload, 0, .null), (66, 67, .lastore, 0, .null), (67, 70, .iinc 4 1, 0, .null), (70, 73, .goto (-39), 31, .null), (73, 74, .aload_n 0, 0, .null), (74, 77, .getfield 41, 0, .null), (77, 80, .ldc2_w 98, 0, .long (-1)), (80, 83, .invokestatic 100, 0, .null), (83, 84, .iload_n 2, 0, .null), (84, 86, .istore 4, 0, .null), (86, 88, .iload 4, 0, .null), (88, 91, .ifCond .lt 43, 131, .null), (91, 92, .iconst 0, 0, .int 0), (92, 94, .istore 5, 0, .null), (94, 96, .iload 5, 0, .null), (96, 97, .iconst 1, 0, .int 1), (97, 100, .if_icmp .gt 28, 125, .null), (100, 101, .aload_n 0, 0, .null), (101, 103, .iload 4, 0, .null), (103, 105, .iload 5, 0, .null), (105, 108, .invokevirtual 106, 0, .null), (108, 111, .ifCond .eq 11, 119, .null), (111, 112, .aload_n 0, 0, .null), (112, 114, .iload 4, 0, .null), (114, 116, .iload 5, 0, .null), (116, 119, .invokevirtual 110, 0, .null), (119, 122, .iinc 5 1, 0, .null), (122, 125, .goto (-28), 94, .null)]
def ct28_1 : List Rw := [(125, 128, .iinc 4 (-1), 0, .null), (128, 131, .goto (-42), 86, .null), (131, 132, .return_, 0, .null)]
def ct28 : List Rw := ct28_0 ++ ct28_1
def ct29 : List Rw := [(0, 1, .iload_n 1, 0, .null), (1, 4, .ifCond .ne 13, 14, .null), (4, 5, .iload_n 2, 0, .null), (5, 8, .ifCond .ne 7, 12, .null), (8, 9, .iconst 1, 0, .int 1), (9, 12, .goto 4, 13, .null), (12, 13, .iconst 0, 0, .int 0), (13, 14, .ireturn, 0, .null), (14, 15, .aload_n 0, 0, .null), (15, 18, .getfield 15, 0, .null), (18, 21, .ifCond .eq 29, 47, .null), (21, 22, .aload_n 0, 0, .null), (22, 25, .getfield 15, 0, .null), (25, 26, .iconst 2, 0, .int 2), (26, 29, .if_icmp .ne 7, 33, .null), (29, 30, .iconst 1, 0, .int 1), (30, 33, .goto 4, 34, .null), (33, 34, .iconst 0, 0, .int 0), (34, 35, .iload_n 2, 0, .null), (35, 36, .iconst 1, 0, .int 1), (36, 39, .if_icmp .ne 7, 43, .null), (39, 40, .iconst 1, 0, .int 1), (40, 43, .goto 4, 44, .null), (43, 44, .iconst 0, 0, .int 0), (44, 47, .if_icmp .ne 7, 51, .null), (47, 48, .iconst 1, 0, .int 1), (48, 51, .goto 4, 52, .null), (51, 52, .iconst 0, 0, .int 0), (52, 53, .ireturn, 0, .null)]
def ct30_0 : List Rw := [(0, 1, .aload_n 0, 0, .null), (1, 4, .getfield 48, 0, .null), (4, 5, .iconst 0, 0, .int 0), (5, 6, .aload_n 0, 0, .null), (6, 9, .getfield 51, 0, .null), (9, 10, .iconst 0, 0, .int 0), (10, 11, .aload_n 0, 0, .null), (11, 14, .getfield 28, 0, .null), (14, 17, .invokestatic 113, 0, .null), (17, 18, .aload_n 0, 0, .null), (18, 21, .getfield 9, 0, .null), (21, 24, .getfield 83, 0, .null), (24, 25, .iconst 1, 0, .int 1), (25, 26, .isub, 0, .null), (26, 27, .istore_n 3, 0, .null), (27, 28, .iload_n 3, 0, .null), (28, 31, .ifCond .lt 33, 61, .null), (31, 32, .aload_n 0, 0, .null), (32, 33, .iload_n 1, 0, .null), (33, 34, .iload_n 3, 0, .null), (34, 35, .aload_n 0, 0, .null), (35, 38, .getfield 9, 0, .null), (38, 39, .iload_n 3, 0, .null), (39, 40, .iload_n 2, 0, .null), (40, 41, .iconst 1, 0, .int 1), (41, 44, .if_icmp .ne 7, 48, .null), (44, 45, .iconst 2, 0, .int 2), (45, 48, .goto 4, 49, .null), (48, 49, .iconst 1, 0, .int 1), (49, 52, .invokevirtual 89, 0, .null), (52, 55, .invokevirtual 119, 0, .null), (55, 58, .iinc 3 (-1), 0, .null), (58, 61, .goto (-31), 27, .null), (61, 62, .iconst 3, 0, .int 3), (62, 63, .iload_n 2, 0, .null), (63, 64, .isub, 0, .null), (64, 65, .i2l, 0, .null), (65, 68, .ldc2_w 123, 0, .long 1000000), (68, 69, .lmul, 0, .null), (69, 70, .aload_n 0, 0, .null), (70, 73, .getfield 9, 0, .null), (73, 76, .getfield 125, 0, .null), (76, 77, .iload_n 1, 0, .null), (77, 78, .iaload, 0, .null), (78, 79, .i2l, 0, .null), (79, 80, .lmul, 0, .null), (80, 81, .lstore_n 3, 0, .null), (81, 82, .iconst 0, 0, .int 0), (82, 84, .istore 5, 0, .null), (84, 86, .iload 5, 0, .null), (86, 87, .aload_n 0, 0, .null), (87, 90, .getfield 28, 0, .null), (90, 93, .if_icmp .ge 106, 196, .null), (93, 94, .aload_n 0, 0, .null), (94, 97, .getfield 15, 0, .null), (97, 100, .ifCond .ne 22, 119, .null), (100, 101, .aload_n 0, 0, .null), (101, 104, .getfield 38, 0, .null), (104, 106, .iload 5, 0, .null), (106, 107, .iaload, 0, .null)]
def ct30_1 : List Rw := [(107, 108, .iload_n 1, 0, .null), (108, 111, .if_icmp .lt 7, 115, .null), (111, 112, .iconst 1, 0, .int 1), (112, 115, .goto 23, 135, .null), (115, 116, .iconst 0, 0, .int 0), (116, 119, .goto 19, 135, .null), (119, 120, .aload_n 0, 0, .null), (120, 123, .getfield 38, 0, .null), (123, 125, .iload 5, 0, .null), (125, 126, .iaload, 0, .null), (126, 127, .iload_n 1, 0, .null), (127, 130, .if_icmp .ne 7, 134, .null), (130, 131, .iconst 1, 0, .int 1), (131, 134, .goto 4, 135, .null), (134, 135, .iconst 0, 0, .int 0), (135, 137, .istore 6, 0, .null), (137, 139, .iload 6, 0, .null), (139, 142, .ifCond .eq 51, 190, .null), (142, 143, .lload_n 3, 0, .null), (143, 144, .aload_n 0, 0, .null), (144, 147, .getfield 51, 0, .null), (147, 149, .iload 5, 0, .null), (149, 150, .laload, 0, .null), (150, 151, .ladd, 0, .null), (151, 152, .aload_n 0, 0, .null), (152, 155, .getfield 41, 0, .null), (155, 157, .iload 5, 0, .null), (157, 158, .laload, 0, .null), (158, 159, .lcmp, 0, .null), (159, 162, .ifCond .le 31, 190, .null), (162, 163, .aload_n 0, 0, .null), (163, 166, .getfield 41, 0, .null), (166, 168, .iload 5, 0, .null), (168, 169, .lload_n 3, 0, .null), (169, 170, .aload_n 0, 0, .null), (170, 173, .getfield 51, 0, .null), (173, 175, .iload 5, 0, .null), (175, 176, .laload, 0, .null), (176, 177, .ladd, 0, .null), (177, 178, .lastore, 0, .null), (178, 179, .aload_n 0, 0, .null), (179, 182, .getfield 45, 0, .null), (182, 184, .iload 5, 0, .null), (184, 185, .iconst 2, 0, .int 2), (185, 186, .iload_n 1, 0, .null), (186, 187, .imul, 0, .null), (187, 188, .iload_n 2, 0, .null), (188, 189, .iadd, 0, .null), (189, 190, .iastore, 0, .null), (190, 193, .iinc 5 1, 0, .null), (193, 196, .goto (-109), 84, .null), (196, 197, .return_, 0, .null)]
def ct30 : List Rw := ct30_0 ++ ct30_1
def ct31 : List Rw := [(0, 1, .iload_n 1, 0, .null), (1, 4, .ifCond .eq 7, 8, .null), (4, 5, .iload_n 3, 0, .null), (5, 8, .ifCond .ne 4, 9, .null), (8, 9, .return_, 0, .null), (9, 10, .aload_n 0, 0, .null), (10, 11, .iload_n 1, 0, .null), (11, 12, .iload_n 3, 0, .null), (12, 15, .invokevirtual 128, 0, .null), (15, 16, .aload_n 0, 0, .null), (16, 19, .getfield 35, 0, .null), (19, 20, .iload_n 2, 0, .null), (20, 21, .iaload, 0, .null), (21, 23, .istore 4, 0, .null), (23, 25, .iload 4, 0, .null), (25, 26, .aload_n 0, 0, .null), (26, 29, .getfield 31, 0, .null), (29, 30, .iload_n 2, 0, .null), (30, 31, .iaload, 0, .null), (31, 32, .imul, 0, .null), (32, 34, .istore 5, 0, .null), (34, 35, .iconst 0, 0, .int 0), (35, 37, .istore 6, 0, .null), (37, 39, .iload 6, 0, .null), (39, 40, .aload_n 0, 0, .null), (40, 43, .getfield 28, 0, .null), (43, 46, .if_icmp .ge 56, 99, .null), (46, 48, .iload 6, 0, .null), (48, 50, .iload 5, 0, .null), (50, 51, .iadd, 0, .null), (51, 52, .iconst 1, 0, .int 1), (52, 53, .isub, 0, .null), (53, 55, .istore 7, 0, .null), (55, 57, .iload 7, 0, .null), (57, 59, .iload 6, 0, .null), (59, 60, .iload_n 1, 0, .null), (60, 62, .iload 4, 0, .null), (62, 63, .imul, 0, .null), (63, 64, .iadd, 0, .null), (64, 67, .if_icmp .lt 25, 89, .null), (67, 68, .aload_n 0, 0, .null), (68, 71, .getfield 51, 0, .null), (71, 73, .iload 7, 0, .null), (73, 74, .aload_n 0, 0, .null), (74, 76, .iload 7, 0, .null), (76, 78, .iload 4, 0, .null), (78, 79, .iload_n 1, 0, .null), (79, 82, .invokevirtual 131, 0, .null), (82, 83, .lastore, 0, .null), (83, 86, .iinc 7 (-1), 0, .null), (86, 89, .goto (-31), 55, .null), (89, 91, .iload 6, 0, .null), (91, 93, .iload 5, 0, .null), (93, 94, .iadd, 0, .null), (94, 96, .istore 6, 0, .null), (96, 99, .goto (-59), 37, .null), (99, 100, .return_, 0, .null)]
def ct32 : List Rw := [(0, 1, .lconst 0, 0, .long 0), (1, 3, .lstore 4, 0, .null), (3, 4, .iload_n 1, 0, .null), (4, 6, .istore 6, 0, .null), (6, 7, .iconst 0, 0, .int 0), (7, 9, .istore 7, 0, .null), (9, 11, .iload 7, 0, .null), (11, 12, .iload_n 3, 0, .null), (12, 15, .if_icmp .gt 35, 47, .null), (15, 17, .lload 4, 0, .null), (17, 18, .aload_n 0, 0, .null), (18, 21, .getfield 54, 0, .null), (21, 23, .iload 7, 0, .null), (23, 24, .laload, 0, .null), (24, 25, .aload_n 0, 0, .null), (25, 28, .getfield 51, 0, .null), (28, 30, .iload 6, 0, .null), (30, 31, .laload, 0, .null), (31, 32, .lmul, 0, .null), (32, 33, .ladd, 0, .null), (33, 35, .lstore 4, 0, .null), (35, 37, .iload 6, 0, .null), (37, 38, .iload_n 2, 0, .null), (38, 39, .isub, 0, .null), (39, 41, .istore 6, 0, .null), (41, 44, .iinc 7 1, 0, .null), (44, 47, .goto (-35), 9, .null), (47, 50, .getstatic 135, 0, .null), (50, 51, .iload_n 3, 0, .null), (51, 52, .laload, 0, .null), (52, 54, .lstore 7, 0, .null), (54, 55, .aload_n 0, 0, .null), (55, 58, .getfield 22, 0, .null), (58, 59, .iconst 1, 0, .int 1), (59, 62, .if_icmp .ne 13, 72, .null), (62, 64, .lload 4, 0, .null), (64, 66, .lload 7, 0, .null), (66, 67, .ladd, 0, .null), (67, 68, .lconst 1, 0, .long 1), (68, 69, .lsub, 0, .null), (69, 72, .goto 5, 74, .null), (72, 74, .lload 4, 0, .null), (74, 76, .lload 7, 0, .null), (76, 77, .ldiv, 0, .null), (77, 78, .lreturn, 0, .null)]
def ct33 : List Rw := [(0, 1, .aload_n 0, 0, .null), (1, 4, .getfield 54, 0, .null), (4, 5, .lconst 0, 0, .long 0), (5, 8, .invokestatic 100, 0, .null), (8, 9, .aload_n 0, 0, .null), (9, 12, .getfield 54, 0, .null), (12, 13, .iconst 0, 0, .int 0), (13, 14, .lconst 1, 0, .long 1), (14, 15, .lastore, 0, .null), (15, 16, .iconst 1, 0, .int 1), (16, 17, .istore_n 3, 0, .null), (17, 18, .iload_n 3, 0, .null), (18, 19, .iload_n 1, 0, .null), (19, 22, .if_icmp .gt 71, 90, .null), (22, 23, .iload_n 3, 0, .null), (23, 25, .istore 4, 0, .null), (25, 27, .iload 4, 0, .null), (27, 28, .iconst 1, 0, .int 1), (28, 31, .if_icmp .lt 42, 70, .null), (31, 32, .aload_n 0, 0, .null), (32, 35, .getfield 54, 0, .null), (35, 37, .iload 4, 0, .null), (37, 38, .aload_n 0, 0, .null), (38, 41, .getfield 54, 0, .null), (41, 43, .iload 4, 0, .null), (43, 44, .laload, 0, .null), (44, 46, .bipush 12, 0, .int 12), (46, 47, .iload_n 2, 0, .null), (47, 48, .isub, 0, .null), (48, 49, .i2l, 0, .null), (49, 50, .lmul, 0, .null), (50, 51, .aload_n 0, 0, .null), (51, 54, .getfield 54, 0, .null), (54, 56, .iload 4, 0, .null), (56, 57, .iconst 1, 0, .int 1), (57, 58, .isub, 0, .null), (58, 59, .laload, 0, .null), (59, 60, .iload_n 2, 0, .null), (60, 61, .i2l, 0, .null), (61, 62, .lmul, 0, .null), (62, 63, .ladd, 0, .null), (63, 64, .lastore, 0, .null), (64, 67, .iinc 4 (-1), 0, .null), (67, 70, .goto (-42), 25, .null), (70, 71, .aload_n 0, 0, .null), (71, 74, .getfield 54, 0, .null), (74, 75, .iconst 0, 0, .int 0), (75, 76, .dup2, 0, .null), (76, 77, .laload, 0, .null), (77, 79, .bipush 12, 0, .int 12), (79, 80, .iload_n 2, 0, .null), (80, 81, .isub, 0, .null), (81, 82, .i2l, 0, .null), (82, 83, .lmul, 0, .null), (83, 84, .lastore, 0, .null), (84, 87, .iinc 3 1, 0, .null), (87, 90, .goto (-70), 17, .null), (90, 91, .return_, 0, .null)]
def ct34_0 : List Rw := [(0, 1, .aload_n 0, 0, .null), (1, 4, .invokevirtual 138, 0, .null), (4, 5, .aload_n 0, 0, .null), (5, 6, .iload_n 3, 0, .null), (6, 9, .putfield 22, 0, .null), (9, 10, .aload_n 1, 0, .null), (10, 13, .invokevirtual 141, 0, .null), (13, 15, .istore 4, 0, .null), (15, 16, .aload_n 0, 0, .null), (16, 19, .getfield 51, 0, .null), (19, 20, .lconst 0, 0, .long 0), (20, 23, .invokestatic 100, 0, .null), (23, 24, .iload_n 2, 0, .null), (24, 26, .istore 5, 0, .null), (26, 28, .iload 5, 0, .null), (28, 29, .iconst 1, 0, .int 1), (29, 32, .if_icmp .lt 111, 140, .null), (32, 33, .aload_n 1, 0, .null), (33, 36, .getfield 83, 0, .null), (36, 37, .iconst 1, 0, .int 1), (37, 38, .isub, 0, .null), (38, 40, .istore 6, 0, .null), (40, 42, .iload 6, 0, .null), (42, 45, .ifCond .lt 54, 96, .null), (45, 47, .iload 4, 0, .null), (47, 49, .istore 7, 0, .null), (49, 51, .iload 7, 0, .null), (51, 52, .iconst 1, 0, .int 1), (52, 55, .if_icmp .lt 38, 90, .null), (55, 56, .aload_n 0, 0, .null), (56, 58, .iload 7, 0, .null), (58, 59, .aload_n 1, 0, .null), (59, 61, .iload 6, 0, .null), (61, 62, .iconst 1, 0, .int 1), (62, 65, .invokevirtual 89, 0, .null), (65, 68, .invokevirtual 128, 0, .null), (68, 69, .aload_n 0, 0, .null), (69, 72, .getfield 51, 0, .null), (72, 74, .iload 7, 0, .null), (74, 75, .aload_n 0, 0, .null), (75, 77, .iload 7, 0, .null), (77, 78, .iconst 1, 0, .int 1), (78, 80, .iload 7, 0, .null), (80, 83, .invokevirtual 131, 0, .null), (83, 84, .lastore, 0, .null), (84, 87, .iinc 7 (-1), 0, .null), (87, 90, .goto (-38), 49, .null), (90, 93, .iinc 6 (-1), 0, .null), (93, 96, .goto (-53), 40, .null), (96, 97, .iconst 1, 0, .int 1), (97, 99, .istore 6, 0, .null), (99, 101, .iload 6, 0, .null), (101, 103, .iload 4, 0, .null), (103, 106, .if_icmp .gt 31, 134, .null), (106, 107, .aload_n 0, 0, .null), (107, 110, .getfield 51, 0, .null), (110, 112, .iload 6, 0, .null), (112, 113, .dup2, 0, .null), (113, 114, .laload, 0, .null), (114, 117, .ldc2_w 144, 0, .long 3000000)]
def ct34_1 : List Rw := [(117, 118, .aload_n 1, 0, .null), (118, 121, .getfield 125, 0, .null), (121, 123, .iload 6, 0, .null), (123, 124, .iaload, 0, .null), (124, 125, .i2l, 0, .null), (125, 126, .lmul, 0, .null), (126, 127, .ladd, 0, .null), (127, 128, .lastore, 0, .null), (128, 131, .iinc 6 1, 0, .null), (131, 134, .goto (-32), 99, .null), (134, 137, .iinc 5 (-1), 0, .null), (137, 140, .goto (-111), 26, .null), (140, 141, .aload_n 0, 0, .null), (141, 144, .getfield 51, 0, .null), (144, 146, .iload 4, 0, .null), (146, 147, .laload, 0, .null), (147, 148, .lreturn, 0, .null)]
def ct34 : List Rw := ct34_0 ++ ct34_1
def ct35 : List Rw := [(0, 1, .aload_n 0, 0, .null), (1, 2, .iload_n 1, 0, .null), (2, 3, .iload_n 2, 0, .null), (3, 6, .invokevirtual 92, 0, .null), (6, 7, .aload_n 0, 0, .null), (7, 10, .getfield 9, 0, .null), (10, 11, .iload_n 2, 0, .null), (11, 12, .iconst 0, 0, .int 0), (12, 15, .invokevirtual 89, 0, .null), (15, 16, .isub, 0, .null), (16, 17, .ireturn, 0, .null)]
def ct36 : List Rw := [(0, 1, .iconst 0, 0, .int 0), (1, 2, .istore_n 2, 0, .null), (2, 3, .iconst 0, 0, .int 0), (3, 4, .istore_n 3, 0, .null), (4, 5, .iload_n 3, 0, .null), (5, 6, .aload_n 0, 0, .null), (6, 9, .getfield 9, 0, .null), (9, 12, .getfield 83, 0, .null), (12, 15, .if_icmp .ge 40, 52, .null), (15, 16, .aload_n 0, 0, .null), (16, 17, .iload_n 1, 0, .null), (17, 18, .iload_n 3, 0, .null), (18, 21, .invokevirtual 146, 0, .null), (21, 23, .istore 4, 0, .null), (23, 25, .iload 4, 0, .null), (25, 28, .ifCond .ge 6, 31, .null), (28, 30, .bipush (-9), 0, .int (-9)), (30, 31, .ireturn, 0, .null), (31, 32, .iload_n 2, 0, .null), (32, 34, .iload 4, 0, .null), (34, 35, .aload_n 0, 0, .null), (35, 38, .getfield 9, 0, .null), (38, 39, .iload_n 3, 0, .null), (39, 40, .iconst 3, 0, .int 3), (40, 43, .invokevirtual 89, 0, .null), (43, 44, .imul, 0, .null), (44, 45, .iadd, 0, .null), (45, 46, .istore_n 2, 0, .null), (46, 49, .iinc 3 1, 0, .null), (49, 52, .goto (-45), 4, .null), (52, 53, .iload_n 2, 0, .null), (53, 54, .ireturn, 0, .null)]
def ct37 : List Rw := [(0, 1, .aload_n 0, 0, .null), (1, 4, .invokevirtual 79, 0, .null), (4, 5, .istore_n 2, 0, .null), (5, 6, .iconst 0, 0, .int 0), (6, 7, .istore_n 3, 0, .null), (7, 8, .iload_n 2, 0, .null), (8, 10, .istore 4, 0, .null), (10, 12, .iload 4, 0, .null), (12, 13, .aload_n 0, 0, .null), (13, 16, .getfield 28, 0, .null), (16, 19, .if_icmp .ge 79, 95, .null), (19, 20, .aload_n 0, 0, .null), (20, 22, .iload 4, 0, .null), (22, 25, .invokevirtual 149, 0, .null), (25, 27, .istore 5, 0, .null), (27, 29, .iload 5, 0, .null), (29, 31, .bipush (-9), 0, .int (-9)), (31, 34, .if_icmp .eq 58, 89, .null), (34, 36, .iload 5, 0, .null), (36, 37, .iload_n 1, 0, .null), (37, 40, .if_icmp .le 6, 43, .null), (40, 43, .goto 49, 89, .null), (43, 44, .aload_n 0, 0, .null), (44, 47, .getfield 41, 0, .null), (47, 49, .iload 4, 0, .null), (49, 50, .laload, 0, .null), (50, 51, .aload_n 0, 0, .null), (51, 54, .getfield 41, 0, .null), (54, 55, .iload_n 2, 0, .null), (55, 56, .laload, 0, .null), (56, 57, .lcmp, 0, .null), (57, 60, .ifCond .gt 26, 83, .null), (60, 61, .aload_n 0, 0, .null), (61, 64, .getfield 41, 0, .null), (64, 66, .iload 4, 0, .null), (66, 67, .laload, 0, .null), (67, 68, .aload_n 0, 0, .null), (68, 71, .getfield 41, 0, .null), (71, 72, .iload_n 2, 0, .null), (72, 73, .laload, 0, .null), (73, 74, .lcmp, 0, .null), (74, 77, .ifCond .ne 15, 89, .null), (77, 79, .iload 5, 0, .null), (79, 80, .iload_n 3, 0, .null), (80, 83, .if_icmp .ge 9, 89, .null), (83, 85, .iload 4, 0, .null), (85, 86, .istore_n 2, 0, .null), (86, 88, .iload 5, 0, .null), (88, 89, .istore_n 3, 0, .null), (89, 92, .iinc 4 1, 0, .null), (92, 95, .goto (-82), 10, .null), (95, 96, .iload_n 2, 0, .null), (96, 97, .ireturn, 0, .null)]
def ct38 : List Rw := [(0, 1, .aload_n 0, 0, .null), (1, 4, .invokespecial 3, 0, .null), (4, 5, .aload_n 0, 0, .null), (5, 6, .iconst 1, 0, .int 1), (6, 9, .putfield 9, 0, .null), (9, 10, .aload_n 0, 0, .null), (10, 11, .iconst 0, 0, .int 0), (11, 14, .putfield 15, 0, .null), (14, 15, .aload_n 0, 0, .null), (15, 17, .bipush (-9), 0, .int (-9)), (17, 20, .putfield 18, 0, .null), (20, 21, .aload_n 0, 0, .null), (21, 22, .iload_n 1, 0, .null), (22, 25, .putfield 22, 0, .null), (25, 26, .aload_n 0, 0, .null), (26, 27, .iload_n 2, 0, .null), (27, 30, .putfield 25, 0, .null), (30, 31, .aload_n 0, 0, .null), (31, 32, .iload_n 3, 0, .null), (32, 35, .putfield 28, 0, .null), (35, 36, .return_, 0, .null)]
def ct39 : List Rw := [(0, 1, .iconst 0, 0, .int 0), (1, 2, .ireturn, 0, .null)]
def ct40 : List Rw := [(0, 1, .iload_n 1, 0, .null), (1, 2, .aload_n 0, 0, .null), (2, 5, .getfield 25, 0, .null), (5, 8, .if_icmp .ne 10, 15, .null), (8, 9, .aload_n 0, 0, .null), (9, 12, .getfield 28, 0, .null), (12, 15, .goto 5, 17, .null), (15, 17, .bipush (-9), 0, .int (-9)), (17, 18, .ireturn, 0, .null)]
def ct41 : List Rw := [(0, 1, .aload_n 0, 0, .null), (1, 4, .getfield 9, 0, .null), (4, 7, .ifCond .eq 14, 18, .null), (7, 8, .aload_n 0, 0, .null), (8, 11, .getfield 15, 0, .null), (11, 14, .ifCond .ne 7, 18, .null), (14, 15, .iconst 1, 0, .int 1), (15, 18, .goto 4, 19, .null), (18, 19, .iconst 0, 0, .int 0), (19, 20, .ireturn, 0, .null)]
def ct42 : List Rw := [(0, 1, .aload_n 0, 0, .null), (1, 2, .aload_n 1, 0, .null), (2, 5, .invokevirtual 31, 0, .null), (5, 6, .ireturn, 0, .null)]
def ct43 : List Rw := [(0, 1, .aload_n 1, 0, .null), (1, 2, .iconst 1, 0, .int 1), (2, 5, .invokevirtual 35, 0, .null), (5, 6, .aload_n 0, 0, .null), (6, 9, .getfield 28, 0, .null), (9, 10, .ireturn, 0, .null)]
def ct44 : List Rw := [(0, 1, .aload_n 1, 0, .null), (1, 2, .iconst 4, 0, .int 4), (2, 5, .invokevirtual 35, 0, .null), (5, 6, .aload_n 0, 0, .null), (6, 9, .getfield 22, 0, .null), (9, 10, .ireturn, 0, .null)]
def ct45 : List Rw := [(0, 1, .aload_n 0, 0, .null), (1, 4, .invokespecial 3, 0, .null), (4, 5, .aload_n 0, 0, .null), (5, 7, .bipush (-9), 0, .int (-9)), (7, 10, .putfield 9, 0, .null), (10, 11, .aload_n 0, 0, .null), (11, 12, .iconst 0, 0, .int 0), (12, 15, .putfield 15, 0, .null), (15, 16, .aload_n 0, 0, .null), (16, 18, .bipush 60, 0, .int 60), (18, 20, .newarray .int, 0, .null), (20, 23, .putfield 18, 0, .null), (23, 24, .return_, 0, .null)]
def ct46 : List Rw := [(0, 1, .aload_n 0, 0, .null), (1, 4, .getfield 9, 0, .null), (4, 6, .bipush (-9), 0, .int (-9)), (6, 9, .if_icmp .ne 7, 13, .null), (9, 10, .iconst 1, 0, .int 1), (10, 13, .goto 4, 14, .null), (13, 14, .iconst 0, 0, .int 0), (14, 15, .ireturn, 0, .null)]
def ct47 : List Rw := [(0, 1, .aload_n 0, 0, .null), (1, 2, .iload_n 1, 0, .null), (2, 5, .putfield 9, 0, .null), (5, 6, .aload_n 0, 0, .null), (6, 7, .iload_n 2, 0, .null), (7, 10, .putfield 15, 0, .null), (10, 11, .aload_n 0, 0, .null), (11, 14, .getfield 18, 0, .null), (14, 15, .iconst 0, 0, .int 0), (15, 18, .invokestatic 22, 0, .null), (18, 19, .return_, 0, .null)]
def ct48 : List Rw := [(0, 1, .iload_n 1, 0, .null), (1, 4, .ifCond .lt 13, 14, .null), (4, 5, .iload_n 1, 0, .null), (5, 6, .aload_n 0, 0, .null), (6, 9, .getfield 15, 0, .null), (9, 10, .iload_n 2, 0, .null), (10, 11, .isub, 0, .null), (11, 14, .if_icmp .le 7, 18, .null), (14, 15, .iconst 1, 0, .int 1), (15, 18, .goto 4, 19, .null), (18, 19, .iconst 0, 0, .int 0), (19, 20, .ireturn, 0, .null)]
def ct49 : List Rw := [(0, 1, .aload_n 0, 0, .null), (1, 4, .getfield 9, 0, .null), (4, 7, .ifCond .ne 14, 18, .null), (7, 8, .aload_n 0, 0, .null), (8, 11, .getfield 18, 0, .null), (11, 12, .iload_n 1, 0, .null), (12, 13, .iload_n 2, 0, .null), (13, 14, .i2b, 0, .null), (14, 15, .iastore, 0, .null), (15, 18, .goto 29, 44, .null), (18, 19, .aload_n 0, 0, .null), (19, 22, .getfield 9, 0, .null), (22, 23, .iconst 1, 0, .int 1), (23, 26, .if_icmp .ne 14, 37, .null), (26, 27, .aload_n 0, 0, .null), (27, 30, .getfield 18, 0, .null), (30, 31, .iload_n 1, 0, .null), (31, 32, .iload_n 2, 0, .null), (32, 33, .i2s, 0, .null), (33, 34, .iastore, 0, .null), (34, 37, .goto 10, 44, .null), (37, 38, .aload_n 0, 0, .null), (38, 41, .getfield 18, 0, .null), (41, 42, .iload_n 1, 0, .null), (42, 43, .iload_n 2, 0, .null), (43, 44, .iastore, 0, .null), (44, 45, .return_, 0, .null)]
def ct50 : List Rw := [(0, 1, .iload_n 1, 0, .null), (1, 2, .istore_n 3, 0, .null), (2, 3, .iload_n 3, 0, .null), (3, 4, .iload_n 1, 0, .null), (4, 5, .iload_n 2, 0, .null), (5, 6, .iadd, 0, .null), (6, 9, .if_icmp .ge 31, 37, .null), (9, 10, .aload_n 0, 0, .null), (10, 13, .getfield 18, 0, .null), (13, 14, .iload_n 3, 0, .null), (14, 15, .iaload, 0, .null), (15, 18, .ifCond .lt 14, 29, .null), (18, 19, .aload_n 0, 0, .null), (19, 22, .getfield 18, 0, .null), (22, 23, .iload_n 3, 0, .null), (23, 24, .iaload, 0, .null), (24, 26, .bipush 12, 0, .int 12), (26, 29, .if_icmp .lt 5, 31, .null), (29, 30, .iconst 0, 0, .int 0), (30, 31, .ireturn, 0, .null), (31, 34, .iinc 3 1, 0, .null), (34, 37, .goto (-32), 2, .null), (37, 38, .iconst 1, 0, .int 1), (38, 39, .ireturn, 0, .null)]
def ct51 : List Rw := [(0, 1, .aload_n 0, 0, .null), (1, 4, .invokespecial 3, 0, .null), (4, 5, .aload_n 0, 0, .null), (5, 6, .aconst_null, 0, .null), (6, 9, .putfield 9, 0, .null), (9, 10, .aload_n 0, 0, .null), (10, 11, .iconst 0, 0, .int 0), (11, 14, .putfield 15, 0, .null), (14, 15, .aload_n 0, 0, .null), (15, 16, .iconst 0, 0, .int 0), (16, 19, .putfield 19, 0, .null), (19, 20, .aload_n 0, 0, .null), (20, 21, .iconst 0, 0, .int 0), (21, 24, .putfield 22, 0, .null), (24, 25, .aload_n 0, 0, .null), (25, 26, .iconst 0, 0, .int 0), (26, 29, .putfield 25, 0, .null), (29, 30, .aload_n 0, 0, .null), (30, 31, .iconst 0, 0, .int 0), (31, 34, .putfield 28, 0, .null), (34, 35, .aload_n 0, 0, .null), (35, 36, .iconst 0, 0, .int 0), (36, 39, .putfield 31, 0, .null), (39, 40, .aload_n 0, 0, .null), (40, 41, .iconst 0, 0, .int 0), (41, 44, .putfield 34, 0, .null), (44, 45, .aload_n 0, 0, .null), (45, 47, .bipush 15, 0, .int 15), (47, 49, .newarray .int, 0, .null), (49, 52, .putfield 37, 0, .null), (52, 53, .aload_n 0, 0, .null), (53, 54, .iconst 5, 0, .int 5), (54, 56, .newarray .int, 0, .null), (56, 59, .putfield 41, 0, .null), (59, 60, .return_, 0, .null)]
def ct52 : List Rw := [(0, 1, .aload_n 0, 0, .null), (1, 2, .aload_n 1, 0, .null), (2, 5, .putfield 9, 0, .null), (5, 6, .aload_n 0, 0, .null), (6, 7, .iload_n 2, 0, .null), (7, 10, .putfield 15, 0, .null), (10, 11, .aload_n 0, 0, .null), (11, 12, .iload_n 3, 0, .null), (12, 15, .putfield 19, 0, .null), (15, 16, .aload_n 0, 0, .null), (16, 17, .iconst 0, 0, .int 0), (17, 20, .putfield 22, 0, .null), (20, 21, .aload_n 0, 0, .null), (21, 24, .invokevirtual 44, 0, .null), (24, 27, .ifCond .eq 39, 63, .null), (27, 28, .aload_n 0, 0, .null), (28, 31, .invokevirtual 48, 0, .null), (31, 34, .ifCond .eq 32, 63, .null), (34, 35, .aload_n 0, 0, .null), (35, 38, .invokevirtual 51, 0, .null), (38, 41, .ifCond .eq 25, 63, .null), (41, 42, .aload_n 0, 0, .null), (42, 45, .invokevirtual 54, 0, .null), (45, 48, .ifCond .eq 18, 63, .null), (48, 49, .aload_n 0, 0, .null), (49, 52, .getfield 22, 0, .null), (52, 53, .aload_n 0, 0, .null), (53, 56, .getfield 19, 0, .null), (56, 59, .if_icmp .ne 7, 63, .null), (59, 60, .iconst 1, 0, .int 1), (60, 63, .goto 4, 64, .null), (63, 64, .iconst 0, 0, .int 0), (64, 66, .istore 4, 0, .null), (66, 68, .iload 4, 0, .null), (68, 71, .ifCond .eq 8, 76, .null), (71, 73, .bipush (-9), 0, .int (-9)), (73, 76, .goto 7, 80, .null), (76, 77, .aload_n 0, 0, .null), (77, 80, .getfield 22, 0, .null), (80, 81, .ireturn, 0, .null)]
def ct53 : List Rw := [(0, 1, .aload_n 0, 0, .null), (1, 3, .bipush 108, 0, .int 108), (3, 6, .invokevirtual 57, 0, .null), (6, 9, .ifCond .eq 13, 19, .null), (9, 10, .aload_n 0, 0, .null), (10, 11, .iconst 1, 0, .int 1), (11, 12, .iconst 1, 0, .int 1), (12, 13, .iconst 4, 0, .int 4), (13, 16, .invokevirtual 61, 0, .null), (16, 19, .ifCond .ne 5, 21, .null), (19, 20, .iconst 0, 0, .int 0), (20, 21, .ireturn, 0, .null), (21, 22, .aload_n 0, 0, .null), (22, 23, .aload_n 0, 0, .null), (23, 26, .getfield 25, 0, .null), (26, 29, .putfield 28, 0, .null), (29, 30, .iconst 1, 0, .int 1), (30, 31, .ireturn, 0, .null)]
def ct54 : List Rw := [(0, 1, .aload_n 0, 0, .null), (1, 2, .iconst 0, 0, .int 0), (2, 5, .putfield 31, 0, .null), (5, 6, .aload_n 0, 0, .null), (6, 9, .getfield 31, 0, .null), (9, 10, .iconst 3, 0, .int 3), (10, 13, .if_icmp .ge 62, 72, .null), (13, 14, .aload_n 0, 0, .null), (14, 16, .bipush 59, 0, .int 59), (16, 19, .invokevirtual 57, 0, .null), (19, 22, .ifCond .ne 5, 24, .null), (22, 23, .iconst 0, 0, .int 0), (23, 24, .ireturn, 0, .null), (24, 25, .aload_n 0, 0, .null), (25, 28, .invokevirtual 65, 0, .null), (28, 30, .bipush 115, 0, .int 115), (30, 33, .if_icmp .eq 16, 46, .null), (33, 34, .aload_n 0, 0, .null), (34, 37, .getfield 31, 0, .null), (37, 40, .ifCond .le 7, 44, .null), (40, 41, .iconst 1, 0, .int 1), (41, 44, .goto 4, 45, .null), (44, 45, .iconst 0, 0, .int 0), (45, 46, .ireturn, 0, .null), (46, 47, .aload_n 0, 0, .null), (47, 48, .aload_n 0, 0, .null), (48, 51, .getfield 31, 0, .null), (51, 54, .invokevirtual 69, 0, .null), (54, 57, .ifCond .ne 5, 59, .null), (57, 58, .iconst 0, 0, .int 0), (58, 59, .ireturn, 0, .null), (59, 60, .aload_n 0, 0, .null), (60, 61, .dup, 0, .null), (61, 64, .getfield 31, 0, .null), (64, 65, .iconst 1, 0, .int 1), (65, 66, .iadd, 0, .null), (66, 69, .putfield 31, 0, .null), (69, 72, .goto (-64), 5, .null), (72, 73, .aload_n 0, 0, .null), (73, 75, .bipush 59, 0, .int 59), (75, 78, .invokevirtual 57, 0, .null), (78, 79, .ireturn, 0, .null)]
def ct55 : List Rw := [(0, 1, .iconst 0, 0, .int 0), (1, 2, .istore_n 2, 0, .null), (2, 3, .iload_n 2, 0, .null), (3, 4, .iconst 3, 0, .int 3), (4, 7, .if_icmp .gt 59, 63, .null), (7, 8, .aload_n 0, 0, .null), (8, 11, .getstatic 72, 0, .null), (11, 12, .iload_n 2, 0, .null), (12, 13, .caload, 0, .null), (13, 16, .invokevirtual 57, 0, .null), (16, 19, .ifCond .eq 25, 41, .null), (19, 20, .aload_n 0, 0, .null), (20, 23, .getstatic 76, 0, .null), (23, 24, .iload_n 2, 0, .null), (24, 25, .iaload, 0, .null), (25, 28, .getstatic 79, 0, .null), (28, 29, .iload_n 2, 0, .null), (29, 30, .iaload, 0, .null), (30, 33, .getstatic 82, 0, .null), (33, 34, .iload_n 2, 0, .null), (34, 35, .iaload, 0, .null), (35, 38, .invokevirtual 61, 0, .null), (38, 41, .ifCond .ne 5, 43, .null), (41, 42, .iconst 0, 0, .int 0), (42, 43, .ireturn, 0, .null), (43, 44, .aload_n 0, 0, .null), (44, 47, .getfield 37, 0, .null), (47, 48, .iload_n 1, 0, .null), (48, 49, .iconst 5, 0, .int 5), (49, 50, .imul, 0, .null), (50, 51, .iload_n 2, 0, .null), (51, 52, .iadd, 0, .null), (52, 53, .aload_n 0, 0, .null), (53, 56, .getfield 25, 0, .null), (56, 57, .iastore, 0, .null), (57, 60, .iinc 2 1, 0, .null), (60, 63, .goto (-58), 2, .null), (63, 64, .aload_n 0, 0, .null), (64, 67, .getfield 37, 0, .null), (67, 68, .iload_n 1, 0, .null), (68, 69, .iconst 5, 0, .int 5), (69, 70, .imul, 0, .null), (70, 71, .iconst 4, 0, .int 4), (71, 72, .iadd, 0, .null), (72, 73, .iconst 0, 0, .int 0), (73, 74, .iastore, 0, .null), (74, 75, .iconst 1, 0, .int 1), (75, 76, .ireturn, 0, .null)]
def ct56 : List Rw := [(0, 1, .aload_n 0, 0, .null), (1, 3, .bipush 98, 0, .int 98), (3, 6, .invokevirtual 57, 0, .null), (6, 9, .ifCond .ne 5, 11, .null), (9, 10, .iconst 0, 0, .int 0), (10, 11, .ireturn, 0, .null), (11, 12, .iconst 1, 0, .int 1), (12, 13, .istore_n 1, 0, .null), (13, 14, .iload_n 1, 0, .null), (14, 15, .aload_n 0, 0, .null), (15, 18, .getfield 28, 0, .null), (18, 21, .if_icmp .gt 32, 50, .null), (21, 22, .aload_n 0, 0, .null), (22, 23, .iconst 1, 0, .int 1), (23, 24, .iconst 0, 0, .int 0), (24, 26, .bipush 9, 0, .int 9), (26, 29, .invokevirtual 61, 0, .null), (29, 32, .ifCond .ne 5, 34, .null), (32, 33, .iconst 0, 0, .int 0), (33, 34, .ireturn, 0, .null), (34, 35, .aload_n 0, 0, .null), (35, 38, .getfield 41, 0, .null), (38, 39, .iload_n 1, 0, .null), (39, 40, .aload_n 0, 0, .null), (40, 43, .getfield 25, 0, .null), (43, 44, .iastore, 0, .null), (44, 47, .iinc 1 1, 0, .null), (47, 50, .goto (-34), 13, .null), (50, 51, .iconst 1, 0, .int 1), (51, 52, .ireturn, 0, .null)]
def ct57_0 : List Rw := [(0, 1, .aload_n 0, 0, .null), (1, 2, .iconst 0, 0, .int 0), (2, 5, .putfield 34, 0, .null), (5, 6, .aload_n 0, 0, .null), (6, 9, .getfield 22, 0, .null), (9, 10, .aload_n 0, 0, .null), (10, 13, .getfield 19, 0, .null), (13, 16, .if_icmp .ne 5, 18, .null), (16, 17, .iconst 1, 0, .int 1), (17, 18, .ireturn, 0, .null), (18, 19, .aload_n 0, 0, .null), (19, 21, .bipush 59, 0, .int 59), (21, 24, .invokevirtual 57, 0, .null), (24, 27, .ifCond .eq 23, 47, .null), (27, 28, .aload_n 0, 0, .null), (28, 30, .bipush 112, 0, .int 112), (30, 33, .invokevirtual 57, 0, .null), (33, 36, .ifCond .eq 14, 47, .null), (36, 37, .aload_n 0, 0, .null), (37, 38, .iconst 1, 0, .int 1), (38, 39, .iconst 1, 0, .int 1), (39, 41, .bipush 9, 0, .int 9), (41, 44, .invokevirtual 61, 0, .null), (44, 47, .ifCond .ne 5, 49, .null), (47, 48, .iconst 0, 0, .int 0), (48, 49, .ireturn, 0, .null), (49, 50, .aload_n 0, 0, .null), (50, 51, .aload_n 0, 0, .null), (51, 54, .getfield 25, 0, .null), (54, 57, .putfield 34, 0, .null), (57, 58, .iconst 0, 0, .int 0), (58, 59, .istore_n 1, 0, .null), (59, 60, .iload_n 1, 0, .null), (60, 61, .aload_n 0, 0, .null), (61, 64, .getfield 31, 0, .null), (64, 67, .if_icmp .ge 43, 107, .null), (67, 68, .aload_n 0, 0, .null), (68, 69, .iconst 1, 0, .int 1), (69, 72, .getstatic 79, 0, .null), (72, 73, .iconst 4, 0, .int 4), (73, 74, .iaload, 0, .null), (74, 77, .getstatic 82, 0, .null), (77, 78, .iconst 4, 0, .int 4), (78, 79, .iaload, 0, .null), (79, 82, .invokevirtual 61, 0, .null), (82, 85, .ifCond .ne 5, 87, .null), (85, 86, .iconst 0, 0, .int 0), (86, 87, .ireturn, 0, .null), (87, 88, .aload_n 0, 0, .null), (88, 91, .getfield 37, 0, .null), (91, 92, .iload_n 1, 0, .null), (92, 93, .iconst 5, 0, .int 5), (93, 94, .imul, 0, .null), (94, 95, .iconst 4, 0, .int 4), (95, 96, .iadd, 0, .null), (96, 97, .aload_n 0, 0, .null), (97, 100, .getfield 25, 0, .null), (100, 101, .iastore, 0, .null), (101, 104, .iinc 1 1, 0, .null), (104, 107, .goto (-45), 59, .null)]
def ct57_1 : List Rw := [(107, 108, .iconst 1, 0, .int 1), (108, 109, .ireturn, 0, .null)]
def ct57 : List Rw := ct57_0 ++ ct57_1
def ct58 : List Rw := [(0, 1, .aload_n 0, 0, .null), (1, 2, .aload_n 0, 0, .null), (2, 5, .getfield 22, 0, .null), (5, 8, .invokevirtual 85, 0, .null), (8, 9, .ireturn, 0, .null)]
def ct59 : List Rw := [(0, 1, .iload_n 1, 0, .null), (1, 2, .aload_n 0, 0, .null), (2, 5, .getfield 19, 0, .null), (5, 8, .if_icmp .ge 20, 25, .null), (8, 9, .aload_n 0, 0, .null), (9, 12, .getfield 9, 0, .null), (12, 15, .getfield 89, 0, .null), (15, 16, .aload_n 0, 0, .null), (16, 19, .getfield 15, 0, .null), (19, 20, .iload_n 1, 0, .null), (20, 21, .iadd, 0, .null), (21, 22, .iaload, 0, .null), (22, 25, .goto 5, 27, .null), (25, 27, .bipush (-9), 0, .int (-9)), (27, 28, .ireturn, 0, .null)]
def ct60 : List Rw := [(0, 1, .aload_n 0, 0, .null), (1, 4, .getfield 22, 0, .null), (4, 5, .aload_n 0, 0, .null), (5, 8, .getfield 19, 0, .null), (8, 11, .if_icmp .ge 11, 19, .null), (11, 12, .aload_n 0, 0, .null), (12, 15, .invokevirtual 65, 0, .null), (15, 16, .iload_n 1, 0, .null), (16, 19, .if_icmp .eq 5, 21, .null), (19, 20, .iconst 0, 0, .int 0), (20, 21, .ireturn, 0, .null), (21, 22, .aload_n 0, 0, .null), (22, 23, .dup, 0, .null), (23, 26, .getfield 22, 0, .null), (26, 27, .iconst 1, 0, .int 1), (27, 28, .iadd, 0, .null), (28, 31, .putfield 22, 0, .null), (31, 32, .iconst 1, 0, .int 1), (32, 33, .ireturn, 0, .null)]
def ct61 : List Rw := [(0, 1, .iconst 0, 0, .int 0), (1, 3, .istore 4, 0, .null), (3, 4, .iconst 0, 0, .int 0), (4, 6, .istore 5, 0, .null), (6, 8, .iload 5, 0, .null), (8, 9, .iload_n 1, 0, .null), (9, 12, .if_icmp .ge 48, 57, .null), (12, 13, .aload_n 0, 0, .null), (13, 14, .aload_n 0, 0, .null), (14, 17, .getfield 22, 0, .null), (17, 19, .iload 5, 0, .null), (19, 20, .iadd, 0, .null), (20, 23, .invokevirtual 85, 0, .null), (23, 26, .invokestatic 94, 0, .null), (26, 29, .ifCond .eq 31, 57, .null), (29, 31, .iload 4, 0, .null), (31, 33, .bipush 10, 0, .int 10), (33, 34, .imul, 0, .null), (34, 35, .aload_n 0, 0, .null), (35, 36, .aload_n 0, 0, .null), (36, 39, .getfield 22, 0, .null), (39, 41, .iload 5, 0, .null), (41, 42, .iadd, 0, .null), (42, 45, .invokevirtual 85, 0, .null), (45, 46, .iadd, 0, .null), (46, 48, .bipush 48, 0, .int 48), (48, 49, .isub, 0, .null), (49, 51, .istore 4, 0, .null), (51, 54, .iinc 5 1, 0, .null), (54, 57, .goto (-48), 6, .null), (57, 59, .iload 5, 0, .null), (59, 62, .ifCond .eq 15, 74, .null), (62, 64, .iload 4, 0, .null), (64, 65, .iload_n 2, 0, .null), (65, 68, .if_icmp .lt 9, 74, .null), (68, 70, .iload 4, 0, .null), (70, 71, .iload_n 3, 0, .null), (71, 74, .if_icmp .le 5, 76, .null), (74, 75, .iconst 0, 0, .int 0), (75, 76, .ireturn, 0, .null), (76, 77, .aload_n 0, 0, .null), (77, 79, .iload 4, 0, .null), (79, 82, .putfield 25, 0, .null), (82, 83, .aload_n 0, 0, .null), (83, 84, .dup, 0, .null), (84, 87, .getfield 22, 0, .null), (87, 89, .iload 5, 0, .null), (89, 90, .iadd, 0, .null), (90, 93, .putfield 22, 0, .null), (93, 94, .iconst 1, 0, .int 1), (94, 95, .ireturn, 0, .null)]
def ct62 : List Rw := [(0, 1, .iload_n 0, 0, .null), (1, 3, .bipush 48, 0, .int 48), (3, 6, .if_icmp .lt 13, 16, .null), (6, 7, .iload_n 0, 0, .null), (7, 9, .bipush 57, 0, .int 57), (9, 12, .if_icmp .gt 7, 16, .null), (12, 13, .iconst 1, 0, .int 1), (13, 16, .goto 4, 17, .null), (16, 17, .iconst 0, 0, .int 0), (17, 18, .ireturn, 0, .null)]
def ct63 : List Rw := [(0, 1, .aload_n 0, 0, .null), (1, 4, .invokespecial 1, 0, .null), (4, 5, .aload_n 0, 0, .null), (5, 6, .iconst 0, 0, .int 0), (6, 9, .putfield 7, 0, .null), (9, 10, .return_, 0, .null)]
def ct64 : List Rw := [(0, 1, .aload_n 0, 0, .null), (1, 3, .bipush 31, 0, .int 31), (3, 4, .aload_n 0, 0, .null), (4, 7, .getfield 7, 0, .null), (7, 8, .imul, 0, .null), (8, 9, .iload_n 1, 0, .null), (9, 10, .iadd, 0, .null), (10, 13, .putfield 7, 0, .null), (13, 14, .return_, 0, .null)]
def ct65 : List Rw := [(0, 1, .aload_n 0, 0, .null), (1, 4, .invokespecial 3, 0, .null), (4, 5, .aload_n 0, 0, .null), (5, 6, .iconst 0, 0, .int 0), (6, 9, .putfield 9, 0, .null), (9, 10, .aload_n 0, 0, .null), (10, 11, .iconst 0, 0, .int 0), (11, 14, .putfield 15, 0, .null), (14, 15, .aload_n 0, 0, .null), (15, 16, .iconst 0, 0, .int 0), (16, 19, .putfield 18, 0, .null), (19, 20, .aload_n 0, 0, .null), (20, 21, .iconst 0, 0, .int 0), (21, 24, .putfield 21, 0, .null), (24, 25, .aload_n 0, 0, .null), (25, 27, .bipush 12, 0, .int 12), (27, 29, .newarray .int, 0, .null), (29, 32, .putfield 24, 0, .null), (32, 33, .aload_n 0, 0, .null), (33, 34, .aconst_null, 0, .null), (34, 37, .putfield 28, 0, .null), (37, 38, .aload_n 0, 0, .null), (38, 39, .iconst 0, 0, .int 0), (39, 42, .putfield 32, 0, .null), (42, 43, .aload_n 0, 0, .null), (43, 44, .iconst 0, 0, .int 0), (44, 47, .putfield 35, 0, .null), (47, 48, .aload_n 0, 0, .null), (48, 50, .bipush 12, 0, .int 12), (50, 52, .newarray .int, 0, .null), (52, 55, .putfield 38, 0, .null), (55, 56, .aload_n 0, 0, .null), (56, 59, .sipush 144, 0, .int 144), (59, 61, .newarray .long, 0, .null), (61, 64, .putfield 41, 0, .null), (64, 65, .aload_n 0, 0, .null), (65, 67, .bipush 13, 0, .int 13), (67, 69, .newarray .long, 0, .null), (69, 72, .putfield 45, 0, .null), (72, 73, .aload_n 0, 0, .null), (73, 75, .bipush 13, 0, .int 13), (75, 77, .newarray .long, 0, .null), (77, 80, .putfield 48, 0, .null), (80, 81, .aload_n 0, 0, .null), (81, 83, .bipush 13, 0, .int 13), (83, 85, .newarray .long, 0, .null), (85, 88, .putfield 51, 0, .null), (88, 89, .aload_n 0, 0, .null), (89, 91, .bipush 13, 0, .int 13), (91, 93, .newarray .int, 0, .null), (93, 96, .putfield 54, 0, .null), (96, 97, .aload_n 0, 0, .null), (97, 99, .bipush 13, 0, .int 13), (99, 101, .newarray .int, 0, .null), (101, 104, .putfield 57, 0, .null), (104, 105, .aload_n 0, 0, .null), (105, 107, .bipush 13, 0, .int 13), (107, 109, .newarray .boolean, 0, .null), (109, 112, .putfield 60, 0, .null), (112, 113, .return_, 0, .null)]
def ct66 : List Rw := [(0, 1, .aload_n 0, 0, .null), (1, 2, .aload_n 1, 0, .null), (2, 5, .putfield 28, 0, .null), (5, 6, .aload_n 0, 0, .null), (6, 7, .iload_n 2, 0, .null), (7, 10, .putfield 32, 0, .null), (10, 11, .aload_n 0, 0, .null), (11, 12, .aload_n 0, 0, .null), (12, 15, .invokevirtual 64, 0, .null), (15, 18, .putfield 9, 0, .null), (18, 21, .ldc2_w 68, 0, .long 4611686018427387904), (21, 22, .lstore_n 3, 0, .null), (22, 23, .iconst 0, 0, .int 0), (23, 25, .istore 5, 0, .null), (25, 27, .iload 5, 0, .null), (27, 29, .bipush 16, 0, .int 16), (29, 32, .if_icmp .ge 54, 83, .null), (32, 34, .iload 5, 0, .null), (34, 37, .invokestatic 70, 0, .null), (37, 38, .aload_n 0, 0, .null), (38, 41, .getfield 9, 0, .null), (41, 44, .if_icmp .eq 6, 47, .null), (44, 47, .goto 33, 77, .null), (47, 48, .aload_n 0, 0, .null), (48, 50, .iload 5, 0, .null), (50, 53, .invokevirtual 76, 0, .null), (53, 56, .ldc2_w 80, 0, .long 8916100448256), (56, 57, .ldiv, 0, .null), (57, 59, .lstore 6, 0, .null), (59, 61, .lload 6, 0, .null), (61, 62, .lload_n 3, 0, .null), (62, 63, .lcmp, 0, .null), (63, 66, .ifCond .ge 14, 77, .null), (66, 68, .lload 6, 0, .null), (68, 69, .lstore_n 3, 0, .null), (69, 70, .aload_n 0, 0, .null), (70, 72, .iload 5, 0, .null), (72, 74, .lload 6, 0, .null), (74, 77, .invokevirtual 82, 0, .null), (77, 80, .iinc 5 1, 0, .null), (80, 83, .goto (-55), 25, .null), (83, 84, .return_, 0, .null)]
def ct67 : List Rw := [(0, 1, .iconst 4, 0, .int 4), (1, 2, .istore_n 1, 0, .null), (2, 3, .iconst 1, 0, .int 1), (3, 4, .istore_n 2, 0, .null), (4, 5, .iload_n 2, 0, .null), (5, 7, .bipush 8, 0, .int 8), (7, 10, .if_icmp .ge 24, 31, .null), (10, 11, .iload_n 1, 0, .null), (11, 12, .aload_n 0, 0, .null), (12, 13, .iload_n 2, 0, .null), (13, 16, .invokevirtual 86, 0, .null), (16, 17, .iload_n 2, 0, .null), (17, 20, .invokestatic 70, 0, .null), (20, 21, .idiv, 0, .null), (21, 24, .invokestatic 89, 0, .null), (24, 25, .istore_n 1, 0, .null), (25, 28, .iinc 2 1, 0, .null), (28, 31, .goto (-24), 4, .null), (31, 32, .iload_n 1, 0, .null), (32, 33, .ireturn, 0, .null)]
def ct68 : List Rw := [(0, 1, .iconst 0, 0, .int 0), (1, 2, .istore_n 2, 0, .null), (2, 3, .iconst 0, 0, .int 0), (3, 4, .istore_n 3, 0, .null), (4, 5, .iload_n 3, 0, .null), (5, 6, .aload_n 0, 0, .null), (6, 9, .getfield 32, 0, .null), (9, 12, .if_icmp .ge 37, 46, .null), (12, 13, .aload_n 0, 0, .null), (13, 16, .getfield 28, 0, .null), (16, 17, .iload_n 3, 0, .null), (17, 18, .aaload, 0, .null), (18, 21, .invokevirtual 95, 0, .null), (21, 24, .ifCond .eq 19, 40, .null), (24, 25, .aload_n 0, 0, .null), (25, 28, .getfield 28, 0, .null), (28, 29, .iload_n 3, 0, .null), (29, 30, .aaload, 0, .null), (30, 31, .iload_n 1, 0, .null), (31, 34, .invokestatic 101, 0, .null), (34, 37, .ifCond .eq 6, 40, .null), (37, 40, .iinc 2 1, 0, .null), (40, 43, .iinc 3 1, 0, .null), (43, 46, .goto (-39), 4, .null), (46, 47, .iload_n 2, 0, .null), (47, 48, .ireturn, 0, .null)]
def ct69 : List Rw := [(0, 1, .iconst 0, 0, .int 0), (1, 2, .istore_n 2, 0, .null), (2, 3, .iload_n 2, 0, .null), (3, 4, .iconst 3, 0, .int 3), (4, 7, .if_icmp .ge 30, 34, .null), (7, 8, .iload_n 1, 0, .null), (8, 9, .iload_n 2, 0, .null), (9, 10, .ishr, 0, .null), (10, 11, .iconst 1, 0, .int 1), (11, 12, .iand, 0, .null), (12, 13, .iconst 1, 0, .int 1), (13, 16, .if_icmp .ne 15, 28, .null), (16, 17, .aload_n 0, 0, .null), (17, 18, .iload_n 2, 0, .null), (18, 21, .invokevirtual 105, 0, .null), (21, 23, .bipush (-9), 0, .int (-9)), (23, 26, .if_icmp .eq 5, 28, .null), (26, 27, .iconst 1, 0, .int 1), (27, 28, .ireturn, 0, .null), (28, 31, .iinc 2 1, 0, .null), (31, 34, .goto (-29), 2, .null), (34, 35, .iconst 0, 0, .int 0), (35, 36, .ireturn, 0, .null)]
def ct70_0 : List Rw := [(0, 1, .aload_n 0, 0, .null), (1, 2, .iload_n 1, 0, .null), (2, 5, .invokevirtual 108, 0, .null), (5, 6, .aload_n 0, 0, .null), (6, 9, .getfield 45, 0, .null), (9, 10, .lconst 0, 0, .long 0), (10, 13, .invokestatic 112, 0, .null), (13, 14, .aload_n 0, 0, .null), (14, 17, .getfield 48, 0, .null), (17, 18, .lconst 0, 0, .long 0), (18, 21, .invokestatic 112, 0, .null), (21, 22, .aload_n 0, 0, .null), (22, 25, .getfield 54, 0, .null), (25, 26, .iconst 0, 0, .int 0), (26, 29, .invokestatic 118, 0, .null), (29, 30, .iconst 1, 0, .int 1), (30, 31, .istore_n 2, 0, .null), (31, 32, .iload_n 2, 0, .null), (32, 33, .aload_n 0, 0, .null), (33, 36, .getfield 35, 0, .null), (36, 39, .if_icmp .gt 14, 50, .null), (39, 40, .aload_n 0, 0, .null), (40, 41, .iload_n 2, 0, .null), (41, 44, .invokevirtual 121, 0, .null), (44, 47, .iinc 2 1, 0, .null), (47, 50, .goto (-16), 31, .null), (50, 51, .lconst 0, 0, .long 0), (51, 52, .lstore_n 2, 0, .null), (52, 53, .iconst 1, 0, .int 1), (53, 55, .istore 4, 0, .null), (55, 57, .iload 4, 0, .null), (57, 58, .aload_n 0, 0, .null), (58, 61, .getfield 32, 0, .null), (61, 64, .if_icmp .gt 48, 109, .null), (64, 65, .lload_n 2, 0, .null), (65, 66, .aload_n 0, 0, .null), (66, 69, .getfield 54, 0, .null), (69, 71, .iload 4, 0, .null), (71, 72, .iaload, 0, .null), (72, 75, .ifCond .ne 7, 79, .null), (75, 76, .lconst 0, 0, .long 0), (76, 79, .goto 25, 101, .null), (79, 80, .aload_n 0, 0, .null), (80, 83, .getfield 41, 0, .null), (83, 84, .aload_n 0, 0, .null), (84, 87, .getfield 54, 0, .null), (87, 89, .iload 4, 0, .null), (89, 90, .iaload, 0, .null), (90, 91, .iconst 1, 0, .int 1), (91, 92, .isub, 0, .null), (92, 94, .bipush 12, 0, .int 12), (94, 95, .imul, 0, .null), (95, 97, .iload 4, 0, .null), (97, 98, .iadd, 0, .null), (98, 99, .iconst 1, 0, .int 1), (99, 100, .isub, 0, .null), (100, 101, .laload, 0, .null), (101, 102, .ladd, 0, .null), (102, 103, .lstore_n 2, 0, .null), (103, 106, .iinc 4 1, 0, .null)]
def ct70_1 : List Rw := [(106, 109, .goto (-51), 55, .null), (109, 110, .lload_n 2, 0, .null), (110, 111, .lreturn, 0, .null)]
def ct70 : List Rw := ct70_0 ++ ct70_1
def ct71_0 : List Rw := [(0, 1, .aload_n 0, 0, .null), (1, 2, .iconst 0, 0, .int 0), (2, 5, .putfield 35, 0, .null), (5, 6, .iconst 0, 0, .int 0), (6, 7, .istore_n 2, 0, .null), (7, 8, .iload_n 2, 0, .null), (8, 10, .bipush 12, 0, .int 12), (10, 13, .if_icmp .ge 40, 50, .null), (13, 14, .iload_n 1, 0, .null), (14, 15, .iload_n 2, 0, .null), (15, 16, .iconst 3, 0, .int 3), (16, 17, .idiv, 0, .null), (17, 18, .ishr, 0, .null), (18, 19, .iconst 1, 0, .int 1), (19, 20, .iand, 0, .null), (20, 21, .iconst 1, 0, .int 1), (21, 24, .if_icmp .ne 23, 44, .null), (24, 25, .aload_n 0, 0, .null), (25, 28, .getfield 38, 0, .null), (28, 29, .aload_n 0, 0, .null), (29, 32, .getfield 35, 0, .null), (32, 33, .iload_n 2, 0, .null), (33, 34, .iastore, 0, .null), (34, 35, .aload_n 0, 0, .null), (35, 36, .dup, 0, .null), (36, 39, .getfield 35, 0, .null), (39, 40, .iconst 1, 0, .int 1), (40, 41, .iadd, 0, .null), (41, 44, .putfield 35, 0, .null), (44, 47, .iinc 2 1, 0, .null), (47, 50, .goto (-40), 7, .null), (50, 51, .lconst 1, 0, .long 1), (51, 52, .lstore_n 2, 0, .null), (52, 53, .aload_n 0, 0, .null), (53, 56, .getfield 35, 0, .null), (56, 57, .iconst 1, 0, .int 1), (57, 58, .isub, 0, .null), (58, 60, .istore 4, 0, .null), (60, 62, .iload 4, 0, .null), (62, 65, .ifCond .lt 69, 131, .null), (65, 66, .iconst 0, 0, .int 0), (66, 68, .istore 5, 0, .null), (68, 70, .iload 5, 0, .null), (70, 71, .aload_n 0, 0, .null), (71, 74, .getfield 32, 0, .null), (74, 77, .if_icmp .ge 45, 119, .null), (77, 78, .aload_n 0, 0, .null), (78, 81, .getfield 41, 0, .null), (81, 83, .iload 4, 0, .null), (83, 85, .bipush 12, 0, .int 12), (85, 86, .imul, 0, .null), (86, 88, .iload 5, 0, .null), (88, 89, .iadd, 0, .null), (89, 90, .aload_n 0, 0, .null), (90, 93, .getfield 28, 0, .null), (93, 95, .iload 5, 0, .null), (95, 96, .aaload, 0, .null), (96, 97, .aload_n 0, 0, .null), (97, 100, .getfield 38, 0, .null), (100, 102, .iload 4, 0, .null)]
def ct71_1 : List Rw := [(102, 103, .iaload, 0, .null), (103, 106, .invokestatic 124, 0, .null), (106, 108, .iload 5, 0, .null), (108, 109, .i2l, 0, .null), (109, 110, .lload_n 2, 0, .null), (110, 111, .lmul, 0, .null), (111, 112, .ladd, 0, .null), (112, 113, .lastore, 0, .null), (113, 116, .iinc 5 1, 0, .null), (116, 119, .goto (-48), 68, .null), (119, 120, .lload_n 2, 0, .null), (120, 123, .ldc2_w 128, 0, .long 12), (123, 124, .lmul, 0, .null), (124, 125, .lstore_n 2, 0, .null), (125, 128, .iinc 4 (-1), 0, .null), (128, 131, .goto (-68), 60, .null), (131, 132, .return_, 0, .null)]
def ct71 : List Rw := ct71_0 ++ ct71_1
def ct72 : List Rw := [(0, 1, .aload_n 0, 0, .null), (1, 2, .iload_n 1, 0, .null), (2, 3, .iconst 3, 0, .int 3), (3, 4, .irem, 0, .null), (4, 7, .invokevirtual 105, 0, .null), (7, 8, .istore_n 2, 0, .null), (8, 9, .aload_n 0, 0, .null), (9, 12, .invokevirtual 95, 0, .null), (12, 15, .ifCond .eq 9, 21, .null), (15, 16, .iload_n 2, 0, .null), (16, 18, .bipush (-9), 0, .int (-9)), (18, 21, .if_icmp .ne 7, 25, .null), (21, 24, .ldc2_w 130, 0, .long 144115188075855872), (24, 25, .lreturn, 0, .null), (25, 26, .aload_n 0, 0, .null), (26, 29, .getfield 132, 0, .null), (29, 30, .iload_n 1, 0, .null), (30, 33, .if_icmp .ne 7, 37, .null), (33, 34, .lconst 0, 0, .long 0), (34, 37, .goto 13, 47, .null), (37, 40, .sipush 256, 0, .int 256), (40, 41, .iload_n 2, 0, .null), (41, 42, .iadd, 0, .null), (42, 43, .i2l, 0, .null), (43, 46, .ldc2_w 80, 0, .long 8916100448256), (46, 47, .lmul, 0, .null), (47, 48, .lreturn, 0, .null)]
def ct73_0 : List Rw := [(0, 1, .iconst 0, 0, .int 0), (1, 2, .istore_n 2, 0, .null), (2, 3, .iload_n 2, 0, .null), (3, 4, .aload_n 0, 0, .null), (4, 7, .getfield 32, 0, .null), (7, 10, .if_icmp .gt 25, 32, .null), (10, 11, .aload_n 0, 0, .null), (11, 14, .getfield 51, 0, .null), (14, 15, .iload_n 2, 0, .null), (15, 18, .ldc2_w 68, 0, .long 4611686018427387904), (18, 19, .lastore, 0, .null), (19, 20, .aload_n 0, 0, .null), (20, 23, .getfield 60, 0, .null), (23, 24, .iload_n 2, 0, .null), (24, 25, .iconst 0, 0, .int 0), (25, 26, .bastore, 0, .null), (26, 29, .iinc 2 1, 0, .null), (29, 32, .goto (-27), 2, .null), (32, 33, .aload_n 0, 0, .null), (33, 36, .getfield 54, 0, .null), (36, 37, .iconst 0, 0, .int 0), (37, 38, .iload_n 1, 0, .null), (38, 39, .iastore, 0, .null), (39, 40, .iconst 0, 0, .int 0), (40, 41, .istore_n 2, 0, .null), (41, 42, .iconst 0, 0, .int 0), (42, 43, .istore_n 3, 0, .null), (43, 44, .iload_n 3, 0, .null), (44, 45, .aload_n 0, 0, .null), (45, 48, .getfield 32, 0, .null), (48, 51, .if_icmp .gt 45, 93, .null), (51, 52, .aload_n 0, 0, .null), (52, 55, .getfield 54, 0, .null), (55, 56, .iload_n 2, 0, .null), (56, 57, .iaload, 0, .null), (57, 60, .ifCond .eq 36, 93, .null), (60, 61, .aload_n 0, 0, .null), (61, 64, .getfield 60, 0, .null), (64, 65, .iload_n 2, 0, .null), (65, 66, .iconst 1, 0, .int 1), (66, 67, .bastore, 0, .null), (67, 68, .aload_n 0, 0, .null), (68, 69, .iload_n 2, 0, .null), (69, 72, .invokevirtual 135, 0, .null), (72, 73, .aload_n 0, 0, .null), (73, 76, .invokevirtual 138, 0, .null), (76, 77, .istore_n 2, 0, .null), (77, 78, .aload_n 0, 0, .null), (78, 79, .aload_n 0, 0, .null), (79, 82, .getfield 51, 0, .null), (82, 83, .iload_n 2, 0, .null), (83, 84, .laload, 0, .null), (84, 87, .invokevirtual 141, 0, .null), (87, 90, .iinc 3 1, 0, .null), (90, 93, .goto (-47), 43, .null), (93, 94, .iconst 0, 0, .int 0), (94, 95, .istore_n 3, 0, .null), (95, 96, .iload_n 3, 0, .null), (96, 97, .aload_n 0, 0, .null), (97, 100, .getfield 32, 0, .null)]
def ct73_1 : List Rw := [(100, 103, .if_icmp .gt 37, 137, .null), (103, 104, .iload_n 2, 0, .null), (104, 107, .ifCond .eq 33, 137, .null), (107, 108, .aload_n 0, 0, .null), (108, 111, .getfield 57, 0, .null), (111, 112, .iload_n 2, 0, .null), (112, 113, .iaload, 0, .null), (113, 115, .istore 4, 0, .null), (115, 116, .aload_n 0, 0, .null), (116, 119, .getfield 54, 0, .null), (119, 120, .iload_n 2, 0, .null), (120, 121, .aload_n 0, 0, .null), (121, 124, .getfield 54, 0, .null), (124, 126, .iload 4, 0, .null), (126, 127, .iaload, 0, .null), (127, 128, .iastore, 0, .null), (128, 130, .iload 4, 0, .null), (130, 131, .istore_n 2, 0, .null), (131, 134, .iinc 3 1, 0, .null), (134, 137, .goto (-39), 95, .null), (137, 138, .return_, 0, .null)]
def ct73 : List Rw := ct73_0 ++ ct73_1
def ct74 : List Rw := [(0, 1, .aload_n 0, 0, .null), (1, 4, .getfield 54, 0, .null), (4, 5, .iload_n 1, 0, .null), (5, 6, .iaload, 0, .null), (6, 7, .istore_n 2, 0, .null), (7, 8, .iconst 1, 0, .int 1), (8, 9, .istore_n 3, 0, .null), (9, 10, .iload_n 3, 0, .null), (10, 11, .aload_n 0, 0, .null), (11, 14, .getfield 32, 0, .null), (14, 17, .if_icmp .gt 79, 93, .null), (17, 18, .aload_n 0, 0, .null), (18, 21, .getfield 60, 0, .null), (21, 22, .iload_n 3, 0, .null), (22, 23, .baload, 0, .null), (23, 26, .ifCond .eq 6, 29, .null), (26, 29, .goto 61, 87, .null), (29, 30, .aload_n 0, 0, .null), (30, 33, .getfield 41, 0, .null), (33, 34, .iload_n 2, 0, .null), (34, 35, .iconst 1, 0, .int 1), (35, 36, .isub, 0, .null), (36, 38, .bipush 12, 0, .int 12), (38, 39, .imul, 0, .null), (39, 40, .iload_n 3, 0, .null), (40, 41, .iadd, 0, .null), (41, 42, .iconst 1, 0, .int 1), (42, 43, .isub, 0, .null), (43, 44, .laload, 0, .null), (44, 45, .aload_n 0, 0, .null), (45, 48, .getfield 45, 0, .null), (48, 49, .iload_n 2, 0, .null), (49, 50, .laload, 0, .null), (50, 51, .lsub, 0, .null), (51, 52, .aload_n 0, 0, .null), (52, 55, .getfield 48, 0, .null), (55, 56, .iload_n 3, 0, .null), (56, 57, .laload, 0, .null), (57, 58, .lsub, 0, .null), (58, 60, .lstore 4, 0, .null), (60, 62, .lload 4, 0, .null), (62, 63, .aload_n 0, 0, .null), (63, 66, .getfield 51, 0, .null), (66, 67, .iload_n 3, 0, .null), (67, 68, .laload, 0, .null), (68, 69, .lcmp, 0, .null), (69, 72, .ifCond .ge 18, 87, .null), (72, 73, .aload_n 0, 0, .null), (73, 76, .getfield 51, 0, .null), (76, 77, .iload_n 3, 0, .null), (77, 79, .lload 4, 0, .null), (79, 80, .lastore, 0, .null), (80, 81, .aload_n 0, 0, .null), (81, 84, .getfield 57, 0, .null), (84, 85, .iload_n 3, 0, .null), (85, 86, .iload_n 1, 0, .null), (86, 87, .iastore, 0, .null), (87, 90, .iinc 3 1, 0, .null), (90, 93, .goto (-81), 9, .null), (93, 94, .return_, 0, .null)]
def ct75 : List Rw := [(0, 1, .iconst 0, 0, .int 0), (1, 2, .istore_n 1, 0, .null), (2, 3, .iconst 1, 0, .int 1), (3, 4, .istore_n 2, 0, .null), (4, 5, .iload_n 2, 0, .null), (5, 6, .aload_n 0, 0, .null), (6, 9, .getfield 32, 0, .null), (9, 12, .if_icmp .gt 36, 45, .null), (12, 13, .aload_n 0, 0, .null), (13, 16, .getfield 60, 0, .null), (16, 17, .iload_n 2, 0, .null), (17, 18, .baload, 0, .null), (18, 21, .ifCond .ne 21, 39, .null), (21, 22, .aload_n 0, 0, .null), (22, 25, .getfield 51, 0, .null), (25, 26, .iload_n 2, 0, .null), (26, 27, .laload, 0, .null), (27, 28, .aload_n 0, 0, .null), (28, 31, .getfield 51, 0, .null), (31, 32, .iload_n 1, 0, .null), (32, 33, .laload, 0, .null), (33, 34, .lcmp, 0, .null), (34, 37, .ifCond .ge 5, 39, .null), (37, 38, .iload_n 2, 0, .null), (38, 39, .istore_n 1, 0, .null), (39, 42, .iinc 2 1, 0, .null), (42, 45, .goto (-38), 4, .null), (45, 46, .iload_n 1, 0, .null), (46, 47, .ireturn, 0, .null)]
def ct76 : List Rw := [(0, 1, .iconst 0, 0, .int 0), (1, 2, .istore_n 3, 0, .null), (2, 3, .iload_n 3, 0, .null), (3, 4, .aload_n 0, 0, .null), (4, 7, .getfield 32, 0, .null), (7, 10, .if_icmp .gt 56, 63, .null), (10, 11, .aload_n 0, 0, .null), (11, 14, .getfield 60, 0, .null), (14, 15, .iload_n 3, 0, .null), (15, 16, .baload, 0, .null), (16, 19, .ifCond .eq 31, 47, .null), (19, 20, .aload_n 0, 0, .null), (20, 23, .getfield 45, 0, .null), (23, 24, .aload_n 0, 0, .null), (24, 27, .getfield 54, 0, .null), (27, 28, .iload_n 3, 0, .null), (28, 29, .iaload, 0, .null), (29, 30, .dup2, 0, .null), (30, 31, .laload, 0, .null), (31, 32, .lload_n 1, 0, .null), (32, 33, .ladd, 0, .null), (33, 34, .lastore, 0, .null), (34, 35, .aload_n 0, 0, .null), (35, 38, .getfield 48, 0, .null), (38, 39, .iload_n 3, 0, .null), (39, 40, .dup2, 0, .null), (40, 41, .laload, 0, .null), (41, 42, .lload_n 1, 0, .null), (42, 43, .lsub, 0, .null), (43, 44, .lastore, 0, .null), (44, 47, .goto 13, 57, .null), (47, 48, .aload_n 0, 0, .null), (48, 51, .getfield 51, 0, .null), (51, 52, .iload_n 3, 0, .null), (52, 53, .dup2, 0, .null), (53, 54, .laload, 0, .null), (54, 55, .lload_n 1, 0, .null), (55, 56, .lsub, 0, .null), (56, 57, .lastore, 0, .null), (57, 60, .iinc 3 1, 0, .null), (60, 63, .goto (-58), 2, .null), (63, 64, .return_, 0, .null)]
def ct77 : List Rw := [(0, 1, .aload_n 0, 0, .null), (1, 2, .iload_n 1, 0, .null), (2, 5, .putfield 21, 0, .null), (5, 6, .aload_n 0, 0, .null), (6, 7, .lload_n 2, 0, .null), (7, 10, .ldc2_w 145, 0, .long 256), (10, 11, .ldiv, 0, .null), (11, 12, .l2i, 0, .null), (12, 15, .putfield 15, 0, .null), (15, 16, .aload_n 0, 0, .null), (16, 17, .lload_n 2, 0, .null), (17, 20, .ldc2_w 145, 0, .long 256), (20, 21, .lrem, 0, .null), (21, 22, .l2i, 0, .null), (22, 25, .putfield 18, 0, .null), (25, 26, .iconst 1, 0, .int 1), (26, 28, .istore 4, 0, .null), (28, 30, .iload 4, 0, .null), (30, 31, .aload_n 0, 0, .null), (31, 34, .getfield 32, 0, .null), (34, 37, .if_icmp .gt 47, 81, .null), (37, 38, .aload_n 0, 0, .null), (38, 41, .getfield 24, 0, .null), (41, 43, .iload 4, 0, .null), (43, 44, .iconst 1, 0, .int 1), (44, 45, .isub, 0, .null), (45, 46, .aload_n 0, 0, .null), (46, 49, .getfield 54, 0, .null), (49, 51, .iload 4, 0, .null), (51, 52, .iaload, 0, .null), (52, 55, .ifCond .ne 8, 60, .null), (55, 57, .bipush (-9), 0, .int (-9)), (57, 60, .goto 17, 74, .null), (60, 61, .aload_n 0, 0, .null), (61, 64, .getfield 38, 0, .null), (64, 65, .aload_n 0, 0, .null), (65, 68, .getfield 54, 0, .null), (68, 70, .iload 4, 0, .null), (70, 71, .iaload, 0, .null), (71, 72, .iconst 1, 0, .int 1), (72, 73, .isub, 0, .null), (73, 74, .iaload, 0, .null), (74, 75, .iastore, 0, .null), (75, 78, .iinc 4 1, 0, .null), (78, 81, .goto (-50), 28, .null), (81, 82, .return_, 0, .null)]
def ct78 : List Rw := [(0, 1, .aload_n 0, 0, .null), (1, 4, .invokespecial 3, 0, .null), (4, 5, .aload_n 0, 0, .null), (5, 7, .bipush 12, 0, .int 12), (7, 10, .anewarray 9, 0, .null), (10, 13, .putfield 11, 0, .null), (13, 14, .aload_n 0, 0, .null), (14, 15, .iconst 0, 0, .int 0), (15, 18, .putfield 17, 0, .null), (18, 19, .aload_n 0, 0, .null), (19, 21, .bipush 12, 0, .int 12), (21, 23, .newarray .int, 0, .null), (23, 26, .putfield 21, 0, .null), (26, 27, .aload_n 0, 0, .null), (27, 28, .iconst 3, 0, .int 3), (28, 31, .putfield 25, 0, .null), (31, 32, .aload_n 0, 0, .null), (32, 33, .iconst 3, 0, .int 3), (33, 35, .newarray .int, 0, .null), (35, 36, .dup, 0, .null), (36, 37, .iconst 0, 0, .int 0), (37, 38, .iconst 2, 0, .int 2), (38, 39, .iastore, 0, .null), (39, 40, .dup, 0, .null), (40, 41, .iconst 1, 0, .int 1), (41, 42, .iconst 2, 0, .int 2), (42, 43, .iastore, 0, .null), (43, 44, .dup, 0, .null), (44, 45, .iconst 2, 0, .int 2), (45, 46, .iconst 2, 0, .int 2), (46, 47, .iastore, 0, .null), (47, 50, .putfield 28, 0, .null), (50, 51, .aload_n 0, 0, .null), (51, 54, .new 31, 0, .null), (54, 55, .dup, 0, .null), (55, 58, .invokespecial 33, 0, .null), (58, 61, .putfield 34, 0, .null), (61, 62, .aload_n 0, 0, .null), (62, 63, .iconst 0, 0, .int 0), (63, 66, .putfield 38, 0, .null), (66, 67, .aload_n 0, 0, .null), (67, 70, .getfield 21, 0, .null), (70, 72, .bipush (-9), 0, .int (-9)), (72, 75, .invokestatic 42, 0, .null), (75, 76, .return_, 0, .null)]
def ct79_0 : List Rw := [(0, 1, .aload_n 0, 0, .null), (1, 4, .getfield 17, 0, .null), (4, 6, .bipush 12, 0, .int 12), (6, 9, .if_icmp .lt 6, 12, .null), (9, 11, .bipush (-4), 0, .int (-4)), (11, 12, .ireturn, 0, .null), (12, 13, .iload_n 1, 0, .null), (13, 14, .iconst 2, 0, .int 2), (14, 17, .if_icmp .ne 28, 42, .null), (17, 18, .aload_n 0, 0, .null), (18, 21, .getfield 11, 0, .null), (21, 22, .aload_n 0, 0, .null), (22, 25, .getfield 17, 0, .null), (25, 28, .new 48, 0, .null), (28, 29, .dup, 0, .null), (29, 30, .aload_n 0, 0, .null), (30, 33, .getfield 17, 0, .null), (33, 34, .iload_n 2, 0, .null), (34, 35, .iload_n 3, 0, .null), (35, 38, .invokespecial 50, 0, .null), (38, 39, .aastore, 0, .null), (39, 42, .goto 55, 94, .null), (42, 43, .iload_n 1, 0, .null), (43, 44, .iconst 1, 0, .int 1), (44, 47, .if_icmp .ne 28, 72, .null), (47, 48, .aload_n 0, 0, .null), (48, 51, .getfield 11, 0, .null), (51, 52, .aload_n 0, 0, .null), (52, 55, .getfield 17, 0, .null), (55, 58, .new 53, 0, .null), (58, 59, .dup, 0, .null), (59, 60, .aload_n 0, 0, .null), (60, 63, .getfield 17, 0, .null), (63, 64, .iload_n 2, 0, .null), (64, 65, .iload_n 3, 0, .null), (65, 68, .invokespecial 55, 0, .null), (68, 69, .aastore, 0, .null), (69, 72, .goto 25, 94, .null), (72, 73, .aload_n 0, 0, .null), (73, 76, .getfield 11, 0, .null), (76, 77, .aload_n 0, 0, .null), (77, 80, .getfield 17, 0, .null), (80, 83, .new 9, 0, .null), (83, 84, .dup, 0, .null), (84, 85, .aload_n 0, 0, .null), (85, 88, .getfield 17, 0, .null), (88, 89, .iload_n 2, 0, .null), (89, 90, .iload_n 3, 0, .null), (90, 93, .invokespecial 56, 0, .null), (93, 94, .aastore, 0, .null), (94, 95, .aload_n 0, 0, .null), (95, 96, .iconst 0, 0, .int 0), (96, 99, .putfield 38, 0, .null), (99, 100, .aload_n 0, 0, .null), (100, 101, .dup, 0, .null), (101, 104, .getfield 17, 0, .null), (104, 105, .iconst 1, 0, .int 1), (105, 106, .iadd, 0, .null), (106, 109, .putfield 17, 0, .null), (109, 110, .aload_n 0, 0, .null)]
def ct79_1 : List Rw := [(110, 113, .getfield 17, 0, .null), (113, 114, .iconst 1, 0, .int 1), (114, 115, .isub, 0, .null), (115, 116, .ireturn, 0, .null)]
def ct79 : List Rw := ct79_0 ++ ct79_1
def ct80 : List Rw := [(0, 1, .aload_n 1, 0, .null), (1, 4, .getfield 57, 0, .null), (4, 7, .ifCond .ne 11, 15, .null), (7, 8, .aload_n 1, 0, .null), (8, 11, .getfield 60, 0, .null), (11, 12, .iload_n 2, 0, .null), (12, 15, .if_icmp .ne 6, 18, .null), (15, 17, .bipush (-3), 0, .int (-3)), (17, 18, .ireturn, 0, .null), (18, 19, .iload_n 2, 0, .null), (19, 21, .bipush (-9), 0, .int (-9)), (21, 24, .if_icmp .ne 7, 28, .null), (24, 25, .iconst 0, 0, .int 0), (25, 28, .goto 10, 35, .null), (28, 29, .aload_n 1, 0, .null), (29, 30, .iload_n 2, 0, .null), (30, 31, .iconst 3, 0, .int 3), (31, 32, .irem, 0, .null), (32, 35, .invokevirtual 63, 0, .null), (35, 37, .istore 4, 0, .null), (37, 39, .iload 4, 0, .null), (39, 41, .bipush (-9), 0, .int (-9)), (41, 44, .if_icmp .eq 20, 61, .null), (44, 45, .iload_n 2, 0, .null), (45, 47, .bipush (-9), 0, .int (-9)), (47, 50, .if_icmp .eq 17, 64, .null), (50, 51, .aload_n 0, 0, .null), (51, 54, .getfield 21, 0, .null), (54, 55, .iload_n 2, 0, .null), (55, 56, .iaload, 0, .null), (56, 58, .bipush (-9), 0, .int (-9)), (58, 61, .if_icmp .eq 6, 64, .null), (61, 63, .bipush (-3), 0, .int (-3)), (63, 64, .ireturn, 0, .null), (64, 65, .aload_n 0, 0, .null), (65, 66, .aload_n 1, 0, .null), (66, 67, .iload_n 3, 0, .null), (67, 70, .invokevirtual 67, 0, .null), (70, 71, .aload_n 1, 0, .null), (71, 72, .iload_n 2, 0, .null), (72, 75, .putfield 60, 0, .null), (75, 76, .iload_n 2, 0, .null), (76, 78, .bipush (-9), 0, .int (-9)), (78, 81, .if_icmp .eq 13, 91, .null), (81, 82, .aload_n 0, 0, .null), (82, 85, .getfield 21, 0, .null), (85, 86, .iload_n 2, 0, .null), (86, 87, .aload_n 1, 0, .null), (87, 90, .getfield 71, 0, .null), (90, 91, .iastore, 0, .null), (91, 92, .aload_n 0, 0, .null), (92, 93, .iconst 0, 0, .int 0), (93, 96, .putfield 38, 0, .null), (96, 98, .iload 4, 0, .null), (98, 99, .ireturn, 0, .null)]
def ct81 : List Rw := [(0, 1, .aload_n 1, 0, .null), (1, 4, .getfield 60, 0, .null), (4, 6, .bipush (-9), 0, .int (-9)), (6, 9, .if_icmp .ne 4, 10, .null), (9, 10, .return_, 0, .null), (10, 11, .aload_n 0, 0, .null), (11, 14, .getfield 21, 0, .null), (14, 15, .aload_n 1, 0, .null), (15, 18, .getfield 60, 0, .null), (18, 20, .bipush (-9), 0, .int (-9)), (20, 21, .iastore, 0, .null), (21, 22, .iload_n 2, 0, .null), (22, 23, .aload_n 0, 0, .null), (23, 26, .getfield 25, 0, .null), (26, 29, .if_icmp .ge 8, 34, .null), (29, 30, .aload_n 1, 0, .null), (30, 31, .iconst 0, 0, .int 0), (31, 34, .putfield 74, 0, .null), (34, 35, .return_, 0, .null)]
def ct82 : List Rw := [(0, 1, .aload_n 1, 0, .null), (1, 4, .getfield 74, 0, .null), (4, 5, .iload_n 2, 0, .null), (5, 8, .if_icmp .ne 5, 10, .null), (8, 9, .iconst 0, 0, .int 0), (9, 10, .ireturn, 0, .null), (10, 11, .aload_n 1, 0, .null), (11, 12, .iload_n 2, 0, .null), (12, 15, .putfield 74, 0, .null), (15, 16, .aload_n 0, 0, .null), (16, 17, .iconst 0, 0, .int 0), (17, 20, .putfield 38, 0, .null), (20, 21, .iconst 1, 0, .int 1), (21, 22, .ireturn, 0, .null)]
def ct83 : List Rw := [(0, 1, .aload_n 1, 0, .null), (1, 4, .getfield 60, 0, .null), (4, 6, .bipush (-9), 0, .int (-9)), (6, 9, .if_icmp .eq 6, 12, .null), (9, 11, .bipush (-3), 0, .int (-3)), (11, 12, .ireturn, 0, .null), (12, 13, .aload_n 1, 0, .null), (13, 16, .getfield 57, 0, .null), (16, 17, .iload_n 2, 0, .null), (17, 20, .if_icmp .ne 5, 22, .null), (20, 21, .iconst 0, 0, .int 0), (21, 22, .ireturn, 0, .null), (22, 23, .aload_n 1, 0, .null), (23, 24, .iload_n 2, 0, .null), (24, 27, .putfield 57, 0, .null), (27, 28, .aload_n 0, 0, .null), (28, 29, .iconst 0, 0, .int 0), (29, 32, .putfield 38, 0, .null), (32, 33, .iconst 1, 0, .int 1), (33, 34, .ireturn, 0, .null)]
def ct84 : List Rw := [(0, 1, .iconst 0, 0, .int 0), (1, 2, .istore_n 1, 0, .null), (2, 3, .iconst 0, 0, .int 0), (3, 4, .istore_n 2, 0, .null), (4, 5, .iload_n 2, 0, .null), (5, 6, .iconst 4, 0, .int 4), (6, 9, .if_icmp .ge 23, 29, .null), (9, 10, .aload_n 0, 0, .null), (10, 11, .iload_n 2, 0, .null), (11, 14, .invokevirtual 77, 0, .null), (14, 17, .ifCond .eq 9, 23, .null), (17, 18, .iload_n 1, 0, .null), (18, 19, .iconst 1, 0, .int 1), (19, 20, .iload_n 2, 0, .null), (20, 21, .ishl, 0, .null), (21, 22, .ior, 0, .null), (22, 23, .istore_n 1, 0, .null), (23, 26, .iinc 2 1, 0, .null), (26, 29, .goto (-22), 4, .null), (29, 30, .iload_n 1, 0, .null), (30, 31, .ireturn, 0, .null)]
def ct85 : List Rw := [(0, 1, .iconst 0, 0, .int 0), (1, 2, .istore_n 2, 0, .null), (2, 3, .iload_n 2, 0, .null), (3, 4, .iconst 3, 0, .int 3), (4, 7, .if_icmp .ge 40, 44, .null), (7, 8, .aload_n 0, 0, .null), (8, 11, .getfield 21, 0, .null), (11, 12, .iload_n 1, 0, .null), (12, 13, .iconst 3, 0, .int 3), (13, 14, .imul, 0, .null), (14, 15, .iload_n 2, 0, .null), (15, 16, .iadd, 0, .null), (16, 17, .iaload, 0, .null), (17, 18, .istore_n 3, 0, .null), (18, 19, .iload_n 3, 0, .null), (19, 21, .bipush (-9), 0, .int (-9)), (21, 24, .if_icmp .eq 15, 36, .null), (24, 25, .aload_n 0, 0, .null), (25, 28, .getfield 11, 0, .null), (28, 29, .iload_n 3, 0, .null), (29, 30, .aaload, 0, .null), (30, 33, .getfield 74, 0, .null), (33, 36, .ifCond .ne 5, 38, .null), (36, 37, .iconst 0, 0, .int 0), (37, 38, .ireturn, 0, .null), (38, 41, .iinc 2 1, 0, .null), (41, 44, .goto (-39), 2, .null), (44, 45, .iconst 1, 0, .int 1), (45, 46, .ireturn, 0, .null)]
def ct86 : List Rw := [(0, 1, .aload_n 0, 0, .null), (1, 4, .invokevirtual 81, 0, .null), (4, 5, .istore_n 3, 0, .null), (5, 6, .iload_n 2, 0, .null), (6, 8, .istore 4, 0, .null), (8, 9, .iconst 0, 0, .int 0), (9, 11, .istore 5, 0, .null), (11, 12, .iconst 0, 0, .int 0), (12, 14, .istore 6, 0, .null), (14, 16, .iload 6, 0, .null), (16, 18, .bipush 12, 0, .int 12), (18, 21, .if_icmp .ge 69, 87, .null), (21, 22, .iload_n 3, 0, .null), (22, 24, .iload 6, 0, .null), (24, 25, .iconst 3, 0, .int 3), (25, 26, .idiv, 0, .null), (26, 27, .ishr, 0, .null), (27, 28, .iconst 1, 0, .int 1), (28, 29, .iand, 0, .null), (29, 32, .ifCond .ne 6, 35, .null), (32, 35, .goto 49, 81, .null), (35, 36, .aload_n 0, 0, .null), (36, 39, .getfield 11, 0, .null), (39, 40, .aload_n 0, 0, .null), (40, 43, .getfield 21, 0, .null), (43, 45, .iload 6, 0, .null), (45, 46, .iaload, 0, .null), (46, 47, .aaload, 0, .null), (47, 49, .astore 7, 0, .null), (49, 50, .aload_n 1, 0, .null), (50, 53, .getfield 85, 0, .null), (53, 55, .iload 4, 0, .null), (55, 56, .iaload, 0, .null), (56, 57, .aload_n 0, 0, .null), (57, 60, .getfield 28, 0, .null), (60, 62, .aload 7, 0, .null), (62, 65, .getfield 90, 0, .null), (65, 66, .iaload, 0, .null), (66, 69, .if_icmp .ge 12, 78, .null), (69, 71, .aload 7, 0, .null), (71, 72, .iconst 0, 0, .int 0), (72, 75, .putfield 74, 0, .null), (75, 78, .iinc 5 1, 0, .null), (78, 81, .iinc 4 1, 0, .null), (81, 84, .iinc 6 1, 0, .null), (84, 87, .goto (-70), 14, .null), (87, 88, .aload_n 0, 0, .null), (88, 89, .iconst 0, 0, .int 0), (89, 92, .putfield 38, 0, .null), (92, 94, .iload 5, 0, .null), (94, 95, .ireturn, 0, .null)]
def ct87 : List Rw := [(0, 1, .aload_n 0, 0, .null), (1, 4, .getfield 38, 0, .null), (4, 7, .ifCond .ne 23, 27, .null), (7, 8, .aload_n 0, 0, .null), (8, 11, .getfield 34, 0, .null), (11, 12, .aload_n 0, 0, .null), (12, 15, .getfield 11, 0, .null), (15, 16, .aload_n 0, 0, .null), (16, 19, .getfield 17, 0, .null), (19, 22, .invokevirtual 93, 0, .null), (22, 23, .aload_n 0, 0, .null), (23, 24, .iconst 1, 0, .int 1), (24, 27, .putfield 38, 0, .null), (27, 28, .aload_n 0, 0, .null), (28, 31, .getfield 34, 0, .null), (31, 32, .areturn, 0, .null)]
def ct88 : List Rw := [(0, 1, .iconst 0, 0, .int 0), (1, 2, .istore_n 1, 0, .null), (2, 3, .iconst 0, 0, .int 0), (3, 4, .istore_n 2, 0, .null), (4, 5, .iload_n 2, 0, .null), (5, 6, .aload_n 0, 0, .null), (6, 9, .getfield 17, 0, .null), (9, 12, .if_icmp .ge 29, 38, .null), (12, 13, .iload_n 1, 0, .null), (13, 14, .aload_n 0, 0, .null), (14, 17, .getfield 11, 0, .null), (17, 18, .iload_n 2, 0, .null), (18, 19, .aaload, 0, .null), (19, 22, .getfield 74, 0, .null), (22, 25, .ifCond .eq 7, 29, .null), (25, 26, .iconst 1, 0, .int 1), (26, 29, .goto 4, 30, .null), (29, 30, .iconst 0, 0, .int 0), (30, 31, .iadd, 0, .null), (31, 32, .istore_n 1, 0, .null), (32, 35, .iinc 2 1, 0, .null), (35, 38, .goto (-31), 4, .null), (38, 39, .iload_n 1, 0, .null), (39, 40, .ireturn, 0, .null)]
def ct89 : List Rw := [(0, 1, .iconst 0, 0, .int 0), (1, 2, .istore_n 1, 0, .null), (2, 3, .iconst 0, 0, .int 0), (3, 4, .istore_n 2, 0, .null), (4, 5, .iload_n 2, 0, .null), (5, 6, .aload_n 0, 0, .null), (6, 9, .getfield 17, 0, .null), (9, 12, .if_icmp .ge 29, 38, .null), (12, 13, .iload_n 1, 0, .null), (13, 14, .aload_n 0, 0, .null), (14, 17, .getfield 11, 0, .null), (17, 18, .iload_n 2, 0, .null), (18, 19, .aaload, 0, .null), (19, 22, .getfield 57, 0, .null), (22, 25, .ifCond .eq 7, 29, .null), (25, 26, .iconst 1, 0, .int 1), (26, 29, .goto 4, 30, .null), (29, 30, .iconst 0, 0, .int 0), (30, 31, .iadd, 0, .null), (31, 32, .istore_n 1, 0, .null), (32, 35, .iinc 2 1, 0, .null), (35, 38, .goto (-31), 4, .null), (38, 39, .iload_n 1, 0, .null), (39, 40, .ireturn, 0, .null)]
def ct90 : List Rw := [(0, 1, .aload_n 0, 0, .null), (1, 4, .invokespecial 3, 0, .null), (4, 5, .aload_n 0, 0, .null), (5, 6, .iconst 3, 0, .int 3), (6, 9, .anewarray 11, 0, .null), (9, 12, .putfield 13, 0, .null), (12, 13, .aload_n 0, 0, .null), (13, 14, .iconst 0, 0, .int 0), (14, 17, .putfield 17, 0, .null), (17, 18, .aload_n 0, 0, .null), (18, 21, .new 21, 0, .null), (21, 22, .dup, 0, .null), (22, 25, .invokespecial 23, 0, .null), (25, 28, .putfield 24, 0, .null), (28, 29, .aload_n 0, 0, .null), (29, 32, .new 28, 0, .null), (32, 33, .dup, 0, .null), (33, 36, .invokespecial 30, 0, .null), (36, 39, .putfield 31, 0, .null), (39, 40, .aload_n 0, 0, .null), (40, 43, .new 35, 0, .null), (43, 44, .dup, 0, .null), (44, 47, .invokespecial 37, 0, .null), (47, 50, .putfield 38, 0, .null), (50, 51, .aload_n 0, 0, .null), (51, 52, .iconst 4, 0, .int 4), (52, 55, .anewarray 42, 0, .null), (55, 58, .putfield 44, 0, .null), (58, 59, .aload_n 0, 0, .null), (59, 62, .new 48, 0, .null), (62, 63, .dup, 0, .null), (63, 66, .invokespecial 50, 0, .null), (66, 69, .putfield 51, 0, .null), (69, 70, .aload_n 0, 0, .null), (70, 71, .iconst 0, 0, .int 0), (71, 74, .putfield 55, 0, .null), (74, 75, .iconst 0, 0, .int 0), (75, 76, .istore_n 1, 0, .null), (76, 77, .iload_n 1, 0, .null), (77, 78, .iconst 4, 0, .int 4), (78, 81, .if_icmp .ge 22, 100, .null), (81, 82, .aload_n 0, 0, .null), (82, 85, .getfield 44, 0, .null), (85, 86, .iload_n 1, 0, .null), (86, 89, .new 42, 0, .null), (89, 90, .dup, 0, .null), (90, 93, .invokespecial 58, 0, .null), (93, 94, .aastore, 0, .null), (94, 97, .iinc 1 1, 0, .null), (97, 100, .goto (-21), 76, .null), (100, 101, .return_, 0, .null)]
def ct91 : List Rw := [(0, 1, .aload_n 0, 0, .null), (1, 2, .iload_n 1, 0, .null), (2, 3, .iload_n 2, 0, .null), (3, 4, .iload_n 3, 0, .null), (4, 6, .iload 4, 0, .null), (6, 9, .invokevirtual 59, 0, .null), (9, 11, .istore 5, 0, .null), (11, 13, .iload 5, 0, .null), (13, 16, .ifCond .eq 6, 19, .null), (16, 18, .iload 5, 0, .null), (18, 19, .ireturn, 0, .null), (19, 20, .aload_n 0, 0, .null), (20, 23, .getfield 24, 0, .null), (23, 24, .aload_n 0, 0, .null), (24, 27, .getfield 44, 0, .null), (27, 28, .iload_n 1, 0, .null), (28, 29, .aaload, 0, .null), (29, 30, .iload_n 3, 0, .null), (30, 32, .iload 4, 0, .null), (32, 35, .invokevirtual 63, 0, .null), (35, 37, .istore 6, 0, .null), (37, 39, .iload 6, 0, .null), (39, 41, .bipush (-9), 0, .int (-9)), (41, 44, .if_icmp .eq 9, 50, .null), (44, 46, .bipush (-100), 0, .int (-100)), (46, 48, .iload 6, 0, .null), (48, 49, .isub, 0, .null), (49, 50, .ireturn, 0, .null), (50, 51, .aload_n 0, 0, .null), (51, 54, .getfield 17, 0, .null), (54, 55, .iconst 3, 0, .int 3), (55, 58, .if_icmp .lt 6, 61, .null), (58, 60, .bipush (-4), 0, .int (-4)), (60, 61, .ireturn, 0, .null), (61, 62, .aload_n 0, 0, .null), (62, 65, .getfield 13, 0, .null), (65, 66, .aload_n 0, 0, .null), (66, 69, .getfield 17, 0, .null), (69, 72, .new 11, 0, .null), (72, 73, .dup, 0, .null), (73, 74, .aload_n 0, 0, .null), (74, 77, .getfield 24, 0, .null), (77, 80, .invokespecial 67, 0, .null), (80, 81, .aastore, 0, .null), (81, 82, .aload_n 0, 0, .null), (82, 83, .dup, 0, .null), (83, 86, .getfield 17, 0, .null), (86, 87, .iconst 1, 0, .int 1), (87, 88, .iadd, 0, .null), (88, 91, .putfield 17, 0, .null), (91, 92, .aload_n 0, 0, .null), (92, 95, .getfield 17, 0, .null), (95, 96, .iconst 1, 0, .int 1), (96, 97, .isub, 0, .null), (97, 98, .ireturn, 0, .null)]
def ct92 : List Rw := [(0, 1, .aload_n 0, 0, .null), (1, 2, .iload_n 1, 0, .null), (2, 5, .invokevirtual 70, 0, .null), (5, 8, .ifCond .ne 5, 10, .null), (8, 9, .iconst (-1), 0, .int (-1)), (9, 10, .ireturn, 0, .null), (10, 11, .aload_n 0, 0, .null), (11, 14, .getfield 13, 0, .null), (14, 15, .iload_n 1, 0, .null), (15, 16, .aaload, 0, .null), (16, 17, .astore_n 3, 0, .null), (17, 18, .iload_n 2, 0, .null), (18, 20, .bipush 10, 0, .int 10), (20, 23, .if_icmp .lt 24, 44, .null), (23, 24, .iload_n 2, 0, .null), (24, 26, .bipush 10, 0, .int 10), (26, 27, .isub, 0, .null), (27, 28, .aload_n 3, 0, .null), (28, 31, .getfield 74, 0, .null), (31, 34, .if_icmp .gt 13, 44, .null), (34, 35, .aload_n 3, 0, .null), (35, 38, .getfield 77, 0, .null), (38, 39, .iload_n 2, 0, .null), (39, 41, .bipush 10, 0, .int 10), (41, 42, .isub, 0, .null), (42, 43, .iaload, 0, .null), (43, 44, .ireturn, 0, .null), (44, 45, .iload_n 2, 0, .null), (45, 76, .tableswitch 51 0 3 #[31, 36, 41, 46], 0, .null), (76, 77, .aload_n 3, 0, .null), (77, 80, .getfield 74, 0, .null), (80, 81, .ireturn, 0, .null), (81, 82, .aload_n 3, 0, .null), (82, 85, .getfield 81, 0, .null), (85, 86, .ireturn, 0, .null), (86, 87, .aload_n 3, 0, .null), (87, 90, .getfield 84, 0, .null), (90, 91, .ireturn, 0, .null), (91, 92, .aload_n 3, 0, .null), (92, 95, .invokevirtual 87, 0, .null), (95, 96, .ireturn, 0, .null), (96, 98, .bipush (-2), 0, .int (-2)), (98, 99, .ireturn, 0, .null)]
def ct93 : List Rw := [(0, 1, .aload_n 0, 0, .null), (1, 2, .iload_n 1, 0, .null), (2, 3, .iload_n 2, 0, .null), (3, 6, .invokevirtual 91, 0, .null), (6, 9, .ifCond .ne 5, 11, .null), (9, 10, .iconst (-1), 0, .int (-1)), (10, 11, .ireturn, 0, .null), (11, 12, .iload_n 3, 0, .null), (12, 15, .ifCond .lt 8, 20, .null), (15, 16, .iload_n 3, 0, .null), (16, 17, .iconst 5, 0, .int 5), (17, 20, .if_icmp .lt 6, 23, .null), (20, 22, .bipush (-2), 0, .int (-2)), (22, 23, .ireturn, 0, .null), (23, 24, .aload_n 0, 0, .null), (24, 27, .getfield 13, 0, .null), (27, 28, .iload_n 1, 0, .null), (28, 29, .aaload, 0, .null), (29, 30, .iload_n 2, 0, .null), (30, 31, .iload_n 3, 0, .null), (31, 34, .invokevirtual 95, 0, .null), (34, 35, .ireturn, 0, .null)]
def ct94 : List Rw := [(0, 1, .aload_n 0, 0, .null), (1, 2, .iload_n 1, 0, .null), (2, 3, .iload_n 2, 0, .null), (3, 6, .invokevirtual 91, 0, .null), (6, 9, .ifCond .ne 5, 11, .null), (9, 10, .iconst (-1), 0, .int (-1)), (10, 11, .ireturn, 0, .null), (11, 12, .iload_n 3, 0, .null), (12, 15, .ifCond .lt 28, 40, .null), (15, 16, .iload_n 3, 0, .null), (16, 17, .iconst 4, 0, .int 4), (17, 20, .if_icmp .ge 23, 40, .null), (20, 22, .iload 4, 0, .null), (22, 25, .getstatic 99, 0, .null), (25, 26, .iload_n 3, 0, .null), (26, 27, .iaload, 0, .null), (27, 30, .if_icmp .lt 13, 40, .null), (30, 32, .iload 4, 0, .null), (32, 35, .getstatic 102, 0, .null), (35, 36, .iload_n 3, 0, .null), (36, 37, .iaload, 0, .null), (37, 40, .if_icmp .le 6, 43, .null), (40, 42, .bipush (-2), 0, .int (-2)), (42, 43, .ireturn, 0, .null), (43, 44, .aload_n 0, 0, .null), (44, 47, .getfield 13, 0, .null), (47, 48, .iload_n 1, 0, .null), (48, 49, .aaload, 0, .null), (49, 50, .iload_n 2, 0, .null), (50, 51, .iload_n 3, 0, .null), (51, 54, .invokevirtual 95, 0, .null), (54, 56, .istore 5, 0, .null), (56, 57, .aload_n 0, 0, .null), (57, 60, .getfield 13, 0, .null), (60, 61, .iload_n 1, 0, .null), (61, 62, .aaload, 0, .null), (62, 63, .iload_n 2, 0, .null), (63, 64, .iload_n 3, 0, .null), (64, 66, .iload 4, 0, .null), (66, 69, .invokevirtual 105, 0, .null), (69, 70, .aload_n 0, 0, .null), (70, 73, .getfield 31, 0, .null), (73, 76, .invokevirtual 109, 0, .null), (76, 78, .iload 5, 0, .null), (78, 79, .ireturn, 0, .null)]
def ct95 : List Rw := [(0, 1, .aload_n 0, 0, .null), (1, 2, .iload_n 1, 0, .null), (2, 5, .invokevirtual 70, 0, .null), (5, 8, .ifCond .eq 30, 35, .null), (8, 9, .iload_n 2, 0, .null), (9, 12, .ifCond .lt 26, 35, .null), (12, 13, .iload_n 2, 0, .null), (13, 14, .iconst 5, 0, .int 5), (14, 17, .if_icmp .ge 21, 35, .null), (17, 18, .iload_n 3, 0, .null), (18, 21, .invokestatic 112, 0, .null), (21, 24, .ifCond .eq 14, 35, .null), (24, 26, .iload 4, 0, .null), (26, 29, .ifCond .lt 9, 35, .null), (29, 31, .iload 4, 0, .null), (31, 32, .iconst 1, 0, .int 1), (32, 35, .if_icmp .le 7, 39, .null), (35, 38, .ldc2_w 115, 0, .long (-9223372036854775808)), (38, 39, .lreturn, 0, .null), (39, 40, .iload_n 2, 0, .null), (40, 41, .iconst 4, 0, .int 4), (41, 44, .if_icmp .ne 20, 61, .null), (44, 45, .aload_n 0, 0, .null), (45, 48, .getfield 31, 0, .null), (48, 49, .aload_n 0, 0, .null), (49, 52, .getfield 13, 0, .null), (52, 53, .iload_n 1, 0, .null), (53, 54, .aaload, 0, .null), (54, 55, .iload_n 3, 0, .null), (55, 57, .iload 4, 0, .null), (57, 60, .invokevirtual 117, 0, .null), (60, 61, .lreturn, 0, .null), (61, 62, .aload_n 0, 0, .null), (62, 65, .getfield 31, 0, .null), (65, 66, .aload_n 0, 0, .null), (66, 69, .getfield 13, 0, .null), (69, 70, .iload_n 1, 0, .null), (70, 71, .aaload, 0, .null), (71, 72, .iload_n 2, 0, .null), (72, 73, .iload_n 3, 0, .null), (73, 75, .iload 4, 0, .null), (75, 76, .iconst 0, 0, .int 0), (76, 79, .invokevirtual 121, 0, .null), (79, 80, .aload_n 0, 0, .null), (80, 83, .getfield 31, 0, .null), (83, 86, .invokevirtual 125, 0, .null), (86, 87, .lreturn, 0, .null)]
def ct96 : List Rw := [(0, 1, .aload_n 0, 0, .null), (1, 2, .iload_n 1, 0, .null), (2, 5, .invokevirtual 70, 0, .null), (5, 8, .ifCond .ne 5, 10, .null), (8, 9, .iconst (-1), 0, .int (-1)), (9, 10, .ireturn, 0, .null), (10, 11, .iload_n 2, 0, .null), (11, 14, .invokestatic 112, 0, .null), (14, 17, .ifCond .eq 12, 26, .null), (17, 18, .iload_n 3, 0, .null), (18, 21, .ifCond .lt 8, 26, .null), (21, 22, .iload_n 3, 0, .null), (22, 23, .iconst 1, 0, .int 1), (23, 26, .if_icmp .le 6, 29, .null), (26, 28, .bipush (-2), 0, .int (-2)), (28, 29, .ireturn, 0, .null), (29, 30, .aload_n 0, 0, .null), (30, 33, .getfield 31, 0, .null), (33, 34, .aload_n 0, 0, .null), (34, 37, .getfield 13, 0, .null), (37, 38, .iload_n 1, 0, .null), (38, 39, .aaload, 0, .null), (39, 40, .iconst 0, 0, .int 0), (40, 41, .iload_n 2, 0, .null), (41, 42, .iconst 0, 0, .int 0), (42, 43, .iconst 0, 0, .int 0), (43, 46, .invokevirtual 121, 0, .null), (46, 47, .aload_n 0, 0, .null), (47, 50, .getfield 31, 0, .null), (50, 53, .invokevirtual 129, 0, .null), (53, 55, .istore 4, 0, .null), (55, 56, .iload_n 3, 0, .null), (56, 59, .ifCond .ne 10, 66, .null), (59, 61, .iload 4, 0, .null), (61, 62, .iconst 2, 0, .int 2), (62, 63, .idiv, 0, .null), (63, 66, .goto 7, 70, .null), (66, 68, .iload 4, 0, .null), (68, 69, .iconst 2, 0, .int 2), (69, 70, .irem, 0, .null), (70, 71, .ireturn, 0, .null)]
def ct97 : List Rw := [(0, 1, .aload_n 0, 0, .null), (1, 2, .iload_n 1, 0, .null), (2, 3, .iload_n 2, 0, .null), (3, 6, .invokevirtual 91, 0, .null), (6, 9, .ifCond .eq 25, 31, .null), (9, 10, .iload_n 3, 0, .null), (10, 13, .invokestatic 112, 0, .null), (13, 16, .ifCond .eq 18, 31, .null), (16, 17, .aload_n 0, 0, .null), (17, 20, .getfield 13, 0, .null), (20, 21, .iload_n 1, 0, .null), (21, 22, .aaload, 0, .null), (22, 23, .iload_n 2, 0, .null), (23, 24, .iconst 0, 0, .int 0), (24, 27, .invokevirtual 95, 0, .null), (27, 28, .iconst 5, 0, .int 5), (28, 31, .if_icmp .lt 7, 35, .null), (31, 34, .ldc2_w 115, 0, .long (-9223372036854775808)), (34, 35, .lreturn, 0, .null), (35, 36, .aload_n 0, 0, .null), (36, 37, .aload_n 0, 0, .null), (37, 40, .getfield 13, 0, .null), (40, 41, .iload_n 1, 0, .null), (41, 42, .aaload, 0, .null), (42, 43, .iload_n 3, 0, .null), (43, 44, .iload_n 2, 0, .null), (44, 46, .bipush (-9), 0, .int (-9)), (46, 49, .invokevirtual 132, 0, .null), (49, 50, .lreturn, 0, .null)]
def ct98 : List Rw := [(0, 1, .aload_n 0, 0, .null), (1, 2, .iload_n 1, 0, .null), (2, 5, .invokevirtual 70, 0, .null), (5, 8, .ifCond .eq 23, 28, .null), (8, 10, .iload 4, 0, .null), (10, 11, .iconst (-1), 0, .int (-1)), (11, 14, .if_icmp .lt 17, 28, .null), (14, 16, .iload 4, 0, .null), (16, 17, .aload_n 0, 0, .null), (17, 20, .getfield 13, 0, .null), (20, 21, .iload_n 1, 0, .null), (21, 22, .aaload, 0, .null), (22, 25, .getfield 81, 0, .null), (25, 28, .if_icmp .lt 5, 30, .null), (28, 29, .iconst (-1), 0, .int (-1)), (29, 30, .ireturn, 0, .null), (30, 31, .iload_n 2, 0, .null), (31, 34, .ifCond .lt 16, 47, .null), (34, 35, .iload_n 2, 0, .null), (35, 37, .bipush 30, 0, .int 30), (37, 40, .if_icmp .gt 10, 47, .null), (40, 41, .iload_n 3, 0, .null), (41, 44, .invokestatic 112, 0, .null), (44, 47, .ifCond .ne 6, 50, .null), (47, 49, .bipush (-2), 0, .int (-2)), (49, 50, .ireturn, 0, .null), (50, 51, .aload_n 0, 0, .null), (51, 54, .getfield 31, 0, .null), (54, 55, .aload_n 0, 0, .null), (55, 58, .getfield 13, 0, .null), (58, 59, .iload_n 1, 0, .null), (59, 60, .aaload, 0, .null), (60, 61, .iconst 0, 0, .int 0), (61, 62, .iload_n 3, 0, .null), (62, 63, .iconst 0, 0, .int 0), (63, 64, .iconst 5, 0, .int 5), (64, 67, .invokevirtual 121, 0, .null), (67, 68, .aload_n 0, 0, .null), (68, 71, .getfield 31, 0, .null), (71, 72, .iload_n 2, 0, .null), (72, 75, .invokevirtual 136, 0, .null), (75, 77, .istore 5, 0, .null), (77, 79, .iload 4, 0, .null), (79, 82, .ifCond .ge 15, 94, .null), (82, 83, .aload_n 0, 0, .null), (83, 86, .getfield 31, 0, .null), (86, 88, .iload 5, 0, .null), (88, 91, .invokevirtual 140, 0, .null), (91, 94, .goto 14, 105, .null), (94, 95, .aload_n 0, 0, .null), (95, 98, .getfield 31, 0, .null), (98, 100, .iload 5, 0, .null), (100, 102, .iload 4, 0, .null), (102, 105, .invokevirtual 143, 0, .null), (105, 106, .ireturn, 0, .null)]
def ct99 : List Rw := [(0, 1, .aload_n 0, 0, .null), (1, 2, .iload_n 1, 0, .null), (2, 3, .iload_n 3, 0, .null), (3, 6, .invokevirtual 91, 0, .null), (6, 9, .ifCond .eq 25, 31, .null), (9, 10, .aload_n 0, 0, .null), (10, 11, .iload_n 2, 0, .null), (11, 12, .iload_n 3, 0, .null), (12, 15, .invokevirtual 91, 0, .null), (15, 18, .ifCond .eq 16, 31, .null), (18, 19, .iload_n 1, 0, .null), (19, 20, .iload_n 2, 0, .null), (20, 23, .if_icmp .eq 11, 31, .null), (23, 25, .iload 4, 0, .null), (25, 28, .invokestatic 112, 0, .null), (28, 31, .ifCond .ne 7, 35, .null), (31, 34, .ldc2_w 115, 0, .long (-9223372036854775808)), (34, 35, .lreturn, 0, .null), (35, 36, .aload_n 0, 0, .null), (36, 39, .getfield 13, 0, .null), (39, 40, .iload_n 1, 0, .null), (40, 41, .aaload, 0, .null), (41, 42, .iload_n 3, 0, .null), (42, 43, .iconst 0, 0, .int 0), (43, 46, .invokevirtual 95, 0, .null), (46, 49, .ifCond .le 18, 64, .null), (49, 50, .aload_n 0, 0, .null), (50, 53, .getfield 13, 0, .null), (53, 54, .iload_n 2, 0, .null), (54, 55, .aaload, 0, .null), (55, 56, .iload_n 3, 0, .null), (56, 57, .iconst 0, 0, .int 0), (57, 60, .invokevirtual 95, 0, .null), (60, 61, .iconst 5, 0, .int 5), (61, 64, .if_icmp .lt 7, 68, .null), (64, 67, .ldc2_w 115, 0, .long (-9223372036854775808)), (67, 68, .lreturn, 0, .null), (68, 69, .aload_n 0, 0, .null), (69, 70, .aload_n 0, 0, .null), (70, 73, .getfield 13, 0, .null), (73, 74, .iload_n 1, 0, .null), (74, 75, .aaload, 0, .null), (75, 77, .iload 4, 0, .null), (77, 79, .bipush (-9), 0, .int (-9)), (79, 80, .iload_n 3, 0, .null), (80, 83, .invokevirtual 132, 0, .null), (83, 84, .aload_n 0, 0, .null), (84, 85, .aload_n 0, 0, .null), (85, 88, .getfield 13, 0, .null), (88, 89, .iload_n 2, 0, .null), (89, 90, .aaload, 0, .null), (90, 92, .iload 4, 0, .null), (92, 93, .iload_n 3, 0, .null), (93, 95, .bipush (-9), 0, .int (-9)), (95, 98, .invokevirtual 132, 0, .null), (98, 99, .ladd, 0, .null), (99, 100, .lreturn, 0, .null)]
def ct100_0 : List Rw := [(0, 1, .aload_n 0, 0, .null), (1, 2, .iload_n 1, 0, .null), (2, 3, .iload_n 3, 0, .null), (3, 6, .invokevirtual 91, 0, .null), (6, 9, .ifCond .eq 32, 38, .null), (9, 10, .aload_n 0, 0, .null), (10, 11, .iload_n 2, 0, .null), (11, 12, .iload_n 3, 0, .null), (12, 15, .invokevirtual 91, 0, .null), (15, 18, .ifCond .eq 23, 38, .null), (18, 19, .aload_n 0, 0, .null), (19, 20, .iload_n 1, 0, .null), (20, 22, .iload 4, 0, .null), (22, 25, .invokevirtual 91, 0, .null), (25, 28, .ifCond .eq 13, 38, .null), (28, 29, .aload_n 0, 0, .null), (29, 30, .iload_n 2, 0, .null), (30, 32, .iload 4, 0, .null), (32, 35, .invokevirtual 91, 0, .null), (35, 38, .ifCond .ne 5, 40, .null), (38, 39, .iconst (-1), 0, .int (-1)), (39, 40, .ireturn, 0, .null), (40, 41, .iload_n 1, 0, .null), (41, 42, .iload_n 2, 0, .null), (42, 45, .if_icmp .eq 17, 59, .null), (45, 46, .iload_n 3, 0, .null), (46, 48, .iload 4, 0, .null), (48, 51, .if_icmp .eq 11, 59, .null), (51, 53, .iload 5, 0, .null), (53, 56, .invokestatic 112, 0, .null), (56, 59, .ifCond .ne 6, 62, .null), (59, 61, .bipush (-2), 0, .int (-2)), (61, 62, .ireturn, 0, .null), (62, 63, .aload_n 0, 0, .null), (63, 66, .getfield 13, 0, .null), (66, 67, .iload_n 1, 0, .null), (67, 68, .aaload, 0, .null), (68, 69, .iload_n 3, 0, .null), (69, 71, .iload 4, 0, .null), (71, 74, .invokestatic 146, 0, .null), (74, 77, .ifCond .eq 18, 92, .null), (77, 78, .aload_n 0, 0, .null), (78, 81, .getfield 13, 0, .null), (81, 82, .iload_n 2, 0, .null), (82, 83, .aaload, 0, .null), (83, 85, .iload 4, 0, .null), (85, 86, .iload_n 3, 0, .null), (86, 89, .invokestatic 146, 0, .null), (89, 92, .ifCond .ne 6, 95, .null), (92, 94, .bipush (-3), 0, .int (-3)), (94, 95, .ireturn, 0, .null), (95, 96, .aload_n 0, 0, .null), (96, 97, .aload_n 0, 0, .null), (97, 100, .getfield 13, 0, .null), (100, 101, .iload_n 1, 0, .null), (101, 102, .aaload, 0, .null), (102, 104, .iload 5, 0, .null), (104, 106, .iload 4, 0, .null), (106, 107, .iload_n 3, 0, .null), (107, 110, .invokevirtual 132, 0, .null)]
def ct100_1 : List Rw := [(110, 111, .lconst 0, 0, .long 0), (111, 112, .lcmp, 0, .null), (112, 115, .ifCond .le 27, 139, .null), (115, 116, .aload_n 0, 0, .null), (116, 117, .aload_n 0, 0, .null), (117, 120, .getfield 13, 0, .null), (120, 121, .iload_n 2, 0, .null), (121, 122, .aaload, 0, .null), (122, 124, .iload 5, 0, .null), (124, 125, .iload_n 3, 0, .null), (125, 127, .iload 4, 0, .null), (127, 130, .invokevirtual 132, 0, .null), (130, 131, .lconst 0, 0, .long 0), (131, 132, .lcmp, 0, .null), (132, 135, .ifCond .le 7, 139, .null), (135, 136, .iconst 1, 0, .int 1), (136, 139, .goto 4, 140, .null), (139, 140, .iconst 0, 0, .int 0), (140, 141, .ireturn, 0, .null)]
def ct100 : List Rw := ct100_0 ++ ct100_1
def ct101 : List Rw := [(0, 1, .iload_n 1, 0, .null), (1, 4, .ifCond .lt 26, 27, .null), (4, 5, .iload_n 1, 0, .null), (5, 6, .iconst 3, 0, .int 3), (6, 9, .if_icmp .ge 21, 27, .null), (9, 10, .iload_n 2, 0, .null), (10, 13, .invokestatic 150, 0, .null), (13, 16, .ifCond .eq 14, 27, .null), (16, 17, .iload_n 3, 0, .null), (17, 18, .iconst 1, 0, .int 1), (18, 21, .if_icmp .lt 9, 27, .null), (21, 22, .iload_n 3, 0, .null), (22, 24, .bipush 9, 0, .int 9), (24, 27, .if_icmp .le 6, 30, .null), (27, 29, .bipush (-2), 0, .int (-2)), (29, 30, .ireturn, 0, .null), (30, 31, .aload_n 0, 0, .null), (31, 34, .getfield 38, 0, .null), (34, 35, .iload_n 1, 0, .null), (35, 36, .iload_n 2, 0, .null), (36, 37, .iload_n 3, 0, .null), (37, 40, .invokevirtual 153, 0, .null), (40, 41, .ireturn, 0, .null)]
def ct102_0 : List Rw := [(0, 1, .aload_n 0, 0, .null), (1, 2, .iload_n 1, 0, .null), (2, 5, .invokevirtual 157, 0, .null), (5, 8, .ifCond .ne 5, 10, .null), (8, 9, .iconst (-1), 0, .int (-1)), (9, 10, .ireturn, 0, .null), (10, 11, .aload_n 0, 0, .null), (11, 14, .getfield 38, 0, .null), (14, 17, .getfield 160, 0, .null), (17, 18, .iload_n 1, 0, .null), (18, 19, .aaload, 0, .null), (19, 20, .astore_n 3, 0, .null), (20, 21, .iload_n 2, 0, .null), (21, 64, .tableswitch 126 0 6 #[43, 48, 53, 58, 71, 92, 113], 0, .null), (64, 65, .aload_n 3, 0, .null), (65, 68, .invokevirtual 164, 0, .null), (68, 69, .ireturn, 0, .null), (69, 70, .aload_n 3, 0, .null), (70, 73, .getfield 169, 0, .null), (73, 74, .ireturn, 0, .null), (74, 75, .aload_n 3, 0, .null), (75, 78, .getfield 172, 0, .null), (78, 79, .ireturn, 0, .null), (79, 80, .aload_n 3, 0, .null), (80, 83, .getfield 175, 0, .null), (83, 86, .ifCond .eq 7, 90, .null), (86, 87, .iconst 1, 0, .int 1), (87, 90, .goto 4, 91, .null), (90, 91, .iconst 0, 0, .int 0), (91, 92, .ireturn, 0, .null), (92, 93, .aload_n 3, 0, .null), (93, 96, .getfield 179, 0, .null), (96, 98, .bipush (-9), 0, .int (-9)), (98, 101, .if_icmp .ne 8, 106, .null), (101, 103, .bipush (-9), 0, .int (-9)), (103, 106, .goto 9, 112, .null), (106, 107, .aload_n 3, 0, .null), (107, 110, .getfield 179, 0, .null), (110, 111, .iconst 3, 0, .int 3), (111, 112, .idiv, 0, .null), (112, 113, .ireturn, 0, .null), (113, 114, .aload_n 3, 0, .null), (114, 117, .getfield 179, 0, .null), (117, 119, .bipush (-9), 0, .int (-9)), (119, 122, .if_icmp .ne 8, 127, .null), (122, 124, .bipush (-9), 0, .int (-9)), (124, 127, .goto 9, 133, .null), (127, 128, .aload_n 3, 0, .null), (128, 131, .getfield 179, 0, .null), (131, 132, .iconst 3, 0, .int 3), (132, 133, .irem, 0, .null), (133, 134, .ireturn, 0, .null), (134, 135, .aload_n 3, 0, .null), (135, 138, .getfield 182, 0, .null), (138, 141, .ifCond .eq 7, 145, .null), (141, 142, .iconst 1, 0, .int 1), (142, 145, .goto 4, 146, .null), (145, 146, .iconst 0, 0, .int 0), (146, 147, .ireturn, 0, .null), (147, 149, .bipush (-2), 0, .int (-2))]
def ct102_1 : List Rw := [(149, 150, .ireturn, 0, .null)]
def ct102 : List Rw := ct102_0 ++ ct102_1
def ct103 : List Rw := [(0, 1, .iload_n 1, 0, .null), (1, 4, .invokestatic 185, 0, .null), (4, 7, .ifCond .eq 10, 14, .null), (7, 8, .iload_n 2, 0, .null), (8, 11, .invokestatic 150, 0, .null), (11, 14, .ifCond .ne 5, 16, .null), (14, 15, .iconst (-1), 0, .int (-1)), (15, 16, .ireturn, 0, .null), (16, 17, .aload_n 0, 0, .null), (17, 20, .getfield 38, 0, .null), (20, 23, .getfield 188, 0, .null), (23, 24, .iload_n 1, 0, .null), (24, 25, .iconst 3, 0, .int 3), (25, 26, .imul, 0, .null), (26, 27, .iload_n 2, 0, .null), (27, 28, .iadd, 0, .null), (28, 29, .iaload, 0, .null), (29, 30, .ireturn, 0, .null)]
def ct104 : List Rw := [(0, 1, .aload_n 0, 0, .null), (1, 2, .iload_n 1, 0, .null), (2, 5, .invokevirtual 157, 0, .null), (5, 8, .ifCond .eq 10, 15, .null), (8, 9, .iload_n 2, 0, .null), (9, 12, .invokestatic 150, 0, .null), (12, 15, .ifCond .ne 5, 17, .null), (15, 16, .iconst (-1), 0, .int (-1)), (16, 17, .ireturn, 0, .null), (17, 18, .aload_n 0, 0, .null), (18, 21, .getfield 38, 0, .null), (21, 24, .getfield 160, 0, .null), (24, 25, .iload_n 1, 0, .null), (25, 26, .aaload, 0, .null), (26, 27, .iload_n 2, 0, .null), (27, 30, .invokevirtual 191, 0, .null), (30, 31, .ireturn, 0, .null)]
def ct105 : List Rw := [(0, 1, .aload_n 0, 0, .null), (1, 2, .iload_n 1, 0, .null), (2, 5, .invokevirtual 157, 0, .null), (5, 8, .ifCond .eq 23, 28, .null), (8, 9, .iload_n 2, 0, .null), (9, 11, .bipush (-9), 0, .int (-9)), (11, 14, .if_icmp .eq 19, 30, .null), (14, 15, .iload_n 2, 0, .null), (15, 18, .invokestatic 185, 0, .null), (18, 21, .ifCond .eq 10, 28, .null), (21, 22, .iload_n 3, 0, .null), (22, 25, .invokestatic 150, 0, .null), (25, 28, .ifCond .ne 5, 30, .null), (28, 29, .iconst (-1), 0, .int (-1)), (29, 30, .ireturn, 0, .null), (30, 32, .iload 4, 0, .null), (32, 35, .ifCond .lt 10, 42, .null), (35, 37, .iload 4, 0, .null), (37, 39, .bipush 12, 0, .int 12), (39, 42, .if_icmp .lt 6, 45, .null), (42, 44, .bipush (-2), 0, .int (-2)), (44, 45, .ireturn, 0, .null), (45, 46, .aload_n 0, 0, .null), (46, 49, .getfield 38, 0, .null), (49, 50, .aload_n 0, 0, .null), (50, 53, .getfield 38, 0, .null), (53, 56, .getfield 160, 0, .null), (56, 57, .iload_n 1, 0, .null), (57, 58, .aaload, 0, .null), (58, 59, .iload_n 2, 0, .null), (59, 61, .bipush (-9), 0, .int (-9)), (61, 64, .if_icmp .ne 8, 69, .null), (64, 66, .bipush (-9), 0, .int (-9)), (66, 69, .goto 8, 74, .null), (69, 70, .iload_n 2, 0, .null), (70, 71, .iconst 3, 0, .int 3), (71, 72, .imul, 0, .null), (72, 73, .iload_n 3, 0, .null), (73, 74, .iadd, 0, .null), (74, 76, .iload 4, 0, .null), (76, 79, .invokevirtual 194, 0, .null), (79, 80, .ireturn, 0, .null)]
def ct106 : List Rw := [(0, 1, .aload_n 0, 0, .null), (1, 2, .iload_n 1, 0, .null), (2, 5, .invokevirtual 157, 0, .null), (5, 8, .ifCond .ne 5, 10, .null), (8, 9, .iconst (-1), 0, .int (-1)), (9, 10, .ireturn, 0, .null), (10, 11, .aload_n 0, 0, .null), (11, 14, .getfield 38, 0, .null), (14, 15, .aload_n 0, 0, .null), (15, 18, .getfield 38, 0, .null), (18, 21, .getfield 160, 0, .null), (21, 22, .iload_n 1, 0, .null), (22, 23, .aaload, 0, .null), (23, 24, .iload_n 2, 0, .null), (24, 27, .invokevirtual 198, 0, .null), (27, 28, .ireturn, 0, .null)]
def ct107 : List Rw := [(0, 1, .aload_n 0, 0, .null), (1, 2, .iload_n 1, 0, .null), (2, 5, .invokevirtual 157, 0, .null), (5, 8, .ifCond .ne 5, 10, .null), (8, 9, .iconst (-1), 0, .int (-1)), (9, 10, .ireturn, 0, .null), (10, 11, .aload_n 0, 0, .null), (11, 14, .getfield 38, 0, .null), (14, 15, .aload_n 0, 0, .null), (15, 18, .getfield 38, 0, .null), (18, 21, .getfield 160, 0, .null), (21, 22, .iload_n 1, 0, .null), (22, 23, .aaload, 0, .null), (23, 24, .iload_n 2, 0, .null), (24, 27, .invokevirtual 202, 0, .null), (27, 28, .ireturn, 0, .null)]
def ct108 : List Rw := [(0, 1, .iload_n 1, 0, .null), (1, 4, .ifCond .lt 9, 10, .null), (4, 5, .iload_n 1, 0, .null), (5, 7, .bipush 12, 0, .int 12), (7, 10, .if_icmp .le 6, 13, .null), (10, 12, .bipush (-2), 0, .int (-2)), (12, 13, .ireturn, 0, .null), (13, 14, .aload_n 0, 0, .null), (14, 17, .getfield 38, 0, .null), (17, 20, .getfield 205, 0, .null), (20, 21, .istore_n 2, 0, .null), (21, 22, .aload_n 0, 0, .null), (22, 25, .getfield 38, 0, .null), (25, 26, .iload_n 1, 0, .null), (26, 29, .putfield 205, 0, .null), (29, 30, .iload_n 2, 0, .null), (30, 31, .ireturn, 0, .null)]
def ct109 : List Rw := [(0, 1, .iload_n 1, 0, .null), (1, 4, .invokestatic 150, 0, .null), (4, 7, .ifCond .ne 5, 9, .null), (7, 8, .iconst (-1), 0, .int (-1)), (8, 9, .ireturn, 0, .null), (9, 10, .iload_n 2, 0, .null), (10, 13, .ifCond .lt 9, 19, .null), (13, 14, .iload_n 2, 0, .null), (14, 16, .bipush 12, 0, .int 12), (16, 19, .if_icmp .le 6, 22, .null), (19, 21, .bipush (-2), 0, .int (-2)), (21, 22, .ireturn, 0, .null), (22, 23, .aload_n 0, 0, .null), (23, 26, .getfield 38, 0, .null), (26, 29, .getfield 208, 0, .null), (29, 30, .iload_n 1, 0, .null), (30, 31, .iaload, 0, .null), (31, 32, .istore_n 3, 0, .null), (32, 33, .aload_n 0, 0, .null), (33, 36, .getfield 38, 0, .null), (36, 39, .getfield 208, 0, .null), (39, 40, .iload_n 1, 0, .null), (40, 41, .iload_n 2, 0, .null), (41, 42, .iastore, 0, .null), (42, 43, .iload_n 3, 0, .null), (43, 44, .ireturn, 0, .null)]
def ct110 : List Rw := [(0, 1, .aload_n 0, 0, .null), (1, 4, .getfield 38, 0, .null), (4, 7, .invokevirtual 211, 0, .null), (7, 8, .ireturn, 0, .null)]
def ct111 : List Rw := [(0, 1, .aload_n 0, 0, .null), (1, 4, .getfield 38, 0, .null), (4, 7, .invokevirtual 214, 0, .null), (7, 8, .astore_n 2, 0, .null), (8, 9, .iload_n 1, 0, .null), (9, 40, .tableswitch 51 0 3 #[31, 36, 41, 46], 0, .null), (40, 41, .aload_n 2, 0, .null), (41, 44, .getfield 218, 0, .null), (44, 45, .ireturn, 0, .null), (45, 46, .aload_n 2, 0, .null), (46, 49, .getfield 223, 0, .null), (49, 50, .ireturn, 0, .null), (50, 51, .aload_n 2, 0, .null), (51, 54, .getfield 226, 0, .null), (54, 55, .ireturn, 0, .null), (55, 56, .aload_n 2, 0, .null), (56, 59, .getfield 227, 0, .null), (59, 60, .ireturn, 0, .null), (60, 62, .bipush (-2), 0, .int (-2)), (62, 63, .ireturn, 0, .null)]
def ct112 : List Rw := [(0, 1, .aload_n 0, 0, .null), (1, 2, .iload_n 1, 0, .null), (2, 5, .invokevirtual 157, 0, .null), (5, 8, .ifCond .ne 5, 10, .null), (8, 9, .iconst (-1), 0, .int (-1)), (9, 10, .ireturn, 0, .null), (10, 11, .aload_n 0, 0, .null), (11, 14, .getfield 38, 0, .null), (14, 17, .invokevirtual 214, 0, .null), (17, 20, .getfield 228, 0, .null), (20, 21, .iload_n 1, 0, .null), (21, 22, .iaload, 0, .null), (22, 23, .istore_n 2, 0, .null), (23, 24, .iload_n 2, 0, .null), (24, 26, .bipush (-9), 0, .int (-9)), (26, 29, .if_icmp .ne 8, 34, .null), (29, 31, .bipush (-9), 0, .int (-9)), (31, 34, .goto 13, 44, .null), (34, 35, .iload_n 2, 0, .null), (35, 36, .iconst 3, 0, .int 3), (36, 37, .idiv, 0, .null), (37, 39, .bipush 10, 0, .int 10), (39, 40, .imul, 0, .null), (40, 41, .iload_n 2, 0, .null), (41, 42, .iconst 3, 0, .int 3), (42, 43, .irem, 0, .null), (43, 44, .iadd, 0, .null), (44, 45, .ireturn, 0, .null)]
def ct113 : List Rw := [(0, 1, .aload_n 0, 0, .null), (1, 2, .iload_n 1, 0, .null), (2, 3, .iload_n 2, 0, .null), (3, 4, .iload_n 3, 0, .null), (4, 6, .iload 4, 0, .null), (6, 9, .invokevirtual 59, 0, .null), (9, 11, .istore 5, 0, .null), (11, 13, .iload 5, 0, .null), (13, 16, .ifCond .eq 6, 19, .null), (16, 18, .iload 5, 0, .null), (18, 19, .ireturn, 0, .null), (19, 20, .iconst 3, 0, .int 3), (20, 21, .aload_n 0, 0, .null), (21, 24, .getfield 38, 0, .null), (24, 27, .invokevirtual 211, 0, .null), (27, 30, .invokestatic 231, 0, .null), (30, 31, .imul, 0, .null), (31, 33, .istore 6, 0, .null), (33, 35, .iload 4, 0, .null), (35, 37, .iload 6, 0, .null), (37, 40, .if_icmp .lt 18, 55, .null), (40, 41, .aload_n 0, 0, .null), (41, 44, .getfield 44, 0, .null), (44, 45, .iload_n 1, 0, .null), (45, 46, .aaload, 0, .null), (46, 47, .iload_n 3, 0, .null), (47, 49, .iload 6, 0, .null), (49, 52, .invokevirtual 236, 0, .null), (52, 55, .ifCond .ne 6, 58, .null), (55, 57, .bipush (-2), 0, .int (-2)), (57, 58, .ireturn, 0, .null), (58, 59, .aload_n 0, 0, .null), (59, 62, .getfield 38, 0, .null), (62, 63, .aload_n 0, 0, .null), (63, 66, .getfield 44, 0, .null), (66, 67, .iload_n 1, 0, .null), (67, 68, .aaload, 0, .null), (68, 69, .iload_n 3, 0, .null), (69, 72, .invokevirtual 239, 0, .null), (72, 73, .ireturn, 0, .null)]
def ct114 : List Rw := [(0, 1, .aload_n 0, 0, .null), (1, 2, .iconst 0, 0, .int 0), (2, 5, .putfield 55, 0, .null), (5, 6, .iload_n 1, 0, .null), (6, 9, .invokestatic 243, 0, .null), (9, 12, .ifCond .ne 5, 14, .null), (12, 13, .iconst (-1), 0, .int (-1)), (13, 14, .ireturn, 0, .null), (14, 15, .iload_n 2, 0, .null), (15, 18, .invokestatic 246, 0, .null), (18, 21, .ifCond .eq 9, 27, .null), (21, 22, .iload_n 3, 0, .null), (22, 24, .bipush 60, 0, .int 60), (24, 27, .if_icmp .le 6, 30, .null), (27, 29, .bipush (-2), 0, .int (-2)), (29, 30, .ireturn, 0, .null), (30, 31, .iload_n 3, 0, .null), (31, 34, .ifCond .ge 9, 40, .null), (34, 35, .aload_n 0, 0, .null), (35, 36, .iconst 4, 0, .int 4), (36, 39, .invokevirtual 249, 0, .null), (39, 40, .ireturn, 0, .null), (40, 41, .aload_n 0, 0, .null), (41, 44, .getfield 44, 0, .null), (44, 45, .iload_n 1, 0, .null), (45, 46, .aaload, 0, .null), (46, 47, .iload_n 2, 0, .null), (47, 48, .iload_n 3, 0, .null), (48, 51, .invokevirtual 252, 0, .null), (51, 52, .iconst 1, 0, .int 1), (52, 53, .ireturn, 0, .null)]
def ct115 : List Rw := [(0, 1, .iload_n 1, 0, .null), (1, 4, .invokestatic 243, 0, .null), (4, 7, .ifCond .ne 5, 9, .null), (7, 8, .iconst (-1), 0, .int (-1)), (8, 9, .ireturn, 0, .null), (9, 10, .aload_n 0, 0, .null), (10, 13, .getfield 44, 0, .null), (13, 14, .iload_n 1, 0, .null), (14, 15, .aaload, 0, .null), (15, 18, .invokevirtual 256, 0, .null), (18, 21, .ifCond .eq 7, 25, .null), (21, 22, .iconst 0, 0, .int 0), (22, 25, .goto 4, 26, .null), (25, 26, .iconst 1, 0, .int 1), (26, 27, .istore_n 2, 0, .null), (27, 28, .aload_n 0, 0, .null), (28, 31, .getfield 44, 0, .null), (31, 32, .iload_n 1, 0, .null), (32, 33, .aaload, 0, .null), (33, 35, .bipush (-9), 0, .int (-9)), (35, 38, .putfield 260, 0, .null), (38, 39, .iload_n 2, 0, .null), (39, 40, .ireturn, 0, .null)]
def ct116 : List Rw := [(0, 1, .aload_n 0, 0, .null), (1, 2, .iconst 0, 0, .int 0), (2, 5, .putfield 55, 0, .null), (5, 6, .iload_n 1, 0, .null), (6, 9, .invokestatic 243, 0, .null), (9, 12, .ifCond .ne 5, 14, .null), (12, 13, .iconst (-1), 0, .int (-1)), (13, 14, .ireturn, 0, .null), (14, 15, .aload_n 0, 0, .null), (15, 18, .getfield 44, 0, .null), (18, 19, .iload_n 1, 0, .null), (19, 20, .aaload, 0, .null), (20, 23, .invokevirtual 256, 0, .null), (23, 26, .ifCond .eq 9, 32, .null), (26, 27, .aload_n 0, 0, .null), (27, 28, .iconst 1, 0, .int 1), (28, 31, .invokevirtual 249, 0, .null), (31, 32, .ireturn, 0, .null), (32, 33, .aload_n 0, 0, .null), (33, 36, .getfield 44, 0, .null), (36, 37, .iload_n 1, 0, .null), (37, 38, .aaload, 0, .null), (38, 39, .iload_n 2, 0, .null), (39, 40, .iconst 1, 0, .int 1), (40, 43, .invokevirtual 263, 0, .null), (43, 46, .ifCond .eq 9, 52, .null), (46, 47, .aload_n 0, 0, .null), (47, 48, .iconst 3, 0, .int 3), (48, 51, .invokevirtual 249, 0, .null), (51, 52, .ireturn, 0, .null), (52, 53, .aload_n 0, 0, .null), (53, 56, .getfield 44, 0, .null), (56, 57, .iload_n 1, 0, .null), (57, 58, .aaload, 0, .null), (58, 59, .iload_n 2, 0, .null), (59, 60, .iload_n 3, 0, .null), (60, 63, .invokevirtual 266, 0, .null), (63, 64, .iconst 1, 0, .int 1), (64, 65, .ireturn, 0, .null)]
def ct117 : List Rw := [(0, 1, .aload_n 0, 0, .null), (1, 2, .iconst 0, 0, .int 0), (2, 5, .putfield 55, 0, .null), (5, 6, .iload_n 1, 0, .null), (6, 9, .invokestatic 243, 0, .null), (9, 12, .ifCond .eq 10, 19, .null), (12, 13, .iload_n 3, 0, .null), (13, 16, .invokestatic 246, 0, .null), (16, 19, .ifCond .ne 7, 23, .null), (19, 22, .ldc2_w 115, 0, .long (-9223372036854775808)), (22, 23, .lreturn, 0, .null), (23, 24, .aload_n 0, 0, .null), (24, 25, .aload_n 0, 0, .null), (25, 28, .getfield 44, 0, .null), (28, 29, .iload_n 1, 0, .null), (29, 30, .aaload, 0, .null), (30, 31, .iload_n 3, 0, .null), (31, 34, .invokevirtual 269, 0, .null), (34, 37, .ifCond .eq 7, 41, .null), (37, 40, .ldc2_w 115, 0, .long (-9223372036854775808)), (40, 41, .lreturn, 0, .null), (41, 42, .aload_n 0, 0, .null), (42, 45, .getfield 44, 0, .null), (45, 46, .iload_n 1, 0, .null), (46, 47, .aaload, 0, .null), (47, 48, .iload_n 2, 0, .null), (48, 49, .iconst 1, 0, .int 1), (49, 52, .invokevirtual 263, 0, .null), (52, 55, .ifCond .eq 13, 65, .null), (55, 56, .aload_n 0, 0, .null), (56, 57, .iconst 3, 0, .int 3), (57, 60, .invokevirtual 249, 0, .null), (60, 61, .pop, 0, .null), (61, 64, .ldc2_w 115, 0, .long (-9223372036854775808)), (64, 65, .lreturn, 0, .null), (65, 66, .aload_n 0, 0, .null), (66, 69, .getfield 44, 0, .null), (69, 70, .iload_n 1, 0, .null), (70, 71, .aaload, 0, .null), (71, 74, .getfield 272, 0, .null), (74, 75, .iload_n 2, 0, .null), (75, 76, .iaload, 0, .null), (76, 77, .i2l, 0, .null), (77, 78, .lreturn, 0, .null)]
def ct118_0 : List Rw := [(0, 1, .aload_n 0, 0, .null), (1, 2, .iconst 0, 0, .int 0), (2, 5, .putfield 55, 0, .null), (5, 6, .iload_n 1, 0, .null), (6, 9, .invokestatic 243, 0, .null), (9, 12, .ifCond .eq 10, 19, .null), (12, 13, .iload_n 3, 0, .null), (13, 16, .invokestatic 243, 0, .null), (16, 19, .ifCond .ne 5, 21, .null), (19, 20, .iconst (-1), 0, .int (-1)), (20, 21, .ireturn, 0, .null), (21, 22, .aload_n 0, 0, .null), (22, 25, .getfield 44, 0, .null), (25, 26, .iload_n 1, 0, .null), (26, 27, .aaload, 0, .null), (27, 29, .astore 6, 0, .null), (29, 30, .aload_n 0, 0, .null), (30, 33, .getfield 44, 0, .null), (33, 34, .iload_n 3, 0, .null), (34, 35, .aaload, 0, .null), (35, 37, .astore 7, 0, .null), (37, 39, .aload 6, 0, .null), (39, 42, .invokevirtual 256, 0, .null), (42, 45, .ifCond .ne 11, 53, .null), (45, 47, .aload 7, 0, .null), (47, 50, .invokevirtual 256, 0, .null), (50, 53, .ifCond .eq 9, 59, .null), (53, 54, .aload_n 0, 0, .null), (54, 55, .iconst 1, 0, .int 1), (55, 58, .invokevirtual 249, 0, .null), (58, 59, .ireturn, 0, .null), (59, 61, .aload 6, 0, .null), (61, 64, .getfield 260, 0, .null), (64, 66, .aload 7, 0, .null), (66, 69, .getfield 260, 0, .null), (69, 72, .if_icmp .eq 9, 78, .null), (72, 73, .aload_n 0, 0, .null), (73, 74, .iconst 2, 0, .int 2), (74, 77, .invokevirtual 249, 0, .null), (77, 78, .ireturn, 0, .null), (78, 80, .iload 5, 0, .null), (80, 83, .ifCond .lt 26, 106, .null), (83, 85, .aload 6, 0, .null), (85, 86, .iload_n 2, 0, .null), (86, 88, .iload 5, 0, .null), (88, 91, .invokevirtual 263, 0, .null), (91, 94, .ifCond .ne 15, 106, .null), (94, 96, .aload 7, 0, .null), (96, 98, .iload 4, 0, .null), (98, 100, .iload 5, 0, .null), (100, 103, .invokevirtual 263, 0, .null), (103, 106, .ifCond .eq 9, 112, .null), (106, 107, .aload_n 0, 0, .null), (107, 108, .iconst 3, 0, .int 3), (108, 111, .invokevirtual 249, 0, .null), (111, 112, .ireturn, 0, .null), (112, 114, .aload 6, 0, .null), (114, 117, .getfield 272, 0, .null), (117, 118, .iload_n 2, 0, .null), (118, 120, .aload 7, 0, .null)]
def ct118_1 : List Rw := [(120, 123, .getfield 272, 0, .null), (123, 125, .iload 4, 0, .null), (125, 127, .iload 5, 0, .null), (127, 130, .invokestatic 275, 0, .null), (130, 132, .iload 5, 0, .null), (132, 133, .ireturn, 0, .null)]
def ct118 : List Rw := ct118_0 ++ ct118_1
def ct119 : List Rw := [(0, 1, .aload_n 0, 0, .null), (1, 2, .iload_n 1, 0, .null), (2, 5, .invokevirtual 157, 0, .null), (5, 8, .ifCond .ne 5, 10, .null), (8, 9, .iconst (-1), 0, .int (-1)), (9, 10, .ireturn, 0, .null), (10, 11, .aload_n 0, 0, .null), (11, 14, .getfield 38, 0, .null), (14, 17, .getfield 160, 0, .null), (17, 18, .iload_n 1, 0, .null), (18, 19, .aaload, 0, .null), (19, 20, .aload_n 0, 0, .null), (20, 23, .getfield 51, 0, .null), (23, 26, .invokevirtual 281, 0, .null), (26, 27, .ireturn, 0, .null)]
def ct120 : List Rw := [(0, 1, .aload_n 0, 0, .null), (1, 2, .iload_n 1, 0, .null), (2, 5, .invokevirtual 157, 0, .null), (5, 8, .ifCond .ne 5, 10, .null), (8, 9, .iconst (-1), 0, .int (-1)), (9, 10, .ireturn, 0, .null), (10, 11, .aload_n 0, 0, .null), (11, 14, .getfield 38, 0, .null), (14, 17, .getfield 160, 0, .null), (17, 18, .iload_n 1, 0, .null), (18, 19, .aaload, 0, .null), (19, 20, .aload_n 0, 0, .null), (20, 23, .getfield 51, 0, .null), (23, 26, .invokevirtual 285, 0, .null), (26, 27, .ireturn, 0, .null)]
def ct121 : List Rw := [(0, 1, .aload_n 0, 0, .null), (1, 2, .iconst 0, 0, .int 0), (2, 5, .putfield 55, 0, .null), (5, 6, .aload_n 0, 0, .null), (6, 7, .iload_n 1, 0, .null), (7, 10, .invokevirtual 157, 0, .null), (10, 13, .ifCond .ne 5, 15, .null), (13, 14, .iconst (-1), 0, .int (-1)), (14, 15, .ireturn, 0, .null), (15, 16, .iload_n 2, 0, .null), (16, 19, .ifCond .lt 8, 24, .null), (19, 20, .iload_n 2, 0, .null), (20, 21, .iconst 3, 0, .int 3), (21, 24, .if_icmp .lt 6, 27, .null), (24, 26, .bipush (-2), 0, .int (-2)), (26, 27, .ireturn, 0, .null), (27, 28, .aload_n 0, 0, .null), (28, 31, .getfield 38, 0, .null), (31, 34, .getfield 160, 0, .null), (34, 35, .iload_n 1, 0, .null), (35, 36, .aaload, 0, .null), (36, 37, .astore_n 3, 0, .null), (37, 38, .iload_n 2, 0, .null), (38, 41, .ifCond .eq 27, 65, .null), (41, 42, .iload_n 2, 0, .null), (42, 43, .iconst 1, 0, .int 1), (43, 46, .if_icmp .ne 10, 53, .null), (46, 47, .aload_n 3, 0, .null), (47, 50, .instanceof 288, 0, .null), (50, 53, .ifCond .ne 15, 65, .null), (53, 54, .iload_n 2, 0, .null), (54, 55, .iconst 2, 0, .int 2), (55, 58, .if_icmp .ne 14, 69, .null), (58, 59, .aload_n 3, 0, .null), (59, 62, .instanceof 290, 0, .null), (62, 65, .ifCond .eq 7, 69, .null), (65, 66, .iconst 1, 0, .int 1), (66, 69, .goto 4, 70, .null), (69, 70, .iconst 0, 0, .int 0), (70, 72, .istore 4, 0, .null), (72, 74, .iload 4, 0, .null), (74, 77, .ifCond .eq 7, 81, .null), (77, 78, .iconst 1, 0, .int 1), (78, 81, .goto 8, 86, .null), (81, 82, .aload_n 0, 0, .null), (82, 83, .iconst 2, 0, .int 2), (83, 86, .invokevirtual 249, 0, .null), (86, 87, .ireturn, 0, .null)]
def ct122 : List Rw := [(0, 1, .aload_n 0, 0, .null), (1, 4, .getfield 51, 0, .null), (4, 7, .getfield 292, 0, .null), (7, 8, .ireturn, 0, .null)]
def ct123 : List Rw := [(0, 1, .aload_n 0, 0, .null), (1, 4, .getfield 55, 0, .null), (4, 5, .ireturn, 0, .null)]
def ct124 : List Rw := [(0, 1, .iload_n 1, 0, .null), (1, 32, .tableswitch 60 0 3 #[31, 36, 44, 52], 0, .null), (32, 33, .aload_n 0, 0, .null), (33, 36, .getfield 17, 0, .null), (36, 37, .ireturn, 0, .null), (37, 38, .aload_n 0, 0, .null), (38, 41, .getfield 38, 0, .null), (41, 44, .getfield 295, 0, .null), (44, 45, .ireturn, 0, .null), (45, 46, .aload_n 0, 0, .null), (46, 49, .getfield 38, 0, .null), (49, 52, .invokevirtual 296, 0, .null), (52, 53, .ireturn, 0, .null), (53, 54, .aload_n 0, 0, .null), (54, 57, .getfield 38, 0, .null), (57, 60, .invokevirtual 299, 0, .null), (60, 61, .ireturn, 0, .null), (61, 63, .bipush (-2), 0, .int (-2)), (63, 64, .ireturn, 0, .null)]
def ct125 : List Rw := [(0, 1, .iload_n 1, 0, .null), (1, 4, .ifCond .lt 15, 16, .null), (4, 5, .iload_n 1, 0, .null), (5, 6, .aload_n 0, 0, .null), (6, 9, .getfield 17, 0, .null), (9, 12, .if_icmp .ge 7, 16, .null), (12, 13, .iconst 1, 0, .int 1), (13, 16, .goto 4, 17, .null), (16, 17, .iconst 0, 0, .int 0), (17, 18, .ireturn, 0, .null)]
def ct126 : List Rw := [(0, 1, .aload_n 0, 0, .null), (1, 2, .iload_n 1, 0, .null), (2, 5, .invokevirtual 70, 0, .null), (5, 8, .ifCond .eq 24, 29, .null), (8, 9, .iload_n 2, 0, .null), (9, 12, .ifCond .lt 20, 29, .null), (12, 13, .iload_n 2, 0, .null), (13, 14, .aload_n 0, 0, .null), (14, 17, .getfield 13, 0, .null), (17, 18, .iload_n 1, 0, .null), (18, 19, .aaload, 0, .null), (19, 22, .getfield 81, 0, .null), (22, 25, .if_icmp .ge 7, 29, .null), (25, 26, .iconst 1, 0, .int 1), (26, 29, .goto 4, 30, .null), (29, 30, .iconst 0, 0, .int 0), (30, 31, .ireturn, 0, .null)]
def ct127 : List Rw := [(0, 1, .iload_n 1, 0, .null), (1, 4, .ifCond .lt 18, 19, .null), (4, 5, .iload_n 1, 0, .null), (5, 6, .aload_n 0, 0, .null), (6, 9, .getfield 38, 0, .null), (9, 12, .getfield 295, 0, .null), (12, 15, .if_icmp .ge 7, 19, .null), (15, 16, .iconst 1, 0, .int 1), (16, 19, .goto 4, 20, .null), (19, 20, .iconst 0, 0, .int 0), (20, 21, .ireturn, 0, .null)]
def ct128 : List Rw := [(0, 1, .iload_n 0, 0, .null), (1, 2, .iconst 1, 0, .int 1), (2, 5, .if_icmp .lt 13, 15, .null), (5, 6, .iload_n 0, 0, .null), (6, 8, .bipush 12, 0, .int 12), (8, 11, .if_icmp .gt 7, 15, .null), (11, 12, .iconst 1, 0, .int 1), (12, 15, .goto 4, 16, .null), (15, 16, .iconst 0, 0, .int 0), (16, 17, .ireturn, 0, .null)]
def ct129 : List Rw := [(0, 1, .iload_n 0, 0, .null), (1, 4, .ifCond .lt 12, 13, .null), (4, 5, .iload_n 0, 0, .null), (5, 6, .iconst 4, 0, .int 4), (6, 9, .if_icmp .ge 7, 13, .null), (9, 10, .iconst 1, 0, .int 1), (10, 13, .goto 4, 14, .null), (13, 14, .iconst 0, 0, .int 0), (14, 15, .ireturn, 0, .null)]
def ct130 : List Rw := [(0, 1, .iload_n 0, 0, .null), (1, 4, .ifCond .lt 12, 13, .null), (4, 5, .iload_n 0, 0, .null), (5, 6, .iconst 3, 0, .int 3), (6, 9, .if_icmp .ge 7, 13, .null), (9, 10, .iconst 1, 0, .int 1), (10, 13, .goto 4, 14, .null), (13, 14, .iconst 0, 0, .int 0), (14, 15, .ireturn, 0, .null)]
def ct131 : List Rw := [(0, 1, .iload_n 0, 0, .null), (1, 4, .ifCond .lt 12, 13, .null), (4, 5, .iload_n 0, 0, .null), (5, 6, .iconst 4, 0, .int 4), (6, 9, .if_icmp .ge 7, 13, .null), (9, 10, .iconst 1, 0, .int 1), (10, 13, .goto 4, 14, .null), (13, 14, .iconst 0, 0, .int 0), (14, 15, .ireturn, 0, .null)]
def ct132 : List Rw := [(0, 1, .iload_n 0, 0, .null), (1, 4, .ifCond .lt 12, 13, .null), (4, 5, .iload_n 0, 0, .null), (5, 6, .iconst 3, 0, .int 3), (6, 9, .if_icmp .ge 7, 13, .null), (9, 10, .iconst 1, 0, .int 1), (10, 13, .goto 4, 14, .null), (13, 14, .iconst 0, 0, .int 0), (14, 15, .ireturn, 0, .null)]
def ct133 : List Rw := [(0, 1, .aload_n 0, 0, .null), (1, 2, .iload_n 1, 0, .null), (2, 5, .putfield 55, 0, .null), (5, 7, .bipush (-10), 0, .int (-10)), (7, 8, .iload_n 1, 0, .null), (8, 9, .isub, 0, .null), (9, 10, .ireturn, 0, .null)]
def ct134 : List Rw := [(0, 1, .aload_n 1, 0, .null), (1, 4, .invokevirtual 256, 0, .null), (4, 7, .ifCond .eq 9, 13, .null), (7, 8, .aload_n 0, 0, .null), (8, 9, .iconst 1, 0, .int 1), (9, 12, .invokevirtual 249, 0, .null), (12, 13, .ireturn, 0, .null), (13, 14, .aload_n 1, 0, .null), (14, 17, .getfield 260, 0, .null), (17, 18, .iload_n 2, 0, .null), (18, 21, .if_icmp .ne 7, 25, .null), (21, 22, .iconst 0, 0, .int 0), (22, 25, .goto 8, 30, .null), (25, 26, .aload_n 0, 0, .null), (26, 27, .iconst 2, 0, .int 2), (27, 30, .invokevirtual 249, 0, .null), (30, 31, .ireturn, 0, .null)]
def ct135 : List Rw := [(0, 1, .aload_n 0, 0, .null), (1, 2, .iconst 0, 0, .int 0), (2, 5, .putfield 55, 0, .null), (5, 6, .iload_n 1, 0, .null), (6, 9, .invokestatic 243, 0, .null), (9, 12, .ifCond .ne 5, 14, .null), (12, 13, .iconst (-1), 0, .int (-1)), (13, 14, .ireturn, 0, .null), (14, 15, .iload_n 2, 0, .null), (15, 18, .invokestatic 246, 0, .null), (18, 21, .ifCond .ne 6, 24, .null), (21, 23, .bipush (-2), 0, .int (-2)), (23, 24, .ireturn, 0, .null), (24, 25, .aload_n 0, 0, .null), (25, 26, .aload_n 0, 0, .null), (26, 29, .getfield 44, 0, .null), (29, 30, .iload_n 1, 0, .null), (30, 31, .aaload, 0, .null), (31, 32, .iload_n 2, 0, .null), (32, 35, .invokevirtual 269, 0, .null), (35, 37, .istore 5, 0, .null), (37, 39, .iload 5, 0, .null), (39, 42, .ifCond .eq 6, 45, .null), (42, 44, .iload 5, 0, .null), (44, 45, .ireturn, 0, .null), (45, 47, .iload 4, 0, .null), (47, 50, .ifCond .ge 9, 56, .null), (50, 51, .aload_n 0, 0, .null), (51, 52, .iconst 4, 0, .int 4), (52, 55, .invokevirtual 249, 0, .null), (55, 56, .ireturn, 0, .null), (56, 57, .aload_n 0, 0, .null), (57, 60, .getfield 44, 0, .null), (60, 61, .iload_n 1, 0, .null), (61, 62, .aaload, 0, .null), (62, 63, .iload_n 3, 0, .null), (63, 65, .iload 4, 0, .null), (65, 68, .invokevirtual 263, 0, .null), (68, 71, .ifCond .eq 11, 79, .null), (71, 72, .aload_n 0, 0, .null), (72, 73, .iconst 3, 0, .int 3), (73, 76, .invokevirtual 249, 0, .null), (76, 79, .goto 4, 80, .null), (79, 80, .iconst 0, 0, .int 0), (80, 81, .ireturn, 0, .null)]
def ct136 : List Rw := [(0, 1, .aload_n 0, 0, .null), (1, 4, .getfield 31, 0, .null), (4, 5, .aload_n 1, 0, .null), (5, 6, .iconst 0, 0, .int 0), (6, 7, .iload_n 2, 0, .null), (7, 8, .iconst 0, 0, .int 0), (8, 9, .iconst 1, 0, .int 1), (9, 12, .invokevirtual 121, 0, .null), (12, 13, .aload_n 0, 0, .null), (13, 16, .getfield 31, 0, .null), (16, 17, .iload_n 3, 0, .null), (17, 19, .iload 4, 0, .null), (19, 22, .invokevirtual 302, 0, .null), (22, 23, .lreturn, 0, .null)]
def ct137 : List Rw := [(0, 1, .aload_n 0, 0, .null), (1, 2, .iload_n 1, 0, .null), (2, 3, .iconst 0, 0, .int 0), (3, 6, .invokevirtual 95, 0, .null), (6, 9, .ifCond .le 17, 23, .null), (9, 10, .aload_n 0, 0, .null), (10, 11, .iload_n 2, 0, .null), (11, 12, .iconst 0, 0, .int 0), (12, 15, .invokevirtual 95, 0, .null), (15, 16, .iconst 5, 0, .int 5), (16, 19, .if_icmp .ge 7, 23, .null), (19, 20, .iconst 1, 0, .int 1), (20, 23, .goto 4, 24, .null), (23, 24, .iconst 0, 0, .int 0), (24, 25, .ireturn, 0, .null)]
def ct138_0 : List Rw := [(0, 1, .aload_n 0, 0, .null), (1, 4, .invokespecial 1, 0, .null), (4, 5, .aload_n 0, 0, .null), (5, 6, .iconst 3, 0, .int 3), (6, 8, .newarray .int, 0, .null), (8, 11, .putfield 7, 0, .null), (11, 12, .aload_n 0, 0, .null), (12, 13, .iconst 3, 0, .int 3), (13, 15, .newarray .int, 0, .null), (15, 18, .putfield 13, 0, .null), (18, 19, .aload_n 0, 0, .null), (19, 20, .iconst 3, 0, .int 3), (20, 22, .newarray .int, 0, .null), (22, 25, .putfield 16, 0, .null), (25, 26, .aload_n 0, 0, .null), (26, 28, .bipush 15, 0, .int 15), (28, 30, .newarray .int, 0, .null), (30, 33, .putfield 19, 0, .null), (33, 34, .aload_n 0, 0, .null), (34, 36, .bipush 45, 0, .int 45), (36, 38, .newarray .int, 0, .null), (38, 41, .putfield 22, 0, .null), (41, 42, .aload_n 0, 0, .null), (42, 43, .iconst 5, 0, .int 5), (43, 45, .newarray .int, 0, .null), (45, 48, .putfield 25, 0, .null), (48, 49, .aload_n 0, 0, .null), (49, 51, .bipush 15, 0, .int 15), (51, 53, .newarray .int, 0, .null), (53, 56, .putfield 28, 0, .null), (56, 57, .aload_n 0, 0, .null), (57, 60, .sipush 216, 0, .int 216), (60, 62, .newarray .long, 0, .null), (62, 65, .putfield 31, 0, .null), (65, 66, .aload_n 0, 0, .null), (66, 69, .sipush 216, 0, .int 216), (69, 71, .newarray .long, 0, .null), (71, 74, .putfield 35, 0, .null), (74, 75, .aload_n 0, 0, .null), (75, 78, .sipush 216, 0, .int 216), (78, 80, .newarray .long, 0, .null), (80, 83, .putfield 38, 0, .null), (83, 84, .aload_n 0, 0, .null), (84, 87, .sipush 216, 0, .int 216), (87, 89, .newarray .long, 0, .null), (89, 92, .putfield 41, 0, .null), (92, 93, .aload_n 0, 0, .null), (93, 95, .bipush 12, 0, .int 12), (95, 97, .newarray .int, 0, .null), (97, 100, .putfield 44, 0, .null), (100, 101, .aload_n 0, 0, .null), (101, 103, .bipush 12, 0, .int 12), (103, 105, .newarray .int, 0, .null), (105, 108, .putfield 47, 0, .null), (108, 109, .aload_n 0, 0, .null), (109, 111, .bipush 12, 0, .int 12), (111, 113, .newarray .int, 0, .null), (113, 116, .putfield 50, 0, .null), (116, 117, .aload_n 0, 0, .null), (117, 119, .bipush 12, 0, .int 12)]
def ct138_1 : List Rw := [(119, 121, .newarray .boolean, 0, .null), (121, 124, .putfield 53, 0, .null), (124, 125, .aload_n 0, 0, .null), (125, 127, .bipush 12, 0, .int 12), (127, 129, .newarray .boolean, 0, .null), (129, 132, .putfield 57, 0, .null), (132, 133, .aload_n 0, 0, .null), (133, 135, .bipush 12, 0, .int 12), (135, 137, .newarray .int, 0, .null), (137, 140, .putfield 60, 0, .null), (140, 141, .aload_n 0, 0, .null), (141, 143, .bipush 12, 0, .int 12), (143, 145, .newarray .int, 0, .null), (145, 148, .putfield 63, 0, .null), (148, 149, .aload_n 0, 0, .null), (149, 150, .iconst 3, 0, .int 3), (150, 152, .newarray .int, 0, .null), (152, 155, .putfield 66, 0, .null), (155, 156, .aload_n 0, 0, .null), (156, 158, .ldc 69, 0, .int 53248), (158, 160, .newarray .int, 0, .null), (160, 163, .putfield 70, 0, .null), (163, 164, .aload_n 0, 0, .null), (164, 166, .bipush 12, 0, .int 12), (166, 168, .newarray .int, 0, .null), (168, 171, .putfield 73, 0, .null), (171, 172, .aload_n 0, 0, .null), (172, 173, .iconst 4, 0, .int 4), (173, 175, .newarray .int, 0, .null), (175, 178, .putfield 76, 0, .null), (178, 179, .aload_n 0, 0, .null), (179, 180, .iconst 4, 0, .int 4), (180, 182, .newarray .int, 0, .null), (182, 185, .putfield 79, 0, .null), (185, 186, .aload_n 0, 0, .null), (186, 189, .sipush 240, 0, .int 240), (189, 191, .newarray .int, 0, .null), (191, 194, .putfield 82, 0, .null), (194, 195, .aload_n 0, 0, .null), (195, 197, .bipush 60, 0, .int 60), (197, 199, .newarray .int, 0, .null), (199, 202, .putfield 85, 0, .null), (202, 203, .aload_n 0, 0, .null), (203, 204, .iconst 3, 0, .int 3), (204, 207, .putfield 88, 0, .null), (207, 208, .iconst 0, 0, .int 0), (208, 209, .istore_n 1, 0, .null), (209, 210, .iload_n 1, 0, .null), (210, 211, .iconst 3, 0, .int 3), (211, 214, .if_icmp .ge 16, 227, .null), (214, 215, .aload_n 0, 0, .null), (215, 218, .getfield 66, 0, .null), (218, 219, .iload_n 1, 0, .null), (219, 220, .iconst 2, 0, .int 2), (220, 221, .iastore, 0, .null), (221, 224, .iinc 1 1, 0, .null), (224, 227, .goto (-15), 209, .null), (227, 228, .iconst 0, 0, .int 0), (228, 229, .istore_n 1, 0, .null), (229, 230, .iload_n 1, 0, .null)]
def ct138_2 : List Rw := [(230, 232, .bipush 12, 0, .int 12), (232, 235, .if_icmp .ge 17, 249, .null), (235, 236, .aload_n 0, 0, .null), (236, 239, .getfield 63, 0, .null), (239, 240, .iload_n 1, 0, .null), (240, 242, .bipush (-9), 0, .int (-9)), (242, 243, .iastore, 0, .null), (243, 246, .iinc 1 1, 0, .null), (246, 249, .goto (-17), 229, .null), (249, 250, .iconst 0, 0, .int 0), (250, 251, .istore_n 1, 0, .null), (251, 252, .iload_n 1, 0, .null), (252, 253, .iconst 4, 0, .int 4), (253, 256, .if_icmp .ge 16, 269, .null), (256, 257, .aload_n 0, 0, .null), (257, 260, .getfield 76, 0, .null), (260, 261, .iload_n 1, 0, .null), (261, 262, .iconst (-1), 0, .int (-1)), (262, 263, .iastore, 0, .null), (263, 266, .iinc 1 1, 0, .null), (266, 269, .goto (-15), 251, .null), (269, 270, .return_, 0, .null)]
def ct138 : List Rw := ct138_0 ++ ct138_1 ++ ct138_2
def ct139 : List Rw := [(0, 1, .lload_n 0, 0, .null), (1, 2, .lload_n 2, 0, .null), (2, 3, .lcmp, 0, .null), (3, 6, .ifCond .lt 14, 17, .null), (6, 7, .lload_n 0, 0, .null), (7, 9, .lload 4, 0, .null), (9, 10, .lcmp, 0, .null), (10, 13, .ifCond .gt 7, 17, .null), (13, 14, .iconst 1, 0, .int 1), (14, 17, .goto 4, 18, .null), (17, 18, .iconst 0, 0, .int 0), (18, 19, .ireturn, 0, .null)]
def ct140 : List Rw := [(0, 3, .ldc2_w 92, 0, .long (-9223372036854775808)), (3, 4, .lreturn, 0, .null)]
def ct141 : List Rw := [(0, 1, .iload_n 0, 0, .null), (1, 2, .iload_n 1, 0, .null), (2, 3, .ishr, 0, .null), (3, 4, .iconst 1, 0, .int 1), (4, 5, .iand, 0, .null), (5, 6, .iconst 1, 0, .int 1), (6, 9, .if_icmp .ne 7, 13, .null), (9, 10, .iconst 1, 0, .int 1), (10, 13, .goto 4, 14, .null), (13, 14, .iconst 0, 0, .int 0), (14, 15, .ireturn, 0, .null)]
def ct142 : List Rw := [(0, 1, .iload_n 0, 0, .null), (1, 2, .iload_n 1, 0, .null), (2, 5, .if_icmp .ge 7, 9, .null), (5, 6, .iload_n 0, 0, .null), (6, 9, .goto 4, 10, .null), (9, 10, .iload_n 1, 0, .null), (10, 11, .ireturn, 0, .null)]
def ct143 : List Rw := [(0, 1, .aload_n 0, 0, .null), (1, 2, .iconst 0, 0, .int 0), (2, 5, .putfield 94, 0, .null), (5, 6, .iload_n 1, 0, .null), (6, 7, .ireturn, 0, .null)]
def ct144 : List Rw := [(0, 1, .aload_n 0, 0, .null), (1, 2, .iload_n 1, 0, .null), (2, 5, .putfield 94, 0, .null), (5, 7, .bipush (-10), 0, .int (-10)), (7, 8, .iload_n 1, 0, .null), (8, 9, .isub, 0, .null), (9, 10, .ireturn, 0, .null)]
def ct145 : List Rw := [(0, 1, .aload_n 0, 0, .null), (1, 2, .iload_n 1, 0, .null), (2, 5, .putfield 94, 0, .null), (5, 8, .invokestatic 97, 0, .null), (8, 9, .lreturn, 0, .null)]
def ct146_0 : List Rw := [(0, 1, .iload_n 1, 0, .null), (1, 4, .invokestatic 101, 0, .null), (4, 7, .ifCond .eq 9, 13, .null), (7, 8, .aload_n 0, 0, .null), (8, 9, .iconst (-1), 0, .int (-1)), (9, 12, .invokevirtual 105, 0, .null), (12, 13, .ireturn, 0, .null), (13, 14, .iload_n 2, 0, .null), (14, 15, .i2l, 0, .null), (15, 16, .lconst 0, 0, .long 0), (16, 19, .ldc2_w 109, 0, .long 2), (19, 22, .invokestatic 111, 0, .null), (22, 25, .ifCond .ne 10, 32, .null), (25, 26, .aload_n 0, 0, .null), (26, 28, .bipush (-2), 0, .int (-2)), (28, 31, .invokevirtual 105, 0, .null), (31, 32, .ireturn, 0, .null), (32, 33, .aload_n 0, 0, .null), (33, 36, .getfield 76, 0, .null), (36, 37, .iload_n 1, 0, .null), (37, 38, .iaload, 0, .null), (38, 41, .ifCond .lt 19, 57, .null), (41, 42, .aload_n 0, 0, .null), (42, 45, .getfield 79, 0, .null), (45, 46, .iload_n 1, 0, .null), (46, 47, .iaload, 0, .null), (47, 48, .iload_n 2, 0, .null), (48, 51, .if_icmp .eq 9, 57, .null), (51, 52, .aload_n 0, 0, .null), (52, 53, .iconst 2, 0, .int 2), (53, 56, .invokevirtual 115, 0, .null), (56, 57, .ireturn, 0, .null), (57, 58, .aload_n 0, 0, .null), (58, 61, .getfield 76, 0, .null), (61, 62, .iload_n 1, 0, .null), (62, 63, .iaload, 0, .null), (63, 66, .ifCond .ge 9, 72, .null), (66, 67, .aload_n 0, 0, .null), (67, 68, .iconst 1, 0, .int 1), (68, 71, .invokevirtual 115, 0, .null), (71, 72, .ireturn, 0, .null), (72, 74, .lload 4, 0, .null), (74, 75, .lconst 0, 0, .long 0), (75, 76, .lcmp, 0, .null), (76, 79, .ifCond .ge 9, 85, .null), (79, 80, .aload_n 0, 0, .null), (80, 81, .iconst 4, 0, .int 4), (81, 84, .invokevirtual 115, 0, .null), (84, 85, .ireturn, 0, .null), (85, 86, .iload_n 3, 0, .null), (86, 88, .lload 4, 0, .null), (88, 89, .aload_n 0, 0, .null), (89, 92, .getfield 76, 0, .null), (92, 93, .iload_n 1, 0, .null), (93, 94, .iaload, 0, .null), (94, 97, .invokestatic 118, 0, .null), (97, 100, .ifCond .eq 11, 108, .null), (100, 101, .aload_n 0, 0, .null), (101, 102, .iconst 3, 0, .int 3), (102, 105, .invokevirtual 115, 0, .null)]
def ct146_1 : List Rw := [(105, 108, .goto 4, 109, .null), (108, 109, .iconst 0, 0, .int 0), (109, 110, .ireturn, 0, .null)]
def ct146 : List Rw := ct146_0 ++ ct146_1
def ct147 : List Rw := [(0, 1, .iload_n 1, 0, .null), (1, 2, .i2l, 0, .null), (2, 3, .lconst 0, 0, .long 0), (3, 4, .aload_n 0, 0, .null), (4, 7, .getfield 122, 0, .null), (7, 8, .i2l, 0, .null), (8, 9, .lconst 1, 0, .long 1), (9, 10, .lsub, 0, .null), (10, 13, .invokestatic 111, 0, .null), (13, 16, .ifCond .ne 7, 20, .null), (16, 17, .iconst 1, 0, .int 1), (17, 20, .goto 4, 21, .null), (20, 21, .iconst 0, 0, .int 0), (21, 22, .ireturn, 0, .null)]
def ct148 : List Rw := [(0, 1, .aload_n 0, 0, .null), (1, 2, .iload_n 1, 0, .null), (2, 5, .invokevirtual 125, 0, .null), (5, 8, .ifCond .ne 21, 26, .null), (8, 9, .iload_n 2, 0, .null), (9, 10, .i2l, 0, .null), (10, 11, .lconst 0, 0, .long 0), (11, 12, .aload_n 0, 0, .null), (12, 15, .getfield 13, 0, .null), (15, 16, .iload_n 1, 0, .null), (16, 17, .iaload, 0, .null), (17, 18, .i2l, 0, .null), (18, 19, .lconst 1, 0, .long 1), (19, 20, .lsub, 0, .null), (20, 23, .invokestatic 111, 0, .null), (23, 26, .ifCond .ne 7, 30, .null), (26, 27, .iconst 1, 0, .int 1), (27, 30, .goto 4, 31, .null), (30, 31, .iconst 0, 0, .int 0), (31, 32, .ireturn, 0, .null)]
def ct149 : List Rw := [(0, 1, .aload_n 0, 0, .null), (1, 4, .getfield 22, 0, .null), (4, 6, .bipush 15, 0, .int 15), (6, 7, .iload_n 1, 0, .null), (7, 8, .imul, 0, .null), (8, 9, .iconst 5, 0, .int 5), (9, 10, .iload_n 2, 0, .null), (10, 11, .imul, 0, .null), (11, 12, .iadd, 0, .null), (12, 13, .iload_n 3, 0, .null), (13, 14, .iadd, 0, .null), (14, 15, .iaload, 0, .null), (15, 16, .ireturn, 0, .null)]
def ct150 : List Rw := [(0, 1, .aload_n 0, 0, .null), (1, 4, .getfield 128, 0, .null), (4, 5, .iload_n 3, 0, .null), (5, 8, .if_icmp .ge 22, 27, .null), (8, 9, .aload_n 0, 0, .null), (9, 12, .getfield 82, 0, .null), (12, 13, .iload_n 2, 0, .null), (13, 14, .aload_n 0, 0, .null), (14, 17, .getfield 128, 0, .null), (17, 18, .iadd, 0, .null), (18, 19, .iaload, 0, .null), (19, 20, .iload_n 1, 0, .null), (20, 23, .if_icmp .ne 7, 27, .null), (23, 24, .iconst 1, 0, .int 1), (24, 27, .goto 4, 28, .null), (27, 28, .iconst 0, 0, .int 0), (28, 30, .istore 4, 0, .null), (30, 31, .aload_n 0, 0, .null), (31, 32, .dup, 0, .null), (32, 35, .getfield 128, 0, .null), (35, 37, .iload 4, 0, .null), (37, 40, .ifCond .eq 7, 44, .null), (40, 41, .iconst 1, 0, .int 1), (41, 44, .goto 4, 45, .null), (44, 45, .iconst 0, 0, .int 0), (45, 46, .iadd, 0, .null), (46, 49, .putfield 128, 0, .null), (49, 51, .iload 4, 0, .null), (51, 52, .ireturn, 0, .null)]
def ct151_0 : List Rw := [(0, 1, .aload_n 0, 0, .null), (1, 4, .getfield 128, 0, .null), (4, 6, .istore 6, 0, .null), (6, 7, .iconst 0, 0, .int 0), (7, 9, .istore 7, 0, .null), (9, 10, .aload_n 0, 0, .null), (10, 13, .getfield 128, 0, .null), (13, 14, .iload_n 2, 0, .null), (14, 17, .if_icmp .ge 73, 87, .null), (17, 18, .aload_n 0, 0, .null), (18, 21, .getfield 128, 0, .null), (21, 23, .iload 6, 0, .null), (23, 24, .iload_n 3, 0, .null), (24, 25, .iadd, 0, .null), (25, 28, .if_icmp .ge 62, 87, .null), (28, 29, .aload_n 0, 0, .null), (29, 32, .getfield 82, 0, .null), (32, 33, .iload_n 1, 0, .null), (33, 34, .aload_n 0, 0, .null), (34, 37, .getfield 128, 0, .null), (37, 38, .iadd, 0, .null), (38, 39, .iaload, 0, .null), (39, 40, .i2l, 0, .null), (40, 43, .ldc2_w 131, 0, .long 48), (43, 46, .ldc2_w 133, 0, .long 57), (46, 49, .invokestatic 111, 0, .null), (49, 52, .ifCond .eq 38, 87, .null), (52, 54, .bipush 10, 0, .int 10), (54, 56, .iload 7, 0, .null), (56, 57, .imul, 0, .null), (57, 58, .aload_n 0, 0, .null), (58, 61, .getfield 82, 0, .null), (61, 62, .iload_n 1, 0, .null), (62, 63, .aload_n 0, 0, .null), (63, 66, .getfield 128, 0, .null), (66, 67, .iadd, 0, .null), (67, 68, .iaload, 0, .null), (68, 69, .iadd, 0, .null), (69, 71, .bipush 48, 0, .int 48), (71, 72, .isub, 0, .null), (72, 74, .istore 7, 0, .null), (74, 75, .aload_n 0, 0, .null), (75, 76, .dup, 0, .null), (76, 79, .getfield 128, 0, .null), (79, 80, .iconst 1, 0, .int 1), (80, 81, .iadd, 0, .null), (81, 84, .putfield 128, 0, .null), (84, 87, .goto (-75), 9, .null), (87, 88, .aload_n 0, 0, .null), (88, 91, .getfield 128, 0, .null), (91, 93, .iload 6, 0, .null), (93, 96, .if_icmp .le 22, 115, .null), (96, 98, .iload 7, 0, .null), (98, 99, .i2l, 0, .null), (99, 101, .iload 4, 0, .null), (101, 102, .i2l, 0, .null), (102, 104, .iload 5, 0, .null), (104, 105, .i2l, 0, .null), (105, 108, .invokestatic 111, 0, .null), (108, 111, .ifCond .eq 7, 115, .null)]
def ct151_1 : List Rw := [(111, 112, .iconst 1, 0, .int 1), (112, 115, .goto 4, 116, .null), (115, 116, .iconst 0, 0, .int 0), (116, 118, .istore 8, 0, .null), (118, 119, .aload_n 0, 0, .null), (119, 121, .iload 8, 0, .null), (121, 124, .ifCond .eq 10, 131, .null), (124, 125, .aload_n 0, 0, .null), (125, 128, .getfield 128, 0, .null), (128, 131, .goto 5, 133, .null), (131, 133, .iload 6, 0, .null), (133, 136, .putfield 128, 0, .null), (136, 137, .aload_n 0, 0, .null), (137, 139, .iload 7, 0, .null), (139, 142, .putfield 135, 0, .null), (142, 144, .iload 8, 0, .null), (144, 145, .ireturn, 0, .null)]
def ct151 : List Rw := ct151_0 ++ ct151_1
def ct152 : List Rw := [(0, 1, .aload_n 0, 0, .null), (1, 2, .iload_n 1, 0, .null), (2, 3, .iload_n 2, 0, .null), (3, 4, .iload_n 3, 0, .null), (4, 7, .invokevirtual 138, 0, .null), (7, 10, .ifCond .eq 22, 29, .null), (10, 11, .aload_n 0, 0, .null), (11, 12, .iload_n 2, 0, .null), (12, 13, .iload_n 3, 0, .null), (13, 15, .iload 4, 0, .null), (15, 17, .iload 5, 0, .null), (17, 19, .iload 6, 0, .null), (19, 22, .invokevirtual 142, 0, .null), (22, 25, .ifCond .eq 7, 29, .null), (25, 26, .iconst 1, 0, .int 1), (26, 29, .goto 4, 30, .null), (29, 30, .iconst 0, 0, .int 0), (30, 32, .istore 8, 0, .null), (32, 34, .iload 8, 0, .null), (34, 37, .ifCond .eq 14, 48, .null), (37, 38, .aload_n 0, 0, .null), (38, 41, .getfield 28, 0, .null), (41, 43, .iload 7, 0, .null), (43, 44, .aload_n 0, 0, .null), (44, 47, .getfield 135, 0, .null), (47, 48, .iastore, 0, .null), (48, 50, .iload 8, 0, .null), (50, 51, .ireturn, 0, .null)]
def ct153_0 : List Rw := [(0, 1, .iconst 5, 0, .int 5), (1, 2, .aload_n 0, 0, .null), (2, 5, .getfield 146, 0, .null), (5, 6, .imul, 0, .null), (6, 7, .istore_n 3, 0, .null), (7, 8, .aload_n 0, 0, .null), (8, 10, .bipush 115, 0, .int 115), (10, 11, .iload_n 1, 0, .null), (11, 12, .iload_n 2, 0, .null), (12, 13, .iconst 1, 0, .int 1), (13, 14, .iconst 0, 0, .int 0), (14, 15, .iconst 5, 0, .int 5), (15, 16, .iload_n 3, 0, .null), (16, 19, .invokevirtual 149, 0, .null), (19, 22, .ifCond .eq 61, 80, .null), (22, 23, .aload_n 0, 0, .null), (23, 25, .bipush 104, 0, .int 104), (25, 26, .iload_n 1, 0, .null), (26, 27, .iload_n 2, 0, .null), (27, 28, .iconst 2, 0, .int 2), (28, 29, .iconst 0, 0, .int 0), (29, 31, .bipush 12, 0, .int 12), (31, 32, .iload_n 3, 0, .null), (32, 33, .iconst 1, 0, .int 1), (33, 34, .iadd, 0, .null), (34, 37, .invokevirtual 149, 0, .null), (37, 40, .ifCond .eq 43, 80, .null), (40, 41, .aload_n 0, 0, .null), (41, 43, .bipush 101, 0, .int 101), (43, 44, .iload_n 1, 0, .null), (44, 45, .iload_n 2, 0, .null), (45, 46, .iconst 2, 0, .int 2), (46, 47, .iconst 0, 0, .int 0), (47, 49, .bipush 12, 0, .int 12), (49, 50, .iload_n 3, 0, .null), (50, 51, .iconst 2, 0, .int 2), (51, 52, .iadd, 0, .null), (52, 55, .invokevirtual 149, 0, .null), (55, 58, .ifCond .eq 25, 80, .null), (58, 59, .aload_n 0, 0, .null), (59, 61, .bipush 119, 0, .int 119), (61, 62, .iload_n 1, 0, .null), (62, 63, .iload_n 2, 0, .null), (63, 64, .iconst 1, 0, .int 1), (64, 65, .iconst 1, 0, .int 1), (65, 67, .bipush 9, 0, .int 9), (67, 68, .iload_n 3, 0, .null), (68, 69, .iconst 3, 0, .int 3), (69, 70, .iadd, 0, .null), (70, 73, .invokevirtual 149, 0, .null), (73, 76, .ifCond .eq 7, 80, .null), (76, 77, .iconst 1, 0, .int 1), (77, 80, .goto 4, 81, .null), (80, 81, .iconst 0, 0, .int 0), (81, 83, .istore 4, 0, .null), (83, 84, .aload_n 0, 0, .null), (84, 87, .getfield 28, 0, .null), (87, 88, .iload_n 3, 0, .null), (88, 89, .iconst 4, 0, .int 4), (89, 90, .iadd, 0, .null)]
def ct153_1 : List Rw := [(90, 91, .iconst 0, 0, .int 0), (91, 92, .iastore, 0, .null), (92, 93, .aload_n 0, 0, .null), (93, 94, .dup, 0, .null), (94, 97, .getfield 146, 0, .null), (97, 99, .iload 4, 0, .null), (99, 102, .ifCond .eq 7, 106, .null), (102, 103, .iconst 1, 0, .int 1), (103, 106, .goto 4, 107, .null), (106, 107, .iconst 0, 0, .int 0), (107, 108, .iadd, 0, .null), (108, 111, .putfield 146, 0, .null), (111, 113, .iload 4, 0, .null), (113, 114, .ireturn, 0, .null)]
def ct153 : List Rw := ct153_0 ++ ct153_1
def ct154 : List Rw := [(0, 1, .aload_n 0, 0, .null), (1, 3, .bipush 98, 0, .int 98), (3, 4, .iload_n 1, 0, .null), (4, 5, .iload_n 2, 0, .null), (5, 8, .invokevirtual 138, 0, .null), (8, 9, .istore_n 3, 0, .null), (9, 10, .iconst 1, 0, .int 1), (10, 12, .istore 4, 0, .null), (12, 14, .iload 4, 0, .null), (14, 15, .aload_n 0, 0, .null), (15, 18, .getfield 153, 0, .null), (18, 21, .if_icmp .gt 35, 53, .null), (21, 22, .iload_n 3, 0, .null), (22, 25, .ifCond .eq 31, 53, .null), (25, 26, .aload_n 0, 0, .null), (26, 27, .iload_n 1, 0, .null), (27, 28, .iload_n 2, 0, .null), (28, 29, .iconst 1, 0, .int 1), (29, 30, .iconst 0, 0, .int 0), (30, 32, .bipush 9, 0, .int 9), (32, 35, .invokevirtual 142, 0, .null), (35, 36, .istore_n 3, 0, .null), (36, 37, .aload_n 0, 0, .null), (37, 40, .getfield 25, 0, .null), (40, 42, .iload 4, 0, .null), (42, 43, .aload_n 0, 0, .null), (43, 46, .getfield 135, 0, .null), (46, 47, .iastore, 0, .null), (47, 50, .iinc 4 1, 0, .null), (50, 53, .goto (-38), 12, .null), (53, 54, .iload_n 3, 0, .null), (54, 55, .ireturn, 0, .null)]
def ct155 : List Rw := [(0, 1, .aload_n 0, 0, .null), (1, 3, .bipush 59, 0, .int 59), (3, 4, .iload_n 1, 0, .null), (4, 5, .iload_n 2, 0, .null), (5, 8, .invokevirtual 138, 0, .null), (8, 11, .ifCond .eq 31, 39, .null), (11, 12, .aload_n 0, 0, .null), (12, 14, .bipush 112, 0, .int 112), (14, 15, .iload_n 1, 0, .null), (15, 16, .iload_n 2, 0, .null), (16, 19, .invokevirtual 138, 0, .null), (19, 22, .ifCond .eq 20, 39, .null), (22, 23, .aload_n 0, 0, .null), (23, 24, .iload_n 1, 0, .null), (24, 25, .iload_n 2, 0, .null), (25, 26, .iconst 1, 0, .int 1), (26, 27, .iconst 1, 0, .int 1), (27, 29, .bipush 9, 0, .int 9), (29, 32, .invokevirtual 142, 0, .null), (32, 35, .ifCond .eq 7, 39, .null), (35, 36, .iconst 1, 0, .int 1), (36, 39, .goto 4, 40, .null), (39, 40, .iconst 0, 0, .int 0), (40, 41, .istore_n 3, 0, .null), (41, 42, .aload_n 0, 0, .null), (42, 43, .aload_n 0, 0, .null), (43, 46, .getfield 135, 0, .null), (46, 49, .putfield 156, 0, .null), (49, 50, .iconst 0, 0, .int 0), (50, 52, .istore 4, 0, .null), (52, 54, .iload 4, 0, .null), (54, 55, .aload_n 0, 0, .null), (55, 58, .getfield 146, 0, .null), (58, 61, .if_icmp .ge 38, 96, .null), (61, 62, .iload_n 3, 0, .null), (62, 65, .ifCond .eq 34, 96, .null), (65, 66, .aload_n 0, 0, .null), (66, 67, .iload_n 1, 0, .null), (67, 68, .iload_n 2, 0, .null), (68, 69, .iconst 1, 0, .int 1), (69, 70, .iconst 0, 0, .int 0), (70, 71, .iconst 2, 0, .int 2), (71, 74, .invokevirtual 142, 0, .null), (74, 75, .istore_n 3, 0, .null), (75, 76, .aload_n 0, 0, .null), (76, 79, .getfield 28, 0, .null), (79, 80, .iconst 5, 0, .int 5), (80, 82, .iload 4, 0, .null), (82, 83, .imul, 0, .null), (83, 84, .iconst 4, 0, .int 4), (84, 85, .iadd, 0, .null), (85, 86, .aload_n 0, 0, .null), (86, 89, .getfield 135, 0, .null), (89, 90, .iastore, 0, .null), (90, 93, .iinc 4 1, 0, .null), (93, 96, .goto (-41), 52, .null), (96, 97, .iload_n 3, 0, .null), (97, 98, .ireturn, 0, .null)]
def ct156 : List Rw := [(0, 1, .aload_n 0, 0, .null), (1, 4, .getfield 128, 0, .null), (4, 5, .iload_n 3, 0, .null), (5, 8, .if_icmp .ge 22, 27, .null), (8, 9, .aload_n 0, 0, .null), (9, 12, .getfield 82, 0, .null), (12, 13, .iload_n 2, 0, .null), (13, 14, .aload_n 0, 0, .null), (14, 17, .getfield 128, 0, .null), (17, 18, .iadd, 0, .null), (18, 19, .iaload, 0, .null), (19, 20, .iload_n 1, 0, .null), (20, 23, .if_icmp .ne 7, 27, .null), (23, 24, .iconst 1, 0, .int 1), (24, 27, .goto 4, 28, .null), (27, 28, .iconst 0, 0, .int 0), (28, 29, .ireturn, 0, .null)]
def ct157_0 : List Rw := [(0, 1, .aload_n 0, 0, .null), (1, 2, .iconst 0, 0, .int 0), (2, 5, .putfield 128, 0, .null), (5, 6, .aload_n 0, 0, .null), (6, 7, .iconst 0, 0, .int 0), (7, 10, .putfield 146, 0, .null), (10, 11, .aload_n 0, 0, .null), (11, 12, .iconst 0, 0, .int 0), (12, 15, .putfield 156, 0, .null), (15, 16, .aload_n 0, 0, .null), (16, 18, .bipush 108, 0, .int 108), (18, 19, .iload_n 1, 0, .null), (19, 20, .iload_n 2, 0, .null), (20, 23, .invokevirtual 138, 0, .null), (23, 26, .ifCond .eq 15, 38, .null), (26, 27, .aload_n 0, 0, .null), (27, 28, .iload_n 1, 0, .null), (28, 29, .iload_n 2, 0, .null), (29, 30, .iconst 1, 0, .int 1), (30, 31, .iconst 1, 0, .int 1), (31, 32, .iconst 4, 0, .int 4), (32, 35, .invokevirtual 142, 0, .null), (35, 38, .ifCond .ne 5, 40, .null), (38, 39, .iconst 0, 0, .int 0), (39, 40, .ireturn, 0, .null), (40, 41, .aload_n 0, 0, .null), (41, 42, .aload_n 0, 0, .null), (42, 45, .getfield 135, 0, .null), (45, 48, .putfield 153, 0, .null), (48, 49, .iconst 1, 0, .int 1), (49, 50, .istore_n 3, 0, .null), (50, 51, .iload_n 3, 0, .null), (51, 54, .ifCond .eq 84, 135, .null), (54, 55, .aload_n 0, 0, .null), (55, 57, .bipush 59, 0, .int 59), (57, 58, .iload_n 1, 0, .null), (58, 59, .iload_n 2, 0, .null), (59, 62, .invokevirtual 138, 0, .null), (62, 65, .ifCond .eq 12, 74, .null), (65, 66, .aload_n 0, 0, .null), (66, 67, .iload_n 1, 0, .null), (67, 68, .iload_n 2, 0, .null), (68, 71, .invokevirtual 159, 0, .null), (71, 74, .ifCond .ne 5, 76, .null), (74, 75, .iconst 0, 0, .int 0), (75, 76, .ireturn, 0, .null), (76, 77, .aload_n 0, 0, .null), (77, 79, .bipush 59, 0, .int 59), (79, 80, .iload_n 1, 0, .null), (80, 81, .iload_n 2, 0, .null), (81, 84, .invokevirtual 138, 0, .null), (84, 87, .ifCond .ne 5, 89, .null), (87, 88, .iconst 0, 0, .int 0), (88, 89, .ireturn, 0, .null), (89, 90, .aload_n 0, 0, .null), (90, 93, .getfield 146, 0, .null), (93, 94, .iconst 3, 0, .int 3), (94, 97, .if_icmp .ge 18, 112, .null), (97, 98, .aload_n 0, 0, .null), (98, 100, .bipush 115, 0, .int 115)]
def ct157_1 : List Rw := [(100, 101, .iload_n 1, 0, .null), (101, 102, .iload_n 2, 0, .null), (102, 105, .invokevirtual 163, 0, .null), (105, 108, .ifCond .eq 7, 112, .null), (108, 109, .iconst 1, 0, .int 1), (109, 112, .goto 4, 113, .null), (112, 113, .iconst 0, 0, .int 0), (113, 114, .istore_n 3, 0, .null), (114, 115, .aload_n 0, 0, .null), (115, 116, .dup, 0, .null), (116, 119, .getfield 128, 0, .null), (119, 120, .iload_n 3, 0, .null), (120, 123, .ifCond .eq 7, 127, .null), (123, 124, .iconst 1, 0, .int 1), (124, 127, .goto 4, 128, .null), (127, 128, .iconst 0, 0, .int 0), (128, 129, .isub, 0, .null), (129, 132, .putfield 128, 0, .null), (132, 135, .goto (-82), 50, .null), (135, 136, .aload_n 0, 0, .null), (136, 137, .iload_n 1, 0, .null), (137, 138, .iload_n 2, 0, .null), (138, 141, .invokevirtual 166, 0, .null), (141, 144, .ifCond .ne 5, 146, .null), (144, 145, .iconst 0, 0, .int 0), (145, 146, .ireturn, 0, .null), (146, 147, .aload_n 0, 0, .null), (147, 150, .getfield 128, 0, .null), (150, 151, .iload_n 2, 0, .null), (151, 154, .if_icmp .eq 20, 171, .null), (154, 155, .aload_n 0, 0, .null), (155, 156, .iload_n 1, 0, .null), (156, 157, .iload_n 2, 0, .null), (157, 160, .invokevirtual 169, 0, .null), (160, 163, .ifCond .eq 15, 175, .null), (163, 164, .aload_n 0, 0, .null), (164, 167, .getfield 128, 0, .null), (167, 168, .iload_n 2, 0, .null), (168, 171, .if_icmp .ne 7, 175, .null), (171, 172, .iconst 1, 0, .int 1), (172, 175, .goto 4, 176, .null), (175, 176, .iconst 0, 0, .int 0), (176, 177, .ireturn, 0, .null)]
def ct157 : List Rw := ct157_0 ++ ct157_1
def ct158_0 : List Rw := [(0, 1, .aload_n 0, 0, .null), (1, 2, .iload_n 1, 0, .null), (2, 3, .iload_n 2, 0, .null), (3, 4, .iload_n 3, 0, .null), (4, 6, .iload 4, 0, .null), (6, 7, .i2l, 0, .null), (7, 10, .invokevirtual 172, 0, .null), (10, 12, .istore 5, 0, .null), (12, 14, .iload 5, 0, .null), (14, 17, .ifCond .ge 6, 20, .null), (17, 19, .iload 5, 0, .null), (19, 20, .ireturn, 0, .null), (20, 21, .aload_n 0, 0, .null), (21, 23, .bipush 60, 0, .int 60), (23, 24, .iload_n 1, 0, .null), (24, 25, .imul, 0, .null), (25, 26, .iload_n 3, 0, .null), (26, 27, .iadd, 0, .null), (27, 29, .iload 4, 0, .null), (29, 32, .invokevirtual 176, 0, .null), (32, 35, .ifCond .ne 15, 47, .null), (35, 36, .aload_n 0, 0, .null), (36, 38, .bipush (-100), 0, .int (-100)), (38, 39, .aload_n 0, 0, .null), (39, 42, .getfield 128, 0, .null), (42, 43, .isub, 0, .null), (43, 46, .invokevirtual 105, 0, .null), (46, 47, .ireturn, 0, .null), (47, 48, .aload_n 0, 0, .null), (48, 51, .getfield 122, 0, .null), (51, 52, .iconst 3, 0, .int 3), (52, 55, .if_icmp .ne 10, 62, .null), (55, 56, .aload_n 0, 0, .null), (56, 58, .bipush (-4), 0, .int (-4)), (58, 61, .invokevirtual 105, 0, .null), (61, 62, .ireturn, 0, .null), (62, 63, .aload_n 0, 0, .null), (63, 66, .getfield 7, 0, .null), (66, 67, .aload_n 0, 0, .null), (67, 70, .getfield 122, 0, .null), (70, 71, .aload_n 0, 0, .null), (71, 74, .getfield 153, 0, .null), (74, 75, .iastore, 0, .null), (75, 76, .aload_n 0, 0, .null), (76, 79, .getfield 13, 0, .null), (79, 80, .aload_n 0, 0, .null), (80, 83, .getfield 122, 0, .null), (83, 84, .aload_n 0, 0, .null), (84, 87, .getfield 146, 0, .null), (87, 88, .iastore, 0, .null), (88, 89, .aload_n 0, 0, .null), (89, 92, .getfield 16, 0, .null), (92, 93, .aload_n 0, 0, .null), (93, 96, .getfield 122, 0, .null), (96, 97, .aload_n 0, 0, .null), (97, 100, .getfield 156, 0, .null), (100, 101, .iastore, 0, .null), (101, 102, .iconst 1, 0, .int 1), (102, 104, .istore 6, 0, .null), (104, 106, .iload 6, 0, .null)]
def ct158_1 : List Rw := [(106, 107, .aload_n 0, 0, .null), (107, 110, .getfield 153, 0, .null), (110, 113, .if_icmp .gt 30, 140, .null), (113, 114, .aload_n 0, 0, .null), (114, 117, .getfield 19, 0, .null), (117, 118, .iconst 5, 0, .int 5), (118, 119, .aload_n 0, 0, .null), (119, 122, .getfield 122, 0, .null), (122, 123, .imul, 0, .null), (123, 125, .iload 6, 0, .null), (125, 126, .iadd, 0, .null), (126, 127, .aload_n 0, 0, .null), (127, 130, .getfield 25, 0, .null), (130, 132, .iload 6, 0, .null), (132, 133, .iaload, 0, .null), (133, 134, .iastore, 0, .null), (134, 137, .iinc 6 1, 0, .null), (137, 140, .goto (-33), 104, .null), (140, 141, .iconst 0, 0, .int 0), (141, 143, .istore 6, 0, .null), (143, 145, .iload 6, 0, .null), (145, 146, .iconst 5, 0, .int 5), (146, 147, .aload_n 0, 0, .null), (147, 150, .getfield 146, 0, .null), (150, 151, .imul, 0, .null), (151, 154, .if_icmp .ge 31, 182, .null), (154, 155, .aload_n 0, 0, .null), (155, 158, .getfield 22, 0, .null), (158, 160, .bipush 15, 0, .int 15), (160, 161, .aload_n 0, 0, .null), (161, 164, .getfield 122, 0, .null), (164, 165, .imul, 0, .null), (165, 167, .iload 6, 0, .null), (167, 168, .iadd, 0, .null), (168, 169, .aload_n 0, 0, .null), (169, 172, .getfield 28, 0, .null), (172, 174, .iload 6, 0, .null), (174, 175, .iaload, 0, .null), (175, 176, .iastore, 0, .null), (176, 179, .iinc 6 1, 0, .null), (179, 182, .goto (-36), 143, .null), (182, 183, .aload_n 0, 0, .null), (183, 184, .dup, 0, .null), (184, 187, .getfield 122, 0, .null), (187, 188, .iconst 1, 0, .int 1), (188, 189, .iadd, 0, .null), (189, 192, .putfield 122, 0, .null), (192, 193, .aload_n 0, 0, .null), (193, 194, .aload_n 0, 0, .null), (194, 197, .getfield 122, 0, .null), (197, 198, .iconst 1, 0, .int 1), (198, 199, .isub, 0, .null), (199, 202, .invokevirtual 105, 0, .null), (202, 203, .ireturn, 0, .null)]
def ct158 : List Rw := ct158_0 ++ ct158_1
def ct159 : List Rw := [(0, 1, .iload_n 3, 0, .null), (1, 3, .istore 4, 0, .null), (3, 4, .iload_n 2, 0, .null), (4, 6, .istore 5, 0, .null), (6, 7, .iconst 0, 0, .int 0), (7, 9, .istore 6, 0, .null), (9, 11, .iload 6, 0, .null), (11, 12, .aload_n 0, 0, .null), (12, 15, .getfield 13, 0, .null), (15, 16, .iload_n 1, 0, .null), (16, 17, .iaload, 0, .null), (17, 20, .if_icmp .ge 28, 45, .null), (20, 22, .iload 4, 0, .null), (22, 24, .iload 5, 0, .null), (24, 26, .bipush 6, 0, .int 6), (26, 27, .irem, 0, .null), (27, 30, .invokestatic 179, 0, .null), (30, 32, .istore 4, 0, .null), (32, 34, .iload 5, 0, .null), (34, 36, .bipush 6, 0, .int 6), (36, 37, .idiv, 0, .null), (37, 39, .istore 5, 0, .null), (39, 42, .iinc 6 1, 0, .null), (42, 45, .goto (-33), 9, .null), (45, 47, .iload 4, 0, .null), (47, 48, .ireturn, 0, .null)]
def ct160 : List Rw := [(0, 1, .iconst 0, 0, .int 0), (1, 2, .istore_n 2, 0, .null), (2, 3, .aload_n 0, 0, .null), (3, 6, .getfield 13, 0, .null), (6, 7, .iload_n 1, 0, .null), (7, 8, .iaload, 0, .null), (8, 9, .iconst 1, 0, .int 1), (9, 10, .isub, 0, .null), (10, 11, .istore_n 3, 0, .null), (11, 12, .iload_n 3, 0, .null), (12, 15, .ifCond .lt 22, 34, .null), (15, 17, .bipush 6, 0, .int 6), (17, 18, .iload_n 2, 0, .null), (18, 19, .imul, 0, .null), (19, 20, .aload_n 0, 0, .null), (20, 21, .iload_n 1, 0, .null), (21, 22, .iload_n 3, 0, .null), (22, 23, .iconst 0, 0, .int 0), (23, 26, .invokevirtual 183, 0, .null), (26, 27, .iadd, 0, .null), (27, 28, .istore_n 2, 0, .null), (28, 31, .iinc 3 (-1), 0, .null), (31, 34, .goto (-20), 11, .null), (34, 35, .iload_n 2, 0, .null), (35, 36, .ireturn, 0, .null)]
def ct161 : List Rw := [(0, 1, .aload_n 0, 0, .null), (1, 2, .iload_n 1, 0, .null), (2, 5, .invokevirtual 125, 0, .null), (5, 8, .ifCond .eq 5, 10, .null), (8, 9, .iconst (-1), 0, .int (-1)), (9, 10, .ireturn, 0, .null), (10, 11, .iload_n 2, 0, .null), (11, 40, .tableswitch 67 0 3 #[29, 36, 43, 50], 0, .null), (40, 41, .aload_n 0, 0, .null), (41, 44, .getfield 7, 0, .null), (44, 45, .iload_n 1, 0, .null), (45, 46, .iaload, 0, .null), (46, 47, .ireturn, 0, .null), (47, 48, .aload_n 0, 0, .null), (48, 51, .getfield 13, 0, .null), (51, 52, .iload_n 1, 0, .null), (52, 53, .iaload, 0, .null), (53, 54, .ireturn, 0, .null), (54, 55, .aload_n 0, 0, .null), (55, 58, .getfield 16, 0, .null), (58, 59, .iload_n 1, 0, .null), (59, 60, .iaload, 0, .null), (60, 61, .ireturn, 0, .null), (61, 62, .aload_n 0, 0, .null), (62, 63, .iload_n 1, 0, .null), (63, 64, .aload_n 0, 0, .null), (64, 65, .iload_n 1, 0, .null), (65, 68, .invokevirtual 187, 0, .null), (68, 69, .aload_n 0, 0, .null), (69, 72, .getfield 7, 0, .null), (72, 73, .iload_n 1, 0, .null), (73, 74, .iaload, 0, .null), (74, 77, .invokevirtual 190, 0, .null), (77, 78, .ireturn, 0, .null), (78, 79, .iload_n 2, 0, .null), (79, 80, .i2l, 0, .null), (80, 83, .ldc2_w 193, 0, .long 10), (83, 86, .ldc2_w 193, 0, .long 10), (86, 87, .aload_n 0, 0, .null), (87, 90, .getfield 7, 0, .null), (90, 91, .iload_n 1, 0, .null), (91, 92, .iaload, 0, .null), (92, 93, .i2l, 0, .null), (93, 94, .ladd, 0, .null), (94, 97, .invokestatic 111, 0, .null), (97, 100, .ifCond .eq 19, 116, .null), (100, 101, .aload_n 0, 0, .null), (101, 104, .getfield 19, 0, .null), (104, 105, .iconst 5, 0, .int 5), (105, 106, .iload_n 1, 0, .null), (106, 107, .imul, 0, .null), (107, 108, .iload_n 2, 0, .null), (108, 109, .iadd, 0, .null), (109, 111, .bipush 10, 0, .int 10), (111, 112, .isub, 0, .null), (112, 113, .iaload, 0, .null), (113, 116, .goto 5, 118, .null), (116, 118, .bipush (-2), 0, .int (-2)), (118, 119, .ireturn, 0, .null)]
def ct162 : List Rw := [(0, 1, .aload_n 0, 0, .null), (1, 2, .iload_n 1, 0, .null), (2, 3, .iload_n 2, 0, .null), (3, 6, .invokevirtual 195, 0, .null), (6, 9, .ifCond .eq 5, 11, .null), (9, 10, .iconst (-1), 0, .int (-1)), (10, 11, .ireturn, 0, .null), (11, 12, .iload_n 3, 0, .null), (12, 13, .i2l, 0, .null), (13, 14, .lconst 0, 0, .long 0), (14, 17, .ldc2_w 198, 0, .long 4), (17, 20, .invokestatic 111, 0, .null), (20, 23, .ifCond .eq 13, 33, .null), (23, 24, .aload_n 0, 0, .null), (24, 25, .iload_n 1, 0, .null), (25, 26, .iload_n 2, 0, .null), (26, 27, .iload_n 3, 0, .null), (27, 30, .invokevirtual 183, 0, .null), (30, 33, .goto 5, 35, .null), (33, 35, .bipush (-2), 0, .int (-2)), (35, 36, .ireturn, 0, .null)]
def ct163 : List Rw := [(0, 1, .aload_n 0, 0, .null), (1, 2, .iload_n 1, 0, .null), (2, 3, .iload_n 2, 0, .null), (3, 6, .invokevirtual 195, 0, .null), (6, 9, .ifCond .eq 5, 11, .null), (9, 10, .iconst (-1), 0, .int (-1)), (10, 11, .ireturn, 0, .null), (11, 12, .iload_n 3, 0, .null), (12, 15, .ifCond .ne 7, 19, .null), (15, 16, .iconst 5, 0, .int 5), (16, 19, .goto 15, 31, .null), (19, 20, .iload_n 3, 0, .null), (20, 21, .iconst 3, 0, .int 3), (21, 24, .if_icmp .ne 8, 29, .null), (24, 26, .bipush 9, 0, .int 9), (26, 29, .goto 5, 31, .null), (29, 31, .bipush 12, 0, .int 12), (31, 33, .istore 5, 0, .null), (33, 34, .iload_n 3, 0, .null), (34, 35, .i2l, 0, .null), (35, 36, .lconst 0, 0, .long 0), (36, 39, .ldc2_w 200, 0, .long 3), (39, 42, .invokestatic 111, 0, .null), (42, 45, .ifCond .eq 25, 67, .null), (45, 47, .iload 4, 0, .null), (47, 48, .i2l, 0, .null), (48, 49, .iload_n 3, 0, .null), (49, 50, .iconst 3, 0, .int 3), (50, 53, .if_icmp .ne 7, 57, .null), (53, 54, .lconst 1, 0, .long 1), (54, 57, .goto 4, 58, .null), (57, 58, .lconst 0, 0, .long 0), (58, 60, .iload 5, 0, .null), (60, 61, .i2l, 0, .null), (61, 64, .invokestatic 111, 0, .null), (64, 67, .ifCond .ne 6, 70, .null), (67, 69, .bipush (-2), 0, .int (-2)), (69, 70, .ireturn, 0, .null), (70, 71, .aload_n 0, 0, .null), (71, 72, .iload_n 1, 0, .null), (72, 73, .iload_n 2, 0, .null), (73, 74, .iload_n 3, 0, .null), (74, 77, .invokevirtual 183, 0, .null), (77, 79, .istore 6, 0, .null), (79, 80, .aload_n 0, 0, .null), (80, 83, .getfield 22, 0, .null), (83, 85, .bipush 15, 0, .int 15), (85, 86, .iload_n 1, 0, .null), (86, 87, .imul, 0, .null), (87, 88, .iconst 5, 0, .int 5), (88, 89, .iload_n 2, 0, .null), (89, 90, .imul, 0, .null), (90, 91, .iadd, 0, .null), (91, 92, .iload_n 3, 0, .null), (92, 93, .iadd, 0, .null), (93, 95, .iload 4, 0, .null), (95, 96, .iastore, 0, .null), (96, 98, .iload 6, 0, .null), (98, 99, .ireturn, 0, .null)]
def ct164 : List Rw := [(0, 1, .lconst 1, 0, .long 1), (1, 2, .lstore_n 2, 0, .null), (2, 3, .iconst 0, 0, .int 0), (3, 5, .istore 4, 0, .null), (5, 7, .iload 4, 0, .null), (7, 8, .iload_n 1, 0, .null), (8, 11, .if_icmp .ge 14, 22, .null), (11, 12, .lload_n 2, 0, .null), (12, 13, .iload_n 0, 0, .null), (13, 14, .i2l, 0, .null), (14, 15, .lmul, 0, .null), (15, 16, .lstore_n 2, 0, .null), (16, 19, .iinc 4 1, 0, .null), (19, 22, .goto (-14), 5, .null), (22, 23, .lload_n 2, 0, .null), (23, 24, .lreturn, 0, .null)]
def ct165 : List Rw := [(0, 1, .lconst 1, 0, .long 1), (1, 2, .lstore_n 3, 0, .null), (2, 3, .iconst 0, 0, .int 0), (3, 5, .istore 5, 0, .null), (5, 7, .iload 5, 0, .null), (7, 8, .iload_n 1, 0, .null), (8, 11, .if_icmp .ge 23, 31, .null), (11, 12, .lload_n 3, 0, .null), (12, 13, .iload_n 0, 0, .null), (13, 15, .iload 5, 0, .null), (15, 16, .isub, 0, .null), (16, 17, .i2l, 0, .null), (17, 18, .lmul, 0, .null), (18, 20, .iload 5, 0, .null), (20, 21, .iconst 1, 0, .int 1), (21, 22, .iadd, 0, .null), (22, 23, .i2l, 0, .null), (23, 24, .ldiv, 0, .null), (24, 25, .lstore_n 3, 0, .null), (25, 28, .iinc 5 1, 0, .null), (28, 31, .goto (-23), 5, .null), (31, 32, .lload_n 3, 0, .null), (32, 33, .iload_n 2, 0, .null), (33, 34, .iload_n 1, 0, .null), (34, 37, .invokestatic 202, 0, .null), (37, 38, .lmul, 0, .null), (38, 40, .bipush 12, 0, .int 12), (40, 41, .iload_n 2, 0, .null), (41, 42, .isub, 0, .null), (42, 43, .iload_n 0, 0, .null), (43, 44, .iload_n 1, 0, .null), (44, 45, .isub, 0, .null), (45, 48, .invokestatic 202, 0, .null), (48, 49, .lmul, 0, .null), (49, 50, .lreturn, 0, .null)]
def ct166 : List Rw := [(0, 2, .bipush 12, 0, .int 12), (2, 3, .iload_n 2, 0, .null), (3, 6, .invokestatic 202, 0, .null), (6, 8, .lstore 4, 0, .null), (8, 9, .lload_n 0, 0, .null), (9, 11, .lload 4, 0, .null), (11, 12, .ldiv, 0, .null), (12, 13, .iload_n 3, 0, .null), (13, 14, .iconst 1, 0, .int 1), (14, 17, .if_icmp .ne 16, 30, .null), (17, 18, .lload_n 0, 0, .null), (18, 20, .lload 4, 0, .null), (20, 21, .lrem, 0, .null), (21, 22, .lconst 0, 0, .long 0), (22, 23, .lcmp, 0, .null), (23, 26, .ifCond .eq 7, 30, .null), (26, 27, .lconst 1, 0, .long 1), (27, 30, .goto 4, 31, .null), (30, 31, .lconst 0, 0, .long 0), (31, 32, .ladd, 0, .null), (32, 33, .lreturn, 0, .null)]
def ct167 : List Rw := [(0, 1, .iload_n 0, 0, .null), (1, 4, .ifCond .ne 7, 8, .null), (4, 5, .iconst 1, 0, .int 1), (5, 8, .goto 26, 31, .null), (8, 9, .iload_n 0, 0, .null), (9, 10, .iconst 1, 0, .int 1), (10, 13, .if_icmp .ne 8, 18, .null), (13, 15, .bipush 6, 0, .int 6), (15, 18, .goto 16, 31, .null), (18, 19, .iload_n 0, 0, .null), (19, 20, .iconst 2, 0, .int 2), (20, 23, .if_icmp .ne 8, 28, .null), (23, 25, .bipush 36, 0, .int 36), (25, 28, .goto 6, 31, .null), (28, 31, .sipush 216, 0, .int 216), (31, 32, .ireturn, 0, .null)]
def ct168 : List Rw := [(0, 1, .iconst 0, 0, .int 0), (1, 2, .istore_n 3, 0, .null), (2, 3, .iconst 0, 0, .int 0), (3, 5, .istore 4, 0, .null), (5, 7, .iload 4, 0, .null), (7, 8, .aload_n 0, 0, .null), (8, 11, .getfield 13, 0, .null), (11, 12, .iload_n 1, 0, .null), (12, 13, .iaload, 0, .null), (13, 16, .if_icmp .ge 41, 54, .null), (16, 17, .iload_n 3, 0, .null), (17, 19, .iload 4, 0, .null), (19, 22, .invokestatic 206, 0, .null), (22, 23, .iconst 5, 0, .int 5), (23, 24, .iload_n 2, 0, .null), (24, 26, .iload 4, 0, .null), (26, 29, .invokestatic 206, 0, .null), (29, 30, .idiv, 0, .null), (30, 32, .bipush 6, 0, .int 6), (32, 33, .irem, 0, .null), (33, 34, .aload_n 0, 0, .null), (34, 35, .iload_n 1, 0, .null), (35, 37, .iload 4, 0, .null), (37, 38, .iconst 4, 0, .int 4), (38, 41, .invokevirtual 183, 0, .null), (41, 42, .iadd, 0, .null), (42, 45, .invokestatic 179, 0, .null), (45, 46, .imul, 0, .null), (46, 47, .iadd, 0, .null), (47, 48, .istore_n 3, 0, .null), (48, 51, .iinc 4 1, 0, .null), (51, 54, .goto (-46), 5, .null), (54, 55, .iload_n 3, 0, .null), (55, 56, .ireturn, 0, .null)]
def ct169_0 : List Rw := [(0, 1, .aload_n 0, 0, .null), (1, 4, .getfield 13, 0, .null), (4, 5, .iload_n 1, 0, .null), (5, 6, .iaload, 0, .null), (6, 9, .invokestatic 206, 0, .null), (9, 11, .istore 7, 0, .null), (11, 13, .iload 6, 0, .null), (13, 16, .ifCond .eq 27, 40, .null), (16, 17, .aload_n 0, 0, .null), (17, 20, .getfield 16, 0, .null), (20, 21, .iload_n 1, 0, .null), (21, 22, .iaload, 0, .null), (22, 25, .ifCond .le 18, 40, .null), (25, 26, .iload_n 2, 0, .null), (26, 27, .aload_n 0, 0, .null), (27, 30, .getfield 16, 0, .null), (30, 31, .iload_n 1, 0, .null), (31, 32, .iaload, 0, .null), (32, 33, .irem, 0, .null), (33, 36, .ifCond .ne 7, 40, .null), (36, 37, .iconst 1, 0, .int 1), (37, 40, .goto 4, 41, .null), (40, 41, .iconst 0, 0, .int 0), (41, 43, .istore 8, 0, .null), (43, 44, .iconst 0, 0, .int 0), (44, 46, .istore 9, 0, .null), (46, 48, .iload 9, 0, .null), (48, 50, .iload 7, 0, .null), (50, 53, .if_icmp .ge 38, 88, .null), (53, 54, .aload_n 0, 0, .null), (54, 57, .getfield 38, 0, .null), (57, 59, .iload 9, 0, .null), (59, 60, .aload_n 0, 0, .null), (60, 63, .getfield 31, 0, .null), (63, 65, .iload 8, 0, .null), (65, 68, .ifCond .eq 13, 78, .null), (68, 69, .aload_n 0, 0, .null), (69, 70, .iload_n 1, 0, .null), (70, 72, .iload 9, 0, .null), (72, 75, .invokevirtual 209, 0, .null), (75, 78, .goto 5, 80, .null), (78, 80, .iload 9, 0, .null), (80, 81, .laload, 0, .null), (81, 82, .lastore, 0, .null), (82, 85, .iinc 9 1, 0, .null), (85, 88, .goto (-39), 46, .null), (88, 89, .aload_n 0, 0, .null), (89, 92, .getfield 13, 0, .null), (92, 93, .iload_n 1, 0, .null), (93, 94, .iaload, 0, .null), (94, 95, .iconst 1, 0, .int 1), (95, 96, .isub, 0, .null), (96, 98, .istore 9, 0, .null), (98, 100, .iload 9, 0, .null), (100, 103, .ifCond .lt 136, 236, .null), (103, 104, .iload_n 3, 0, .null), (104, 107, .ifCond .le 132, 236, .null), (107, 109, .iload 7, 0, .null), (109, 110, .iconst 1, 0, .int 1), (110, 111, .isub, 0, .null)]
def ct169_1 : List Rw := [(111, 113, .istore 10, 0, .null), (113, 115, .iload 10, 0, .null), (115, 118, .ifCond .lt 115, 230, .null), (118, 120, .iload 10, 0, .null), (120, 122, .iload 9, 0, .null), (122, 125, .invokestatic 206, 0, .null), (125, 126, .idiv, 0, .null), (126, 128, .bipush 6, 0, .int 6), (128, 129, .irem, 0, .null), (129, 130, .iload_n 3, 0, .null), (130, 133, .if_icmp .lt 7, 137, .null), (133, 134, .iconst 1, 0, .int 1), (134, 137, .goto 4, 138, .null), (137, 138, .iconst 0, 0, .int 0), (138, 140, .istore 11, 0, .null), (140, 141, .lconst 0, 0, .long 0), (141, 143, .lstore 12, 0, .null), (143, 144, .iconst 0, 0, .int 0), (144, 146, .istore 14, 0, .null), (146, 148, .iload 14, 0, .null), (148, 149, .iload_n 3, 0, .null), (149, 152, .if_icmp .gt 51, 200, .null), (152, 154, .iload 11, 0, .null), (154, 157, .ifCond .eq 46, 200, .null), (157, 159, .lload 12, 0, .null), (159, 160, .iload_n 3, 0, .null), (160, 162, .iload 14, 0, .null), (162, 163, .aload_n 0, 0, .null), (163, 164, .iload_n 1, 0, .null), (164, 166, .iload 9, 0, .null), (166, 168, .iload 4, 0, .null), (168, 171, .invokevirtual 183, 0, .null), (171, 174, .invokestatic 212, 0, .null), (174, 175, .aload_n 0, 0, .null), (175, 178, .getfield 38, 0, .null), (178, 180, .iload 10, 0, .null), (180, 182, .iload 14, 0, .null), (182, 184, .iload 9, 0, .null), (184, 187, .invokestatic 206, 0, .null), (187, 188, .imul, 0, .null), (188, 189, .isub, 0, .null), (189, 190, .laload, 0, .null), (190, 191, .lmul, 0, .null), (191, 192, .ladd, 0, .null), (192, 194, .lstore 12, 0, .null), (194, 197, .iinc 14 1, 0, .null), (197, 200, .goto (-51), 146, .null), (200, 201, .aload_n 0, 0, .null), (201, 204, .getfield 38, 0, .null), (204, 206, .iload 10, 0, .null), (206, 208, .iload 11, 0, .null), (208, 211, .ifCond .eq 14, 222, .null), (211, 213, .lload 12, 0, .null), (213, 214, .iload_n 3, 0, .null), (214, 216, .iload 5, 0, .null), (216, 219, .invokestatic 216, 0, .null), (219, 222, .goto 4, 223, .null), (222, 223, .lconst 0, 0, .long 0), (223, 224, .lastore, 0, .null), (224, 227, .iinc 10 (-1), 0, .null)]
def ct169_2 : List Rw := [(227, 230, .goto (-114), 113, .null), (230, 233, .iinc 9 (-1), 0, .null), (233, 236, .goto (-135), 98, .null), (236, 237, .return_, 0, .null)]
def ct169 : List Rw := ct169_0 ++ ct169_1 ++ ct169_2
def ct170 : List Rw := [(0, 1, .aload_n 0, 0, .null), (1, 2, .iload_n 1, 0, .null), (2, 3, .iload_n 2, 0, .null), (3, 4, .iload_n 3, 0, .null), (4, 5, .iconst 3, 0, .int 3), (5, 8, .if_icmp .ne 14, 19, .null), (8, 9, .aload_n 0, 0, .null), (9, 12, .getfield 7, 0, .null), (12, 13, .iload_n 1, 0, .null), (13, 14, .iaload, 0, .null), (14, 15, .iconst 1, 0, .int 1), (15, 16, .isub, 0, .null), (16, 19, .goto 9, 25, .null), (19, 20, .aload_n 0, 0, .null), (20, 23, .getfield 7, 0, .null), (23, 24, .iload_n 1, 0, .null), (24, 25, .iaload, 0, .null), (25, 28, .invokevirtual 190, 0, .null), (28, 29, .ireturn, 0, .null)]
def ct171_0 : List Rw := [(0, 1, .aload_n 0, 0, .null), (1, 4, .getfield 13, 0, .null), (4, 5, .iload_n 1, 0, .null), (5, 6, .iaload, 0, .null), (6, 9, .invokestatic 206, 0, .null), (9, 11, .istore 5, 0, .null), (11, 12, .iconst 0, 0, .int 0), (12, 14, .istore 6, 0, .null), (14, 16, .iload 6, 0, .null), (16, 18, .iload 5, 0, .null), (18, 21, .if_icmp .ge 19, 37, .null), (21, 22, .aload_n 0, 0, .null), (22, 25, .getfield 41, 0, .null), (25, 27, .iload 6, 0, .null), (27, 30, .ldc2_w 220, 0, .long (-1)), (30, 31, .lastore, 0, .null), (31, 34, .iinc 6 1, 0, .null), (34, 37, .goto (-20), 14, .null), (37, 38, .aload_n 0, 0, .null), (38, 41, .getfield 7, 0, .null), (41, 42, .iload_n 1, 0, .null), (42, 43, .iaload, 0, .null), (43, 45, .istore 6, 0, .null), (45, 47, .iload 6, 0, .null), (47, 50, .ifCond .lt 232, 279, .null), (50, 51, .iconst 1, 0, .int 1), (51, 53, .istore 7, 0, .null), (53, 55, .iload 7, 0, .null), (55, 56, .iconst 3, 0, .int 3), (56, 59, .if_icmp .ge 217, 273, .null), (59, 60, .iload_n 2, 0, .null), (60, 63, .ifCond .eq 18, 78, .null), (63, 65, .iload 7, 0, .null), (65, 66, .iload_n 2, 0, .null), (66, 67, .iconst 2, 0, .int 2), (67, 70, .if_icmp .ne 7, 74, .null), (70, 71, .iconst 2, 0, .int 2), (71, 74, .goto 4, 75, .null), (74, 75, .iconst 1, 0, .int 1), (75, 78, .if_icmp .ne 7, 82, .null), (78, 79, .iconst 1, 0, .int 1), (79, 82, .goto 4, 83, .null), (82, 83, .iconst 0, 0, .int 0), (83, 85, .istore 8, 0, .null), (85, 87, .iload 8, 0, .null), (87, 90, .ifCond .eq 16, 103, .null), (90, 91, .aload_n 0, 0, .null), (91, 92, .iload_n 1, 0, .null), (92, 93, .iload_n 3, 0, .null), (93, 95, .iload 6, 0, .null), (95, 97, .iload 7, 0, .null), (97, 99, .iload 4, 0, .null), (99, 100, .iconst 1, 0, .int 1), (100, 103, .invokevirtual 222, 0, .null), (103, 105, .iload 7, 0, .null), (105, 106, .iconst 1, 0, .int 1), (106, 109, .if_icmp .ne 9, 115, .null), (109, 112, .ldc2_w 226, 0, .long 3000000), (112, 115, .goto 6, 118, .null), (115, 118, .ldc2_w 228, 0, .long 2000000)]
def ct171_1 : List Rw := [(118, 119, .aload_n 0, 0, .null), (119, 122, .getfield 19, 0, .null), (122, 123, .iconst 5, 0, .int 5), (123, 124, .iload_n 1, 0, .null), (124, 125, .imul, 0, .null), (125, 127, .iload 6, 0, .null), (127, 128, .iadd, 0, .null), (128, 129, .iaload, 0, .null), (129, 130, .i2l, 0, .null), (130, 131, .lmul, 0, .null), (131, 133, .lstore 9, 0, .null), (133, 134, .iconst 0, 0, .int 0), (134, 136, .istore 11, 0, .null), (136, 138, .iload 11, 0, .null), (138, 140, .iload 5, 0, .null), (140, 143, .if_icmp .ge 127, 267, .null), (143, 145, .iload 8, 0, .null), (145, 148, .ifCond .eq 122, 267, .null), (148, 149, .aload_n 0, 0, .null), (149, 150, .iload_n 1, 0, .null), (150, 152, .iload 11, 0, .null), (152, 153, .iload_n 2, 0, .null), (153, 156, .invokevirtual 230, 0, .null), (156, 158, .istore 12, 0, .null), (158, 160, .lload 9, 0, .null), (160, 161, .aload_n 0, 0, .null), (161, 164, .getfield 38, 0, .null), (164, 166, .iload 11, 0, .null), (166, 167, .laload, 0, .null), (167, 168, .ladd, 0, .null), (168, 170, .lstore 13, 0, .null), (170, 171, .iload_n 2, 0, .null), (171, 174, .ifCond .ne 18, 189, .null), (174, 176, .iload 6, 0, .null), (176, 178, .iload 12, 0, .null), (178, 181, .if_icmp .gt 7, 185, .null), (181, 182, .iconst 1, 0, .int 1), (182, 185, .goto 19, 201, .null), (185, 186, .iconst 0, 0, .int 0), (186, 189, .goto 15, 201, .null), (189, 191, .iload 6, 0, .null), (191, 193, .iload 12, 0, .null), (193, 196, .if_icmp .ne 7, 200, .null), (196, 197, .iconst 1, 0, .int 1), (197, 200, .goto 4, 201, .null), (200, 201, .iconst 0, 0, .int 0), (201, 203, .istore 15, 0, .null), (203, 205, .iload 15, 0, .null), (205, 208, .ifCond .eq 56, 261, .null), (208, 210, .lload 13, 0, .null), (210, 211, .aload_n 0, 0, .null), (211, 214, .getfield 41, 0, .null), (214, 216, .iload 11, 0, .null), (216, 217, .laload, 0, .null), (217, 218, .lcmp, 0, .null), (218, 221, .ifCond .le 43, 261, .null), (221, 222, .aload_n 0, 0, .null), (222, 225, .getfield 41, 0, .null), (225, 227, .iload 11, 0, .null), (227, 229, .lload 13, 0, .null)]
def ct171_2 : List Rw := [(229, 230, .lastore, 0, .null), (230, 231, .aload_n 0, 0, .null), (231, 234, .getfield 35, 0, .null), (234, 236, .iload 11, 0, .null), (236, 239, .ldc2_w 193, 0, .long 10), (239, 241, .iload 6, 0, .null), (241, 242, .i2l, 0, .null), (242, 243, .lmul, 0, .null), (243, 245, .iload 7, 0, .null), (245, 246, .iconst 2, 0, .int 2), (246, 249, .if_icmp .ne 12, 258, .null), (249, 251, .iload 6, 0, .null), (251, 254, .ifCond .le 7, 258, .null), (254, 255, .lconst 1, 0, .long 1), (255, 258, .goto 4, 259, .null), (258, 259, .lconst 0, 0, .long 0), (259, 260, .ladd, 0, .null), (260, 261, .lastore, 0, .null), (261, 264, .iinc 11 1, 0, .null), (264, 267, .goto (-128), 136, .null), (267, 270, .iinc 7 1, 0, .null), (270, 273, .goto (-217), 53, .null), (273, 276, .iinc 6 (-1), 0, .null), (276, 279, .goto (-231), 45, .null), (279, 280, .iconst 0, 0, .int 0), (280, 282, .istore 6, 0, .null), (282, 284, .iload 6, 0, .null), (284, 286, .iload 5, 0, .null), (286, 289, .if_icmp .ge 23, 309, .null), (289, 290, .aload_n 0, 0, .null), (290, 293, .getfield 31, 0, .null), (293, 295, .iload 6, 0, .null), (295, 296, .aload_n 0, 0, .null), (296, 299, .getfield 41, 0, .null), (299, 301, .iload 6, 0, .null), (301, 302, .laload, 0, .null), (302, 303, .lastore, 0, .null), (303, 306, .iinc 6 1, 0, .null), (306, 309, .goto (-24), 282, .null), (309, 310, .return_, 0, .null)]
def ct171 : List Rw := ct171_0 ++ ct171_1 ++ ct171_2
def ct172_0 : List Rw := [(0, 1, .iconst 0, 0, .int 0), (1, 2, .istore_n 3, 0, .null), (2, 3, .iload_n 3, 0, .null), (3, 4, .iconst 5, 0, .int 5), (4, 7, .if_icmp .ge 21, 25, .null), (7, 8, .aload_n 0, 0, .null), (8, 11, .getfield 38, 0, .null), (11, 12, .iload_n 3, 0, .null), (12, 13, .aload_n 0, 0, .null), (13, 16, .getfield 31, 0, .null), (16, 17, .iload_n 3, 0, .null), (17, 18, .laload, 0, .null), (18, 19, .lastore, 0, .null), (19, 22, .iinc 3 1, 0, .null), (22, 25, .goto (-20), 2, .null), (25, 26, .aload_n 0, 0, .null), (26, 29, .getfield 13, 0, .null), (29, 30, .iload_n 1, 0, .null), (30, 31, .iaload, 0, .null), (31, 32, .iconst 1, 0, .int 1), (32, 33, .isub, 0, .null), (33, 34, .istore_n 3, 0, .null), (34, 35, .iload_n 3, 0, .null), (35, 38, .ifCond .lt 87, 122, .null), (38, 39, .iconst 4, 0, .int 4), (39, 41, .istore 4, 0, .null), (41, 43, .iload 4, 0, .null), (43, 46, .ifCond .lt 73, 116, .null), (46, 47, .lconst 0, 0, .long 0), (47, 49, .lstore 5, 0, .null), (49, 50, .iconst 0, 0, .int 0), (50, 52, .istore 7, 0, .null), (52, 54, .iload 7, 0, .null), (54, 56, .iload 4, 0, .null), (56, 59, .if_icmp .gt 39, 95, .null), (59, 61, .lload 5, 0, .null), (61, 63, .iload 4, 0, .null), (63, 65, .iload 7, 0, .null), (65, 66, .aload_n 0, 0, .null), (66, 67, .iload_n 1, 0, .null), (67, 68, .iload_n 3, 0, .null), (68, 69, .iconst 1, 0, .int 1), (69, 72, .invokevirtual 183, 0, .null), (72, 75, .invokestatic 212, 0, .null), (75, 76, .aload_n 0, 0, .null), (76, 79, .getfield 38, 0, .null), (79, 81, .iload 4, 0, .null), (81, 83, .iload 7, 0, .null), (83, 84, .isub, 0, .null), (84, 85, .laload, 0, .null), (85, 86, .lmul, 0, .null), (86, 87, .ladd, 0, .null), (87, 89, .lstore 5, 0, .null), (89, 92, .iinc 7 1, 0, .null), (92, 95, .goto (-40), 52, .null), (95, 96, .aload_n 0, 0, .null), (96, 99, .getfield 38, 0, .null), (99, 101, .iload 4, 0, .null), (101, 103, .lload 5, 0, .null), (103, 105, .iload 4, 0, .null)]
def ct172_1 : List Rw := [(105, 106, .iload_n 2, 0, .null), (106, 109, .invokestatic 216, 0, .null), (109, 110, .lastore, 0, .null), (110, 113, .iinc 4 (-1), 0, .null), (113, 116, .goto (-72), 41, .null), (116, 119, .iinc 3 (-1), 0, .null), (119, 122, .goto (-85), 34, .null), (122, 123, .iconst 0, 0, .int 0), (123, 124, .istore_n 3, 0, .null), (124, 125, .iload_n 3, 0, .null), (125, 126, .iconst 5, 0, .int 5), (126, 129, .if_icmp .ge 51, 177, .null), (129, 130, .aload_n 0, 0, .null), (130, 133, .getfield 31, 0, .null), (133, 134, .iload_n 3, 0, .null), (134, 135, .iload_n 3, 0, .null), (135, 136, .aload_n 0, 0, .null), (136, 139, .getfield 7, 0, .null), (139, 140, .iload_n 1, 0, .null), (140, 141, .iaload, 0, .null), (141, 144, .if_icmp .gt 21, 162, .null), (144, 147, .ldc2_w 226, 0, .long 3000000), (147, 148, .aload_n 0, 0, .null), (148, 151, .getfield 19, 0, .null), (151, 152, .iconst 5, 0, .int 5), (152, 153, .iload_n 1, 0, .null), (153, 154, .imul, 0, .null), (154, 155, .iload_n 3, 0, .null), (155, 156, .iadd, 0, .null), (156, 157, .iaload, 0, .null), (157, 158, .i2l, 0, .null), (158, 159, .lmul, 0, .null), (159, 162, .goto 4, 163, .null), (162, 163, .lconst 0, 0, .long 0), (163, 164, .aload_n 0, 0, .null), (164, 167, .getfield 38, 0, .null), (167, 168, .iload_n 3, 0, .null), (168, 169, .laload, 0, .null), (169, 170, .ladd, 0, .null), (170, 171, .lastore, 0, .null), (171, 174, .iinc 3 1, 0, .null), (174, 177, .goto (-50), 124, .null), (177, 178, .return_, 0, .null)]
def ct172 : List Rw := ct172_0 ++ ct172_1
def ct173 : List Rw := [(0, 1, .iconst 0, 0, .int 0), (1, 3, .istore 5, 0, .null), (3, 5, .iload 5, 0, .null), (5, 8, .sipush 216, 0, .int 216), (8, 11, .if_icmp .ge 17, 25, .null), (11, 12, .aload_n 0, 0, .null), (12, 15, .getfield 31, 0, .null), (15, 17, .iload 5, 0, .null), (17, 18, .lconst 0, 0, .long 0), (18, 19, .lastore, 0, .null), (19, 22, .iinc 5 1, 0, .null), (22, 25, .goto (-19), 3, .null), (25, 26, .iload_n 3, 0, .null), (26, 28, .istore 5, 0, .null), (28, 30, .iload 5, 0, .null), (30, 33, .ifCond .le 34, 64, .null), (33, 34, .iload_n 2, 0, .null), (34, 35, .iconst 4, 0, .int 4), (35, 38, .if_icmp .ne 13, 48, .null), (38, 39, .aload_n 0, 0, .null), (39, 40, .iload_n 1, 0, .null), (40, 42, .iload 4, 0, .null), (42, 45, .invokevirtual 233, 0, .null), (45, 48, .goto 13, 58, .null), (48, 49, .aload_n 0, 0, .null), (49, 50, .iload_n 1, 0, .null), (50, 51, .iload_n 2, 0, .null), (51, 53, .iload 5, 0, .null), (53, 55, .iload 4, 0, .null), (55, 58, .invokevirtual 237, 0, .null), (58, 61, .iinc 5 (-1), 0, .null), (61, 64, .goto (-33), 28, .null), (64, 65, .return_, 0, .null)]
def ct174 : List Rw := [(0, 1, .iload_n 0, 0, .null), (1, 2, .i2l, 0, .null), (2, 3, .lconst 1, 0, .long 1), (3, 6, .ldc2_w 241, 0, .long 12), (6, 9, .invokestatic 111, 0, .null), (9, 10, .ireturn, 0, .null)]
def ct175 : List Rw := [(0, 1, .aload_n 0, 0, .null), (1, 2, .iload_n 1, 0, .null), (2, 5, .invokevirtual 125, 0, .null), (5, 8, .ifCond .ne 33, 38, .null), (8, 9, .iload_n 2, 0, .null), (9, 10, .i2l, 0, .null), (10, 11, .lconst 0, 0, .long 0), (11, 14, .ldc2_w 198, 0, .long 4), (14, 17, .invokestatic 111, 0, .null), (17, 20, .ifCond .eq 21, 38, .null), (20, 21, .iload_n 3, 0, .null), (21, 24, .invokestatic 243, 0, .null), (24, 27, .ifCond .eq 14, 38, .null), (27, 29, .iload 4, 0, .null), (29, 30, .i2l, 0, .null), (30, 31, .lconst 0, 0, .long 0), (31, 32, .lconst 1, 0, .long 1), (32, 35, .invokestatic 111, 0, .null), (35, 38, .ifCond .ne 7, 42, .null), (38, 41, .invokestatic 97, 0, .null), (41, 42, .lreturn, 0, .null), (42, 43, .aload_n 0, 0, .null), (43, 44, .iload_n 1, 0, .null), (44, 45, .iload_n 2, 0, .null), (45, 46, .iload_n 3, 0, .null), (46, 48, .iload 4, 0, .null), (48, 51, .invokevirtual 246, 0, .null), (51, 52, .aload_n 0, 0, .null), (52, 55, .getfield 31, 0, .null), (55, 56, .iload_n 2, 0, .null), (56, 57, .iconst 4, 0, .int 4), (57, 60, .if_icmp .ne 22, 79, .null), (60, 61, .aload_n 0, 0, .null), (61, 62, .iload_n 1, 0, .null), (62, 63, .aload_n 0, 0, .null), (63, 64, .iload_n 1, 0, .null), (64, 67, .invokevirtual 187, 0, .null), (67, 68, .aload_n 0, 0, .null), (68, 71, .getfield 7, 0, .null), (71, 72, .iload_n 1, 0, .null), (72, 73, .iaload, 0, .null), (73, 76, .invokevirtual 190, 0, .null), (76, 79, .goto 8, 84, .null), (79, 80, .aload_n 0, 0, .null), (80, 81, .iload_n 1, 0, .null), (81, 84, .invokevirtual 187, 0, .null), (84, 85, .laload, 0, .null), (85, 86, .lreturn, 0, .null)]
def ct176 : List Rw := [(0, 1, .aload_n 0, 0, .null), (1, 2, .iload_n 1, 0, .null), (2, 5, .invokevirtual 125, 0, .null), (5, 8, .ifCond .eq 5, 10, .null), (8, 9, .iconst (-1), 0, .int (-1)), (9, 10, .ireturn, 0, .null), (10, 11, .iload_n 2, 0, .null), (11, 14, .invokestatic 243, 0, .null), (14, 17, .ifCond .eq 13, 27, .null), (17, 18, .iload_n 3, 0, .null), (18, 19, .i2l, 0, .null), (19, 20, .lconst 0, 0, .long 0), (20, 21, .lconst 1, 0, .long 1), (21, 24, .invokestatic 111, 0, .null), (24, 27, .ifCond .ne 6, 30, .null), (27, 29, .bipush (-2), 0, .int (-2)), (29, 30, .ireturn, 0, .null), (30, 31, .aload_n 0, 0, .null), (31, 32, .iload_n 1, 0, .null), (32, 33, .iconst 0, 0, .int 0), (33, 34, .iload_n 2, 0, .null), (34, 35, .iconst 0, 0, .int 0), (35, 38, .invokevirtual 246, 0, .null), (38, 39, .aload_n 0, 0, .null), (39, 42, .getfield 35, 0, .null), (42, 43, .aload_n 0, 0, .null), (43, 44, .iload_n 1, 0, .null), (44, 47, .invokevirtual 187, 0, .null), (47, 48, .laload, 0, .null), (48, 49, .l2i, 0, .null), (49, 51, .istore 4, 0, .null), (51, 52, .iload_n 3, 0, .null), (52, 55, .ifCond .ne 11, 63, .null), (55, 57, .iload 4, 0, .null), (57, 59, .bipush 10, 0, .int 10), (59, 60, .idiv, 0, .null), (60, 63, .goto 8, 68, .null), (63, 65, .iload 4, 0, .null), (65, 67, .bipush 10, 0, .int 10), (67, 68, .irem, 0, .null), (68, 69, .ireturn, 0, .null)]
def ct177 : List Rw := [(0, 1, .aload_n 0, 0, .null), (1, 2, .iload_n 1, 0, .null), (2, 3, .iconst 0, 0, .int 0), (3, 5, .iload 4, 0, .null), (5, 6, .iconst 0, 0, .int 0), (6, 9, .invokevirtual 246, 0, .null), (9, 10, .aload_n 0, 0, .null), (10, 13, .getfield 31, 0, .null), (13, 14, .aload_n 0, 0, .null), (14, 15, .iload_n 1, 0, .null), (15, 18, .invokevirtual 187, 0, .null), (18, 19, .iload_n 3, 0, .null), (19, 20, .iload_n 2, 0, .null), (20, 23, .invokestatic 206, 0, .null), (23, 24, .imul, 0, .null), (24, 25, .iadd, 0, .null), (25, 26, .laload, 0, .null), (26, 27, .lreturn, 0, .null)]
def ct178 : List Rw := [(0, 1, .aload_n 0, 0, .null), (1, 2, .iload_n 1, 0, .null), (2, 3, .iload_n 2, 0, .null), (3, 6, .invokevirtual 195, 0, .null), (6, 9, .ifCond .ne 21, 27, .null), (9, 10, .iload_n 3, 0, .null), (10, 13, .invokestatic 243, 0, .null), (13, 16, .ifCond .eq 14, 27, .null), (16, 17, .aload_n 0, 0, .null), (17, 18, .iload_n 1, 0, .null), (18, 19, .iload_n 2, 0, .null), (19, 20, .iconst 0, 0, .int 0), (20, 23, .invokevirtual 183, 0, .null), (23, 24, .iconst 5, 0, .int 5), (24, 27, .if_icmp .ne 7, 31, .null), (27, 30, .invokestatic 97, 0, .null), (30, 31, .lreturn, 0, .null), (31, 32, .aload_n 0, 0, .null), (32, 33, .iload_n 1, 0, .null), (33, 34, .iload_n 2, 0, .null), (34, 35, .iconst 1, 0, .int 1), (35, 36, .iload_n 3, 0, .null), (36, 39, .invokevirtual 249, 0, .null), (39, 40, .aload_n 0, 0, .null), (40, 41, .iload_n 1, 0, .null), (41, 42, .iload_n 2, 0, .null), (42, 43, .iconst 0, 0, .int 0), (43, 44, .iload_n 3, 0, .null), (44, 47, .invokevirtual 249, 0, .null), (47, 48, .lsub, 0, .null), (48, 49, .lreturn, 0, .null)]
def ct179_0 : List Rw := [(0, 1, .aload_n 0, 0, .null), (1, 2, .iload_n 1, 0, .null), (2, 5, .invokevirtual 125, 0, .null), (5, 8, .ifCond .ne 24, 29, .null), (8, 10, .iload 4, 0, .null), (10, 11, .i2l, 0, .null), (11, 14, .ldc2_w 220, 0, .long (-1)), (14, 15, .aload_n 0, 0, .null), (15, 18, .getfield 13, 0, .null), (18, 19, .iload_n 1, 0, .null), (19, 20, .iaload, 0, .null), (20, 21, .i2l, 0, .null), (21, 22, .lconst 1, 0, .long 1), (22, 23, .lsub, 0, .null), (23, 26, .invokestatic 111, 0, .null), (26, 29, .ifCond .ne 5, 31, .null), (29, 30, .iconst (-1), 0, .int (-1)), (30, 31, .ireturn, 0, .null), (31, 32, .iload_n 2, 0, .null), (32, 33, .i2l, 0, .null), (33, 34, .lconst 0, 0, .long 0), (34, 37, .ldc2_w 253, 0, .long 30), (37, 40, .invokestatic 111, 0, .null), (40, 43, .ifCond .eq 10, 50, .null), (43, 44, .iload_n 3, 0, .null), (44, 47, .invokestatic 243, 0, .null), (47, 50, .ifCond .ne 6, 53, .null), (50, 52, .bipush (-2), 0, .int (-2)), (52, 53, .ireturn, 0, .null), (53, 54, .aload_n 0, 0, .null), (54, 55, .iload_n 1, 0, .null), (55, 56, .iconst 0, 0, .int 0), (56, 57, .iload_n 3, 0, .null), (57, 58, .iconst 0, 0, .int 0), (58, 61, .invokevirtual 246, 0, .null), (61, 62, .aload_n 0, 0, .null), (62, 65, .getfield 13, 0, .null), (65, 66, .iload_n 1, 0, .null), (66, 67, .iaload, 0, .null), (67, 70, .invokestatic 206, 0, .null), (70, 72, .istore 5, 0, .null), (72, 73, .iconst 0, 0, .int 0), (73, 75, .istore 6, 0, .null), (75, 77, .bipush (-9), 0, .int (-9)), (77, 79, .istore 7, 0, .null), (79, 80, .iconst 0, 0, .int 0), (80, 82, .istore 8, 0, .null), (82, 84, .iload 8, 0, .null), (84, 86, .iload 5, 0, .null), (86, 89, .if_icmp .ge 214, 300, .null), (89, 90, .iconst 0, 0, .int 0), (90, 92, .istore 9, 0, .null), (92, 93, .iconst 0, 0, .int 0), (93, 95, .istore 10, 0, .null), (95, 96, .iconst 1, 0, .int 1), (96, 98, .istore 11, 0, .null), (98, 99, .iconst 0, 0, .int 0), (99, 101, .istore 12, 0, .null), (101, 103, .iload 12, 0, .null), (103, 104, .aload_n 0, 0, .null)]
def ct179_1 : List Rw := [(104, 107, .getfield 13, 0, .null), (107, 108, .iload_n 1, 0, .null), (108, 109, .iaload, 0, .null), (109, 112, .if_icmp .ge 88, 197, .null), (112, 114, .iload 8, 0, .null), (114, 115, .aload_n 0, 0, .null), (115, 118, .getfield 13, 0, .null), (118, 119, .iload_n 1, 0, .null), (119, 120, .iaload, 0, .null), (120, 121, .iconst 1, 0, .int 1), (121, 122, .isub, 0, .null), (122, 124, .iload 12, 0, .null), (124, 125, .isub, 0, .null), (125, 128, .invokestatic 206, 0, .null), (128, 129, .idiv, 0, .null), (129, 131, .bipush 6, 0, .int 6), (131, 132, .irem, 0, .null), (132, 134, .istore 13, 0, .null), (134, 136, .iload 9, 0, .null), (136, 138, .iload 13, 0, .null), (138, 140, .iload 12, 0, .null), (140, 143, .invokestatic 206, 0, .null), (143, 144, .imul, 0, .null), (144, 145, .iadd, 0, .null), (145, 147, .istore 9, 0, .null), (147, 149, .iload 10, 0, .null), (149, 151, .iload 13, 0, .null), (151, 152, .aload_n 0, 0, .null), (152, 153, .iload_n 1, 0, .null), (153, 155, .iload 12, 0, .null), (155, 156, .iconst 3, 0, .int 3), (156, 159, .invokevirtual 183, 0, .null), (159, 160, .imul, 0, .null), (160, 161, .iadd, 0, .null), (161, 163, .istore 10, 0, .null), (163, 165, .iload 11, 0, .null), (165, 168, .ifCond .eq 23, 188, .null), (168, 170, .iload 13, 0, .null), (170, 171, .aload_n 0, 0, .null), (171, 172, .iload_n 1, 0, .null), (172, 174, .iload 12, 0, .null), (174, 175, .iconst 0, 0, .int 0), (175, 178, .invokevirtual 183, 0, .null), (178, 179, .iadd, 0, .null), (179, 181, .bipush 6, 0, .int 6), (181, 184, .if_icmp .ge 7, 188, .null), (184, 185, .iconst 1, 0, .int 1), (185, 188, .goto 4, 189, .null), (188, 189, .iconst 0, 0, .int 0), (189, 191, .istore 11, 0, .null), (191, 194, .iinc 12 1, 0, .null), (194, 197, .goto (-93), 101, .null), (197, 199, .iload 11, 0, .null), (199, 202, .ifCond .eq 13, 212, .null), (202, 204, .iload 10, 0, .null), (204, 205, .iload_n 2, 0, .null), (205, 208, .if_icmp .gt 7, 212, .null), (208, 209, .iconst 1, 0, .int 1), (209, 212, .goto 4, 213, .null), (212, 213, .iconst 0, 0, .int 0)]
def ct179_2 : List Rw := [(213, 215, .istore 11, 0, .null), (215, 217, .iload 11, 0, .null), (217, 220, .ifCond .eq 33, 250, .null), (220, 221, .aload_n 0, 0, .null), (221, 224, .getfield 31, 0, .null), (224, 225, .aload_n 0, 0, .null), (225, 226, .iload_n 1, 0, .null), (226, 229, .invokevirtual 187, 0, .null), (229, 231, .iload 9, 0, .null), (231, 232, .iadd, 0, .null), (232, 233, .laload, 0, .null), (233, 234, .aload_n 0, 0, .null), (234, 237, .getfield 31, 0, .null), (237, 238, .aload_n 0, 0, .null), (238, 239, .iload_n 1, 0, .null), (239, 242, .invokevirtual 187, 0, .null), (242, 244, .iload 6, 0, .null), (244, 245, .iadd, 0, .null), (245, 246, .laload, 0, .null), (246, 247, .lsub, 0, .null), (247, 250, .goto 6, 253, .null), (250, 253, .ldc2_w 220, 0, .long (-1)), (253, 255, .lstore 12, 0, .null), (255, 257, .iload 11, 0, .null), (257, 260, .ifCond .eq 37, 294, .null), (260, 262, .iload 7, 0, .null), (262, 265, .ifCond .lt 24, 286, .null), (265, 267, .lload 12, 0, .null), (267, 268, .lconst 0, 0, .long 0), (268, 269, .lcmp, 0, .null), (269, 272, .ifCond .gt 17, 286, .null), (272, 274, .lload 12, 0, .null), (274, 275, .lconst 0, 0, .long 0), (275, 276, .lcmp, 0, .null), (276, 279, .ifCond .ne 18, 294, .null), (279, 281, .iload 10, 0, .null), (281, 283, .iload 7, 0, .null), (283, 286, .if_icmp .ge 11, 294, .null), (286, 288, .iload 9, 0, .null), (288, 290, .istore 6, 0, .null), (290, 292, .iload 10, 0, .null), (292, 294, .istore 7, 0, .null), (294, 297, .iinc 8 1, 0, .null), (297, 300, .goto (-215), 82, .null), (300, 302, .iload 4, 0, .null), (302, 305, .ifCond .ge 8, 310, .null), (305, 307, .iload 7, 0, .null), (307, 310, .goto 14, 321, .null), (310, 312, .iload 6, 0, .null), (312, 314, .iload 4, 0, .null), (314, 317, .invokestatic 206, 0, .null), (317, 318, .idiv, 0, .null), (318, 320, .bipush 6, 0, .int 6), (320, 321, .irem, 0, .null), (321, 322, .ireturn, 0, .null)]
def ct179 : List Rw := ct179_0 ++ ct179_1 ++ ct179_2
def ct180 : List Rw := [(0, 1, .aload_n 0, 0, .null), (1, 2, .iload_n 1, 0, .null), (2, 3, .iload_n 3, 0, .null), (3, 6, .invokevirtual 195, 0, .null), (6, 9, .ifCond .ne 46, 52, .null), (9, 10, .aload_n 0, 0, .null), (10, 11, .iload_n 2, 0, .null), (11, 12, .iload_n 3, 0, .null), (12, 15, .invokevirtual 195, 0, .null), (15, 18, .ifCond .ne 37, 52, .null), (18, 19, .iload_n 1, 0, .null), (19, 20, .iload_n 2, 0, .null), (20, 23, .if_icmp .eq 32, 52, .null), (23, 25, .iload 4, 0, .null), (25, 28, .invokestatic 243, 0, .null), (28, 31, .ifCond .eq 24, 52, .null), (31, 32, .aload_n 0, 0, .null), (32, 33, .iload_n 1, 0, .null), (33, 34, .iload_n 3, 0, .null), (34, 35, .iconst 0, 0, .int 0), (35, 38, .invokevirtual 183, 0, .null), (38, 41, .ifCond .eq 14, 52, .null), (41, 42, .aload_n 0, 0, .null), (42, 43, .iload_n 2, 0, .null), (43, 44, .iload_n 3, 0, .null), (44, 45, .iconst 0, 0, .int 0), (45, 48, .invokevirtual 183, 0, .null), (48, 49, .iconst 5, 0, .int 5), (49, 52, .if_icmp .ne 7, 56, .null), (52, 55, .invokestatic 97, 0, .null), (55, 56, .lreturn, 0, .null), (56, 57, .aload_n 0, 0, .null), (57, 58, .iload_n 1, 0, .null), (58, 59, .iload_n 3, 0, .null), (59, 60, .iconst (-1), 0, .int (-1)), (60, 62, .iload 4, 0, .null), (62, 65, .invokevirtual 249, 0, .null), (65, 66, .aload_n 0, 0, .null), (66, 67, .iload_n 1, 0, .null), (67, 68, .iload_n 3, 0, .null), (68, 69, .iconst 0, 0, .int 0), (69, 71, .iload 4, 0, .null), (71, 74, .invokevirtual 249, 0, .null), (74, 75, .lsub, 0, .null), (75, 76, .aload_n 0, 0, .null), (76, 77, .iload_n 2, 0, .null), (77, 78, .iload_n 3, 0, .null), (78, 79, .iconst 1, 0, .int 1), (79, 81, .iload 4, 0, .null), (81, 84, .invokevirtual 249, 0, .null), (84, 85, .ladd, 0, .null), (85, 86, .aload_n 0, 0, .null), (86, 87, .iload_n 2, 0, .null), (87, 88, .iload_n 3, 0, .null), (88, 89, .iconst 0, 0, .int 0), (89, 91, .iload 4, 0, .null), (91, 94, .invokevirtual 249, 0, .null), (94, 95, .lsub, 0, .null), (95, 96, .lreturn, 0, .null)]
def ct181 : List Rw := [(0, 1, .aload_n 0, 0, .null), (1, 2, .iload_n 1, 0, .null), (2, 3, .iconst 0, 0, .int 0), (3, 5, .iload 4, 0, .null), (5, 6, .iconst 0, 0, .int 0), (6, 9, .invokevirtual 246, 0, .null), (9, 10, .aload_n 0, 0, .null), (10, 11, .iload_n 1, 0, .null), (11, 14, .invokevirtual 187, 0, .null), (14, 16, .istore 5, 0, .null), (16, 17, .aload_n 0, 0, .null), (17, 20, .getfield 31, 0, .null), (20, 22, .iload 5, 0, .null), (22, 23, .iload_n 2, 0, .null), (23, 26, .invokestatic 206, 0, .null), (26, 27, .isub, 0, .null), (27, 28, .iload_n 3, 0, .null), (28, 31, .invokestatic 206, 0, .null), (31, 32, .iadd, 0, .null), (32, 33, .laload, 0, .null), (33, 34, .aload_n 0, 0, .null), (34, 37, .getfield 31, 0, .null), (37, 39, .iload 5, 0, .null), (39, 40, .laload, 0, .null), (40, 41, .lcmp, 0, .null), (41, 44, .ifCond .le 7, 48, .null), (44, 45, .iconst 1, 0, .int 1), (45, 48, .goto 4, 49, .null), (48, 49, .iconst 0, 0, .int 0), (49, 50, .ireturn, 0, .null)]
def ct182_0 : List Rw := [(0, 1, .aload_n 0, 0, .null), (1, 2, .iload_n 1, 0, .null), (2, 3, .iload_n 3, 0, .null), (3, 6, .invokevirtual 195, 0, .null), (6, 9, .ifCond .ne 32, 38, .null), (9, 10, .aload_n 0, 0, .null), (10, 11, .iload_n 2, 0, .null), (11, 12, .iload_n 3, 0, .null), (12, 15, .invokevirtual 195, 0, .null), (15, 18, .ifCond .ne 23, 38, .null), (18, 19, .aload_n 0, 0, .null), (19, 20, .iload_n 1, 0, .null), (20, 22, .iload 4, 0, .null), (22, 25, .invokevirtual 195, 0, .null), (25, 28, .ifCond .ne 13, 38, .null), (28, 29, .aload_n 0, 0, .null), (29, 30, .iload_n 2, 0, .null), (30, 32, .iload 4, 0, .null), (32, 35, .invokevirtual 195, 0, .null), (35, 38, .ifCond .eq 5, 40, .null), (38, 39, .iconst (-1), 0, .int (-1)), (39, 40, .ireturn, 0, .null), (40, 41, .iload_n 1, 0, .null), (41, 42, .iload_n 2, 0, .null), (42, 45, .if_icmp .eq 17, 59, .null), (45, 46, .iload_n 3, 0, .null), (46, 48, .iload 4, 0, .null), (48, 51, .if_icmp .eq 11, 59, .null), (51, 53, .iload 5, 0, .null), (53, 56, .invokestatic 243, 0, .null), (56, 59, .ifCond .ne 6, 62, .null), (59, 61, .bipush (-2), 0, .int (-2)), (61, 62, .ireturn, 0, .null), (62, 63, .aload_n 0, 0, .null), (63, 64, .iload_n 1, 0, .null), (64, 65, .iload_n 3, 0, .null), (65, 66, .iconst 0, 0, .int 0), (66, 69, .invokevirtual 183, 0, .null), (69, 72, .ifCond .eq 37, 106, .null), (72, 73, .aload_n 0, 0, .null), (73, 74, .iload_n 2, 0, .null), (74, 76, .iload 4, 0, .null), (76, 77, .iconst 0, 0, .int 0), (77, 80, .invokevirtual 183, 0, .null), (80, 83, .ifCond .eq 26, 106, .null), (83, 84, .aload_n 0, 0, .null), (84, 85, .iload_n 1, 0, .null), (85, 87, .iload 4, 0, .null), (87, 88, .iconst 0, 0, .int 0), (88, 91, .invokevirtual 183, 0, .null), (91, 92, .iconst 5, 0, .int 5), (92, 95, .if_icmp .eq 14, 106, .null), (95, 96, .aload_n 0, 0, .null), (96, 97, .iload_n 2, 0, .null), (97, 98, .iload_n 3, 0, .null), (98, 99, .iconst 0, 0, .int 0), (99, 102, .invokevirtual 183, 0, .null), (102, 103, .iconst 5, 0, .int 5), (103, 106, .if_icmp .ne 6, 109, .null), (106, 108, .bipush (-3), 0, .int (-3))]
def ct182_1 : List Rw := [(108, 109, .ireturn, 0, .null), (109, 110, .aload_n 0, 0, .null), (110, 111, .iload_n 1, 0, .null), (111, 112, .iload_n 3, 0, .null), (112, 114, .iload 4, 0, .null), (114, 116, .iload 5, 0, .null), (116, 119, .invokevirtual 255, 0, .null), (119, 122, .ifCond .eq 20, 139, .null), (122, 123, .aload_n 0, 0, .null), (123, 124, .iload_n 2, 0, .null), (124, 126, .iload 4, 0, .null), (126, 127, .iload_n 3, 0, .null), (127, 129, .iload 5, 0, .null), (129, 132, .invokevirtual 255, 0, .null), (132, 135, .ifCond .eq 7, 139, .null), (135, 136, .iconst 1, 0, .int 1), (136, 139, .goto 4, 140, .null), (139, 140, .iconst 0, 0, .int 0), (140, 141, .ireturn, 0, .null)]
def ct182 : List Rw := ct182_0 ++ ct182_1
def ct183 : List Rw := [(0, 1, .iload_n 1, 0, .null), (1, 2, .i2l, 0, .null), (2, 3, .lconst 0, 0, .long 0), (3, 4, .aload_n 0, 0, .null), (4, 7, .getfield 259, 0, .null), (7, 8, .i2l, 0, .null), (8, 9, .lconst 1, 0, .long 1), (9, 10, .lsub, 0, .null), (10, 13, .invokestatic 111, 0, .null), (13, 16, .ifCond .ne 7, 20, .null), (16, 17, .iconst 1, 0, .int 1), (17, 20, .goto 4, 21, .null), (20, 21, .iconst 0, 0, .int 0), (21, 22, .ireturn, 0, .null)]
def ct184 : List Rw := [(0, 1, .iload_n 0, 0, .null), (1, 2, .i2l, 0, .null), (2, 3, .lconst 0, 0, .long 0), (3, 6, .ldc2_w 109, 0, .long 2), (6, 9, .invokestatic 111, 0, .null), (9, 12, .ifCond .ne 7, 16, .null), (12, 13, .iconst 1, 0, .int 1), (13, 16, .goto 4, 17, .null), (16, 17, .iconst 0, 0, .int 0), (17, 18, .ireturn, 0, .null)]
def ct185_0 : List Rw := [(0, 1, .iload_n 1, 0, .null), (1, 2, .i2l, 0, .null), (2, 3, .lconst 0, 0, .long 0), (3, 6, .ldc2_w 109, 0, .long 2), (6, 9, .invokestatic 111, 0, .null), (9, 12, .ifCond .eq 22, 31, .null), (12, 13, .iload_n 2, 0, .null), (13, 16, .invokestatic 262, 0, .null), (16, 19, .ifCond .ne 15, 31, .null), (19, 20, .iload_n 3, 0, .null), (20, 21, .i2l, 0, .null), (21, 22, .lconst 1, 0, .long 1), (22, 25, .ldc2_w 265, 0, .long 9), (25, 28, .invokestatic 111, 0, .null), (28, 31, .ifCond .ne 6, 34, .null), (31, 33, .bipush (-2), 0, .int (-2)), (33, 34, .ireturn, 0, .null), (34, 35, .aload_n 0, 0, .null), (35, 38, .getfield 259, 0, .null), (38, 40, .bipush 12, 0, .int 12), (40, 43, .if_icmp .ne 6, 46, .null), (43, 45, .bipush (-4), 0, .int (-4)), (45, 46, .ireturn, 0, .null), (46, 47, .aload_n 0, 0, .null), (47, 50, .getfield 44, 0, .null), (50, 51, .aload_n 0, 0, .null), (51, 54, .getfield 259, 0, .null), (54, 55, .iload_n 1, 0, .null), (55, 56, .iastore, 0, .null), (56, 57, .aload_n 0, 0, .null), (57, 60, .getfield 47, 0, .null), (60, 61, .aload_n 0, 0, .null), (61, 64, .getfield 259, 0, .null), (64, 65, .iload_n 2, 0, .null), (65, 66, .iastore, 0, .null), (66, 67, .aload_n 0, 0, .null), (67, 70, .getfield 50, 0, .null), (70, 71, .aload_n 0, 0, .null), (71, 74, .getfield 259, 0, .null), (74, 75, .iload_n 3, 0, .null), (75, 76, .iastore, 0, .null), (76, 77, .aload_n 0, 0, .null), (77, 80, .getfield 53, 0, .null), (80, 81, .aload_n 0, 0, .null), (81, 84, .getfield 259, 0, .null), (84, 85, .iconst 1, 0, .int 1), (85, 86, .bastore, 0, .null), (86, 87, .aload_n 0, 0, .null), (87, 90, .getfield 60, 0, .null), (90, 91, .aload_n 0, 0, .null), (91, 94, .getfield 259, 0, .null), (94, 96, .bipush (-9), 0, .int (-9)), (96, 97, .iastore, 0, .null), (97, 98, .aload_n 0, 0, .null), (98, 99, .dup, 0, .null), (99, 102, .getfield 259, 0, .null), (102, 103, .iconst 1, 0, .int 1), (103, 104, .iadd, 0, .null), (104, 107, .putfield 259, 0, .null), (107, 108, .aload_n 0, 0, .null)]
def ct185_1 : List Rw := [(108, 111, .getfield 259, 0, .null), (111, 112, .iconst 1, 0, .int 1), (112, 113, .isub, 0, .null), (113, 114, .ireturn, 0, .null)]
def ct185 : List Rw := ct185_0 ++ ct185_1
def ct186_0 : List Rw := [(0, 1, .aload_n 0, 0, .null), (1, 2, .iload_n 1, 0, .null), (2, 5, .invokevirtual 267, 0, .null), (5, 8, .ifCond .eq 5, 10, .null), (8, 9, .iconst (-1), 0, .int (-1)), (9, 10, .ireturn, 0, .null), (10, 11, .aload_n 0, 0, .null), (11, 14, .getfield 60, 0, .null), (14, 15, .iload_n 1, 0, .null), (15, 16, .iaload, 0, .null), (16, 19, .ifCond .ge 7, 23, .null), (19, 20, .iconst 1, 0, .int 1), (20, 23, .goto 4, 24, .null), (23, 24, .iconst 0, 0, .int 0), (24, 25, .istore_n 3, 0, .null), (25, 26, .iload_n 2, 0, .null), (26, 68, .tableswitch 129 0 6 #[42, 49, 56, 63, 78, 96, 114], 0, .null), (68, 69, .aload_n 0, 0, .null), (69, 72, .getfield 44, 0, .null), (72, 73, .iload_n 1, 0, .null), (73, 74, .iaload, 0, .null), (74, 75, .ireturn, 0, .null), (75, 76, .aload_n 0, 0, .null), (76, 79, .getfield 47, 0, .null), (79, 80, .iload_n 1, 0, .null), (80, 81, .iaload, 0, .null), (81, 82, .ireturn, 0, .null), (82, 83, .aload_n 0, 0, .null), (83, 86, .getfield 50, 0, .null), (86, 87, .iload_n 1, 0, .null), (87, 88, .iaload, 0, .null), (88, 89, .ireturn, 0, .null), (89, 90, .aload_n 0, 0, .null), (90, 93, .getfield 53, 0, .null), (93, 94, .iload_n 1, 0, .null), (94, 95, .baload, 0, .null), (95, 98, .ifCond .eq 7, 102, .null), (98, 99, .iconst 1, 0, .int 1), (99, 102, .goto 4, 103, .null), (102, 103, .iconst 0, 0, .int 0), (103, 104, .ireturn, 0, .null), (104, 105, .iload_n 3, 0, .null), (105, 108, .ifCond .eq 8, 113, .null), (108, 110, .bipush (-9), 0, .int (-9)), (110, 113, .goto 11, 121, .null), (113, 114, .aload_n 0, 0, .null), (114, 117, .getfield 60, 0, .null), (117, 118, .iload_n 1, 0, .null), (118, 119, .iaload, 0, .null), (119, 120, .iconst 3, 0, .int 3), (120, 121, .idiv, 0, .null), (121, 122, .ireturn, 0, .null), (122, 123, .iload_n 3, 0, .null), (123, 126, .ifCond .eq 8, 131, .null), (126, 128, .bipush (-9), 0, .int (-9)), (128, 131, .goto 11, 139, .null), (131, 132, .aload_n 0, 0, .null), (132, 135, .getfield 60, 0, .null), (135, 136, .iload_n 1, 0, .null), (136, 137, .iaload, 0, .null)]
def ct186_1 : List Rw := [(137, 138, .iconst 3, 0, .int 3), (138, 139, .irem, 0, .null), (139, 140, .ireturn, 0, .null), (140, 141, .aload_n 0, 0, .null), (141, 144, .getfield 57, 0, .null), (144, 145, .iload_n 1, 0, .null), (145, 146, .baload, 0, .null), (146, 149, .ifCond .eq 7, 153, .null), (149, 150, .iconst 1, 0, .int 1), (150, 153, .goto 4, 154, .null), (153, 154, .iconst 0, 0, .int 0), (154, 155, .ireturn, 0, .null), (155, 157, .bipush (-2), 0, .int (-2)), (157, 158, .ireturn, 0, .null)]
def ct186 : List Rw := ct186_0 ++ ct186_1
def ct187 : List Rw := [(0, 1, .iload_n 0, 0, .null), (1, 2, .i2l, 0, .null), (2, 3, .lconst 0, 0, .long 0), (3, 6, .ldc2_w 200, 0, .long 3), (6, 9, .invokestatic 111, 0, .null), (9, 12, .ifCond .ne 7, 16, .null), (12, 13, .iconst 1, 0, .int 1), (13, 16, .goto 4, 17, .null), (16, 17, .iconst 0, 0, .int 0), (17, 18, .ireturn, 0, .null)]
def ct188 : List Rw := [(0, 1, .iload_n 1, 0, .null), (1, 4, .invokestatic 270, 0, .null), (4, 7, .ifCond .ne 10, 14, .null), (7, 8, .iload_n 2, 0, .null), (8, 11, .invokestatic 262, 0, .null), (11, 14, .ifCond .eq 7, 18, .null), (14, 15, .iconst (-1), 0, .int (-1)), (15, 18, .goto 13, 28, .null), (18, 19, .aload_n 0, 0, .null), (19, 22, .getfield 63, 0, .null), (22, 23, .iconst 3, 0, .int 3), (23, 24, .iload_n 1, 0, .null), (24, 25, .imul, 0, .null), (25, 26, .iload_n 2, 0, .null), (26, 27, .iadd, 0, .null), (27, 28, .iaload, 0, .null), (28, 29, .ireturn, 0, .null)]
def ct189_0 : List Rw := [(0, 1, .aload_n 0, 0, .null), (1, 4, .getfield 47, 0, .null), (4, 5, .iload_n 1, 0, .null), (5, 6, .iaload, 0, .null), (6, 7, .iload_n 2, 0, .null), (7, 10, .if_icmp .ne 7, 14, .null), (10, 11, .iconst 1, 0, .int 1), (11, 14, .goto 4, 15, .null), (14, 15, .iconst 0, 0, .int 0), (15, 16, .istore_n 3, 0, .null), (16, 17, .aload_n 0, 0, .null), (17, 20, .getfield 47, 0, .null), (20, 21, .iload_n 1, 0, .null), (21, 22, .iaload, 0, .null), (22, 23, .iconst 1, 0, .int 1), (23, 24, .iadd, 0, .null), (24, 25, .iconst 3, 0, .int 3), (25, 26, .irem, 0, .null), (26, 27, .iload_n 2, 0, .null), (27, 30, .if_icmp .ne 7, 34, .null), (30, 31, .iconst 1, 0, .int 1), (31, 34, .goto 4, 35, .null), (34, 35, .iconst 0, 0, .int 0), (35, 37, .istore 4, 0, .null), (37, 38, .iload_n 3, 0, .null), (38, 41, .ifCond .eq 10, 48, .null), (41, 42, .aload_n 0, 0, .null), (42, 45, .getfield 50, 0, .null), (45, 46, .iload_n 1, 0, .null), (46, 47, .iaload, 0, .null), (47, 48, .ireturn, 0, .null), (48, 49, .aload_n 0, 0, .null), (49, 52, .getfield 44, 0, .null), (52, 53, .iload_n 1, 0, .null), (53, 54, .iaload, 0, .null), (54, 55, .iconst 2, 0, .int 2), (55, 58, .if_icmp .ne 14, 69, .null), (58, 59, .aload_n 0, 0, .null), (59, 62, .getfield 50, 0, .null), (62, 63, .iload_n 1, 0, .null), (63, 64, .iaload, 0, .null), (64, 65, .iconst 1, 0, .int 1), (65, 66, .iadd, 0, .null), (66, 69, .goto 31, 97, .null), (69, 70, .aload_n 0, 0, .null), (70, 73, .getfield 44, 0, .null), (73, 74, .iload_n 1, 0, .null), (74, 75, .iaload, 0, .null), (75, 76, .iconst 1, 0, .int 1), (76, 79, .if_icmp .ne 19, 95, .null), (79, 81, .iload 4, 0, .null), (81, 84, .ifCond .eq 14, 95, .null), (84, 85, .aload_n 0, 0, .null), (85, 88, .getfield 50, 0, .null), (88, 89, .iload_n 1, 0, .null), (89, 90, .iaload, 0, .null), (90, 91, .iconst 2, 0, .int 2), (91, 92, .iadd, 0, .null), (92, 95, .goto 5, 97, .null), (95, 97, .bipush (-9), 0, .int (-9))]
def ct189_1 : List Rw := [(97, 98, .ireturn, 0, .null)]
def ct189 : List Rw := ct189_0 ++ ct189_1
def ct190 : List Rw := [(0, 1, .aload_n 0, 0, .null), (1, 2, .iload_n 1, 0, .null), (2, 5, .invokevirtual 267, 0, .null), (5, 8, .ifCond .ne 10, 15, .null), (8, 9, .iload_n 2, 0, .null), (9, 12, .invokestatic 262, 0, .null), (12, 15, .ifCond .eq 7, 19, .null), (15, 16, .iconst (-1), 0, .int (-1)), (16, 19, .goto 9, 25, .null), (19, 20, .aload_n 0, 0, .null), (20, 21, .iload_n 1, 0, .null), (21, 22, .iload_n 2, 0, .null), (22, 25, .invokevirtual 273, 0, .null), (25, 26, .ireturn, 0, .null)]
def ct191_0 : List Rw := [(0, 1, .iload_n 2, 0, .null), (1, 3, .bipush (-9), 0, .int (-9)), (3, 6, .if_icmp .ne 7, 10, .null), (6, 7, .iconst 1, 0, .int 1), (7, 10, .goto 4, 11, .null), (10, 11, .iconst 0, 0, .int 0), (11, 13, .istore 5, 0, .null), (13, 14, .aload_n 0, 0, .null), (14, 15, .iload_n 1, 0, .null), (15, 18, .invokevirtual 267, 0, .null), (18, 21, .ifCond .ne 22, 40, .null), (21, 23, .iload 5, 0, .null), (23, 26, .ifCond .ne 19, 42, .null), (26, 27, .iload_n 2, 0, .null), (27, 30, .invokestatic 270, 0, .null), (30, 33, .ifCond .ne 10, 40, .null), (33, 34, .iload_n 3, 0, .null), (34, 37, .invokestatic 262, 0, .null), (37, 40, .ifCond .eq 5, 42, .null), (40, 41, .iconst (-1), 0, .int (-1)), (41, 42, .ireturn, 0, .null), (42, 44, .iload 4, 0, .null), (44, 45, .i2l, 0, .null), (45, 46, .lconst 0, 0, .long 0), (46, 49, .ldc2_w 276, 0, .long 11), (49, 52, .invokestatic 111, 0, .null), (52, 55, .ifCond .ne 6, 58, .null), (55, 57, .bipush (-2), 0, .int (-2)), (57, 58, .ireturn, 0, .null), (58, 60, .iload 5, 0, .null), (60, 63, .ifCond .eq 8, 68, .null), (63, 65, .bipush (-9), 0, .int (-9)), (65, 68, .goto 8, 73, .null), (68, 69, .iconst 3, 0, .int 3), (69, 70, .iload_n 2, 0, .null), (70, 71, .imul, 0, .null), (71, 72, .iload_n 3, 0, .null), (72, 73, .iadd, 0, .null), (73, 75, .istore 6, 0, .null), (75, 77, .iload 5, 0, .null), (77, 80, .ifCond .eq 7, 84, .null), (80, 81, .iconst 0, 0, .int 0), (81, 84, .goto 9, 90, .null), (84, 85, .aload_n 0, 0, .null), (85, 86, .iload_n 1, 0, .null), (86, 87, .iload_n 3, 0, .null), (87, 90, .invokevirtual 273, 0, .null), (90, 92, .istore 7, 0, .null), (92, 93, .aload_n 0, 0, .null), (93, 96, .getfield 57, 0, .null), (96, 97, .iload_n 1, 0, .null), (97, 98, .baload, 0, .null), (98, 101, .ifCond .ne 34, 132, .null), (101, 103, .iload 7, 0, .null), (103, 106, .ifCond .lt 29, 132, .null), (106, 108, .iload 5, 0, .null), (108, 111, .ifCond .ne 13, 121, .null), (111, 112, .aload_n 0, 0, .null), (112, 115, .getfield 63, 0, .null), (115, 117, .iload 6, 0, .null)]
def ct191_1 : List Rw := [(117, 118, .iaload, 0, .null), (118, 121, .ifCond .ge 14, 132, .null), (121, 122, .aload_n 0, 0, .null), (122, 125, .getfield 60, 0, .null), (125, 126, .iload_n 1, 0, .null), (126, 127, .iaload, 0, .null), (127, 129, .iload 6, 0, .null), (129, 132, .if_icmp .ne 6, 135, .null), (132, 134, .bipush (-3), 0, .int (-3)), (134, 135, .ireturn, 0, .null), (135, 136, .aload_n 0, 0, .null), (136, 139, .getfield 60, 0, .null), (139, 140, .iload_n 1, 0, .null), (140, 141, .iaload, 0, .null), (141, 144, .ifCond .lt 45, 186, .null), (144, 145, .aload_n 0, 0, .null), (145, 148, .getfield 63, 0, .null), (148, 149, .aload_n 0, 0, .null), (149, 152, .getfield 60, 0, .null), (152, 153, .iload_n 1, 0, .null), (153, 154, .iaload, 0, .null), (154, 156, .bipush (-9), 0, .int (-9)), (156, 157, .iastore, 0, .null), (157, 158, .aload_n 0, 0, .null), (158, 161, .getfield 53, 0, .null), (161, 162, .iload_n 1, 0, .null), (162, 163, .aload_n 0, 0, .null), (163, 166, .getfield 53, 0, .null), (166, 167, .iload_n 1, 0, .null), (167, 168, .baload, 0, .null), (168, 171, .ifCond .eq 16, 184, .null), (171, 173, .iload 4, 0, .null), (173, 174, .aload_n 0, 0, .null), (174, 177, .getfield 88, 0, .null), (177, 180, .if_icmp .lt 7, 184, .null), (180, 181, .iconst 1, 0, .int 1), (181, 184, .goto 4, 185, .null), (184, 185, .iconst 0, 0, .int 0), (185, 186, .bastore, 0, .null), (186, 187, .aload_n 0, 0, .null), (187, 190, .getfield 60, 0, .null), (190, 191, .iload_n 1, 0, .null), (191, 193, .iload 6, 0, .null), (193, 194, .iastore, 0, .null), (194, 196, .iload 5, 0, .null), (196, 199, .ifCond .ne 11, 207, .null), (199, 200, .aload_n 0, 0, .null), (200, 203, .getfield 63, 0, .null), (203, 205, .iload 6, 0, .null), (205, 206, .iload_n 1, 0, .null), (206, 207, .iastore, 0, .null), (207, 209, .iload 7, 0, .null), (209, 210, .ireturn, 0, .null)]
def ct191 : List Rw := ct191_0 ++ ct191_1
def ct192 : List Rw := [(0, 1, .aload_n 0, 0, .null), (1, 2, .iload_n 1, 0, .null), (2, 5, .invokevirtual 267, 0, .null), (5, 8, .ifCond .eq 5, 10, .null), (8, 9, .iconst (-1), 0, .int (-1)), (9, 10, .ireturn, 0, .null), (10, 11, .aload_n 0, 0, .null), (11, 14, .getfield 53, 0, .null), (14, 15, .iload_n 1, 0, .null), (15, 16, .baload, 0, .null), (16, 17, .iload_n 2, 0, .null), (17, 20, .if_icmp .ne 7, 24, .null), (20, 21, .iconst 0, 0, .int 0), (21, 24, .goto 4, 25, .null), (24, 25, .iconst 1, 0, .int 1), (25, 26, .istore_n 3, 0, .null), (26, 27, .aload_n 0, 0, .null), (27, 30, .getfield 53, 0, .null), (30, 31, .iload_n 1, 0, .null), (31, 32, .iload_n 2, 0, .null), (32, 33, .bastore, 0, .null), (33, 34, .iload_n 3, 0, .null), (34, 35, .ireturn, 0, .null)]
def ct193 : List Rw := [(0, 1, .aload_n 0, 0, .null), (1, 2, .iload_n 1, 0, .null), (2, 5, .invokevirtual 267, 0, .null), (5, 8, .ifCond .eq 5, 10, .null), (8, 9, .iconst (-1), 0, .int (-1)), (9, 10, .ireturn, 0, .null), (10, 11, .aload_n 0, 0, .null), (11, 14, .getfield 60, 0, .null), (14, 15, .iload_n 1, 0, .null), (15, 16, .iaload, 0, .null), (16, 19, .ifCond .lt 6, 22, .null), (19, 21, .bipush (-3), 0, .int (-3)), (21, 22, .ireturn, 0, .null), (22, 23, .aload_n 0, 0, .null), (23, 26, .getfield 57, 0, .null), (26, 27, .iload_n 1, 0, .null), (27, 28, .baload, 0, .null), (28, 29, .iload_n 2, 0, .null), (29, 32, .if_icmp .ne 7, 36, .null), (32, 33, .iconst 0, 0, .int 0), (33, 36, .goto 4, 37, .null), (36, 37, .iconst 1, 0, .int 1), (37, 38, .istore_n 3, 0, .null), (38, 39, .aload_n 0, 0, .null), (39, 42, .getfield 57, 0, .null), (42, 43, .iload_n 1, 0, .null), (43, 44, .iload_n 2, 0, .null), (44, 45, .bastore, 0, .null), (45, 46, .iload_n 3, 0, .null), (46, 47, .ireturn, 0, .null)]
def ct194 : List Rw := [(0, 1, .iload_n 1, 0, .null), (1, 2, .i2l, 0, .null), (2, 3, .lconst 0, 0, .long 0), (3, 6, .ldc2_w 241, 0, .long 12), (6, 9, .invokestatic 111, 0, .null), (9, 12, .ifCond .ne 6, 15, .null), (12, 14, .bipush (-2), 0, .int (-2)), (14, 15, .ireturn, 0, .null), (15, 16, .aload_n 0, 0, .null), (16, 19, .getfield 88, 0, .null), (19, 20, .istore_n 2, 0, .null), (20, 21, .aload_n 0, 0, .null), (21, 22, .iload_n 1, 0, .null), (22, 25, .putfield 88, 0, .null), (25, 26, .iload_n 2, 0, .null), (26, 27, .ireturn, 0, .null)]
def ct195 : List Rw := [(0, 1, .iload_n 1, 0, .null), (1, 4, .invokestatic 262, 0, .null), (4, 7, .ifCond .eq 5, 9, .null), (7, 8, .iconst (-1), 0, .int (-1)), (8, 9, .ireturn, 0, .null), (9, 10, .iload_n 2, 0, .null), (10, 11, .i2l, 0, .null), (11, 12, .lconst 0, 0, .long 0), (12, 15, .ldc2_w 241, 0, .long 12), (15, 18, .invokestatic 111, 0, .null), (18, 21, .ifCond .ne 6, 24, .null), (21, 23, .bipush (-2), 0, .int (-2)), (23, 24, .ireturn, 0, .null), (24, 25, .aload_n 0, 0, .null), (25, 28, .getfield 66, 0, .null), (28, 29, .iload_n 1, 0, .null), (29, 30, .iaload, 0, .null), (30, 31, .istore_n 3, 0, .null), (31, 32, .aload_n 0, 0, .null), (32, 35, .getfield 66, 0, .null), (35, 36, .iload_n 1, 0, .null), (36, 37, .iload_n 2, 0, .null), (37, 38, .iastore, 0, .null), (38, 39, .iload_n 3, 0, .null), (39, 40, .ireturn, 0, .null)]
def ct196 : List Rw := [(0, 1, .iconst 1, 0, .int 1), (1, 2, .istore_n 2, 0, .null), (2, 3, .iconst 3, 0, .int 3), (3, 4, .iload_n 1, 0, .null), (4, 5, .imul, 0, .null), (5, 6, .istore_n 3, 0, .null), (6, 7, .iload_n 3, 0, .null), (7, 8, .iconst 3, 0, .int 3), (8, 9, .iload_n 1, 0, .null), (9, 10, .imul, 0, .null), (10, 11, .iconst 3, 0, .int 3), (11, 12, .iadd, 0, .null), (12, 15, .if_icmp .ge 42, 54, .null), (15, 16, .iload_n 2, 0, .null), (16, 19, .ifCond .eq 30, 46, .null), (19, 20, .aload_n 0, 0, .null), (20, 23, .getfield 63, 0, .null), (23, 24, .iload_n 3, 0, .null), (24, 25, .iaload, 0, .null), (25, 28, .ifCond .lt 21, 46, .null), (28, 29, .aload_n 0, 0, .null), (29, 32, .getfield 53, 0, .null), (32, 33, .aload_n 0, 0, .null), (33, 36, .getfield 63, 0, .null), (36, 37, .iload_n 3, 0, .null), (37, 38, .iaload, 0, .null), (38, 39, .baload, 0, .null), (39, 42, .ifCond .eq 7, 46, .null), (42, 43, .iconst 1, 0, .int 1), (43, 46, .goto 4, 47, .null), (46, 47, .iconst 0, 0, .int 0), (47, 48, .istore_n 2, 0, .null), (48, 51, .iinc 3 1, 0, .null), (51, 54, .goto (-45), 6, .null), (54, 55, .iload_n 2, 0, .null), (55, 56, .ireturn, 0, .null)]
def ct197 : List Rw := [(0, 1, .iconst 0, 0, .int 0), (1, 2, .istore_n 1, 0, .null), (2, 3, .iconst 0, 0, .int 0), (3, 4, .istore_n 2, 0, .null), (4, 5, .iload_n 2, 0, .null), (5, 6, .iconst 4, 0, .int 4), (6, 9, .if_icmp .ge 27, 33, .null), (9, 10, .iload_n 1, 0, .null), (10, 11, .aload_n 0, 0, .null), (11, 12, .iload_n 2, 0, .null), (12, 15, .invokevirtual 278, 0, .null), (15, 18, .ifCond .eq 9, 24, .null), (18, 19, .iconst 1, 0, .int 1), (19, 20, .iload_n 2, 0, .null), (20, 21, .ishl, 0, .null), (21, 24, .goto 4, 25, .null), (24, 25, .iconst 0, 0, .int 0), (25, 26, .ior, 0, .null), (26, 27, .istore_n 1, 0, .null), (27, 30, .iinc 2 1, 0, .null), (30, 33, .goto (-26), 4, .null), (33, 34, .iload_n 1, 0, .null), (34, 35, .ireturn, 0, .null)]
def ct198 : List Rw := [(0, 1, .aload_n 0, 0, .null), (1, 2, .iconst 0, 0, .int 0), (2, 5, .putfield 281, 0, .null), (5, 6, .iconst 0, 0, .int 0), (6, 7, .istore_n 2, 0, .null), (7, 8, .iload_n 2, 0, .null), (8, 10, .bipush 12, 0, .int 12), (10, 13, .if_icmp .ge 39, 49, .null), (13, 14, .iload_n 1, 0, .null), (14, 15, .iload_n 2, 0, .null), (15, 16, .iconst 3, 0, .int 3), (16, 17, .idiv, 0, .null), (17, 20, .invokestatic 284, 0, .null), (20, 23, .ifCond .eq 23, 43, .null), (23, 24, .aload_n 0, 0, .null), (24, 27, .getfield 73, 0, .null), (27, 28, .aload_n 0, 0, .null), (28, 31, .getfield 281, 0, .null), (31, 32, .iload_n 2, 0, .null), (32, 33, .iastore, 0, .null), (33, 34, .aload_n 0, 0, .null), (34, 35, .dup, 0, .null), (35, 38, .getfield 281, 0, .null), (38, 39, .iconst 1, 0, .int 1), (39, 40, .iadd, 0, .null), (40, 43, .putfield 281, 0, .null), (43, 46, .iinc 2 1, 0, .null), (46, 49, .goto (-39), 7, .null), (49, 50, .return_, 0, .null)]
def ct199 : List Rw := [(0, 1, .aload_n 0, 0, .null), (1, 4, .getfield 53, 0, .null), (4, 5, .iload_n 1, 0, .null), (5, 6, .baload, 0, .null), (6, 9, .ifCond .eq 23, 29, .null), (9, 10, .aload_n 0, 0, .null), (10, 13, .getfield 57, 0, .null), (13, 14, .iload_n 1, 0, .null), (14, 15, .baload, 0, .null), (15, 18, .ifCond .ne 14, 29, .null), (18, 19, .aload_n 0, 0, .null), (19, 20, .iload_n 1, 0, .null), (20, 21, .iload_n 2, 0, .null), (21, 22, .iconst 3, 0, .int 3), (22, 23, .irem, 0, .null), (23, 26, .invokevirtual 273, 0, .null), (26, 29, .ifCond .ge 6, 32, .null), (29, 31, .bipush (-9), 0, .int (-9)), (31, 32, .ireturn, 0, .null), (32, 33, .aload_n 0, 0, .null), (33, 36, .getfield 60, 0, .null), (36, 37, .iload_n 1, 0, .null), (37, 38, .iaload, 0, .null), (38, 39, .iload_n 2, 0, .null), (39, 42, .if_icmp .ne 7, 46, .null), (42, 43, .iconst 0, 0, .int 0), (43, 46, .goto 15, 58, .null), (46, 49, .sipush 1000, 0, .int 1000), (49, 50, .aload_n 0, 0, .null), (50, 51, .iload_n 1, 0, .null), (51, 52, .iload_n 2, 0, .null), (52, 53, .iconst 3, 0, .int 3), (53, 54, .irem, 0, .null), (54, 57, .invokevirtual 273, 0, .null), (57, 58, .iadd, 0, .null), (58, 59, .ireturn, 0, .null)]
def ct200_0 : List Rw := [(0, 1, .aload_n 0, 0, .null), (1, 2, .iload_n 1, 0, .null), (2, 5, .invokevirtual 287, 0, .null), (5, 6, .iconst 1, 0, .int 1), (6, 7, .aload_n 0, 0, .null), (7, 10, .getfield 259, 0, .null), (10, 11, .ishl, 0, .null), (11, 12, .istore_n 2, 0, .null), (12, 13, .aload_n 0, 0, .null), (13, 16, .getfield 281, 0, .null), (16, 17, .istore_n 3, 0, .null), (17, 18, .iload_n 3, 0, .null), (18, 21, .ifCond .lt 151, 169, .null), (21, 22, .iconst 0, 0, .int 0), (22, 24, .istore 4, 0, .null), (24, 26, .iload 4, 0, .null), (26, 27, .iload_n 2, 0, .null), (27, 30, .if_icmp .ge 136, 163, .null), (30, 31, .iload_n 3, 0, .null), (31, 32, .aload_n 0, 0, .null), (32, 35, .getfield 281, 0, .null), (35, 38, .if_icmp .ne 7, 42, .null), (38, 39, .iconst 0, 0, .int 0), (39, 42, .goto 6, 45, .null), (42, 45, .ldc_w 291, 0, .int 1000000), (45, 47, .istore 5, 0, .null), (47, 48, .iconst 0, 0, .int 0), (48, 50, .istore 6, 0, .null), (50, 52, .iload 6, 0, .null), (52, 53, .aload_n 0, 0, .null), (53, 56, .getfield 259, 0, .null), (56, 59, .if_icmp .ge 86, 142, .null), (59, 60, .iload_n 3, 0, .null), (60, 61, .aload_n 0, 0, .null), (61, 64, .getfield 281, 0, .null), (64, 67, .if_icmp .ge 78, 142, .null), (67, 69, .iload 4, 0, .null), (69, 71, .iload 6, 0, .null), (71, 74, .invokestatic 284, 0, .null), (74, 77, .ifCond .eq 8, 82, .null), (77, 79, .bipush (-9), 0, .int (-9)), (79, 82, .goto 15, 94, .null), (82, 83, .aload_n 0, 0, .null), (83, 85, .iload 6, 0, .null), (85, 86, .aload_n 0, 0, .null), (86, 89, .getfield 73, 0, .null), (89, 90, .iload_n 3, 0, .null), (90, 91, .iaload, 0, .null), (91, 94, .invokevirtual 292, 0, .null), (94, 96, .istore 7, 0, .null), (96, 98, .iload 7, 0, .null), (98, 101, .ifCond .ge 8, 106, .null), (101, 103, .iload 5, 0, .null), (103, 106, .goto 31, 134, .null), (106, 108, .iload 5, 0, .null), (108, 110, .iload 7, 0, .null), (110, 111, .aload_n 0, 0, .null), (111, 114, .getfield 70, 0, .null), (114, 117, .sipush 4096, 0, .int 4096), (117, 118, .iload_n 3, 0, .null)]
def ct200_1 : List Rw := [(118, 119, .iconst 1, 0, .int 1), (119, 120, .iadd, 0, .null), (120, 121, .imul, 0, .null), (121, 123, .iload 4, 0, .null), (123, 124, .iconst 1, 0, .int 1), (124, 126, .iload 6, 0, .null), (126, 127, .ishl, 0, .null), (127, 128, .ior, 0, .null), (128, 129, .iadd, 0, .null), (129, 130, .iaload, 0, .null), (130, 131, .iadd, 0, .null), (131, 134, .invokestatic 179, 0, .null), (134, 136, .istore 5, 0, .null), (136, 139, .iinc 6 1, 0, .null), (139, 142, .goto (-89), 50, .null), (142, 143, .aload_n 0, 0, .null), (143, 146, .getfield 70, 0, .null), (146, 149, .sipush 4096, 0, .int 4096), (149, 150, .iload_n 3, 0, .null), (150, 151, .imul, 0, .null), (151, 153, .iload 4, 0, .null), (153, 154, .iadd, 0, .null), (154, 156, .iload 5, 0, .null), (156, 157, .iastore, 0, .null), (157, 160, .iinc 4 1, 0, .null), (160, 163, .goto (-136), 24, .null), (163, 166, .iinc 3 (-1), 0, .null), (166, 169, .goto (-149), 17, .null), (169, 170, .return_, 0, .null)]
def ct200 : List Rw := ct200_0 ++ ct200_1
def ct201 : List Rw := [(0, 1, .iconst 0, 0, .int 0), (1, 2, .istore_n 1, 0, .null), (2, 3, .iconst 0, 0, .int 0), (3, 4, .istore_n 2, 0, .null), (4, 5, .iload_n 2, 0, .null), (5, 6, .iconst 4, 0, .int 4), (6, 9, .if_icmp .ge 17, 23, .null), (9, 10, .iload_n 1, 0, .null), (10, 11, .iload_n 0, 0, .null), (11, 12, .iload_n 2, 0, .null), (12, 13, .ishr, 0, .null), (13, 14, .iconst 1, 0, .int 1), (14, 15, .iand, 0, .null), (15, 16, .iadd, 0, .null), (16, 17, .istore_n 1, 0, .null), (17, 20, .iinc 2 1, 0, .null), (20, 23, .goto (-16), 4, .null), (23, 24, .iload_n 1, 0, .null), (24, 25, .ireturn, 0, .null)]
def ct202_0 : List Rw := [(0, 1, .aload_n 0, 0, .null), (1, 2, .iconst 0, 0, .int 0), (2, 5, .putfield 295, 0, .null), (5, 6, .aload_n 0, 0, .null), (6, 7, .iconst 0, 0, .int 0), (7, 10, .putfield 298, 0, .null), (10, 11, .iconst 1, 0, .int 1), (11, 12, .istore_n 1, 0, .null), (12, 13, .iload_n 1, 0, .null), (13, 15, .bipush 16, 0, .int 16), (15, 18, .if_icmp .ge 102, 117, .null), (18, 19, .iload_n 1, 0, .null), (19, 22, .invokestatic 301, 0, .null), (22, 23, .aload_n 0, 0, .null), (23, 26, .getfield 295, 0, .null), (26, 29, .invokestatic 301, 0, .null), (29, 32, .if_icmp .le 7, 36, .null), (32, 33, .iconst 1, 0, .int 1), (33, 36, .goto 4, 37, .null), (36, 37, .iconst 0, 0, .int 0), (37, 38, .istore_n 2, 0, .null), (38, 39, .iload_n 1, 0, .null), (39, 42, .invokestatic 301, 0, .null), (42, 43, .aload_n 0, 0, .null), (43, 46, .getfield 295, 0, .null), (46, 49, .invokestatic 301, 0, .null), (49, 52, .if_icmp .lt 62, 111, .null), (52, 53, .aload_n 0, 0, .null), (53, 54, .iload_n 1, 0, .null), (54, 57, .invokevirtual 304, 0, .null), (57, 58, .aload_n 0, 0, .null), (58, 61, .getfield 70, 0, .null), (61, 62, .iconst 0, 0, .int 0), (62, 63, .iaload, 0, .null), (63, 66, .ldc_w 291, 0, .int 1000000), (66, 69, .if_icmp .ge 7, 73, .null), (69, 70, .iconst 1, 0, .int 1), (70, 73, .goto 4, 74, .null), (73, 74, .iconst 0, 0, .int 0), (74, 75, .istore_n 3, 0, .null), (75, 76, .iload_n 3, 0, .null), (76, 79, .ifCond .eq 35, 111, .null), (79, 80, .iload_n 2, 0, .null), (80, 83, .ifCond .ne 16, 96, .null), (83, 84, .aload_n 0, 0, .null), (84, 87, .getfield 70, 0, .null), (87, 88, .iconst 0, 0, .int 0), (88, 89, .iaload, 0, .null), (89, 90, .aload_n 0, 0, .null), (90, 93, .getfield 298, 0, .null), (93, 96, .if_icmp .ge 18, 111, .null), (96, 97, .aload_n 0, 0, .null), (97, 98, .iload_n 1, 0, .null), (98, 101, .putfield 295, 0, .null), (101, 102, .aload_n 0, 0, .null), (102, 103, .aload_n 0, 0, .null), (103, 106, .getfield 70, 0, .null), (106, 107, .iconst 0, 0, .int 0), (107, 108, .iaload, 0, .null), (108, 111, .putfield 298, 0, .null)]
def ct202_1 : List Rw := [(111, 114, .iinc 1 1, 0, .null), (114, 117, .goto (-102), 12, .null), (117, 118, .return_, 0, .null)]
def ct202 : List Rw := ct202_0 ++ ct202_1
def ct203 : List Rw := [(0, 1, .iload_n 1, 0, .null), (1, 2, .i2l, 0, .null), (2, 3, .lconst 0, 0, .long 0), (3, 6, .ldc2_w 200, 0, .long 3), (6, 9, .invokestatic 111, 0, .null), (9, 12, .ifCond .ne 6, 15, .null), (12, 14, .bipush (-2), 0, .int (-2)), (14, 15, .ireturn, 0, .null), (15, 16, .aload_n 0, 0, .null), (16, 19, .invokevirtual 307, 0, .null), (19, 20, .iload_n 1, 0, .null), (20, 23, .ifCond .ne 13, 33, .null), (23, 24, .aload_n 0, 0, .null), (24, 27, .getfield 295, 0, .null), (27, 30, .invokestatic 301, 0, .null), (30, 33, .goto 39, 69, .null), (33, 34, .iload_n 1, 0, .null), (34, 35, .iconst 1, 0, .int 1), (35, 38, .if_icmp .ne 14, 49, .null), (38, 39, .aload_n 0, 0, .null), (39, 42, .getfield 298, 0, .null), (42, 45, .sipush 1000, 0, .int 1000), (45, 46, .idiv, 0, .null), (46, 49, .goto 23, 69, .null), (49, 50, .iload_n 1, 0, .null), (50, 51, .iconst 2, 0, .int 2), (51, 54, .if_icmp .ne 14, 65, .null), (54, 55, .aload_n 0, 0, .null), (55, 58, .getfield 298, 0, .null), (58, 61, .sipush 1000, 0, .int 1000), (61, 62, .irem, 0, .null), (62, 65, .goto 7, 69, .null), (65, 66, .aload_n 0, 0, .null), (66, 69, .getfield 295, 0, .null), (69, 70, .ireturn, 0, .null)]
def ct204_0 : List Rw := [(0, 1, .aload_n 0, 0, .null), (1, 2, .iload_n 1, 0, .null), (2, 5, .invokevirtual 267, 0, .null), (5, 8, .ifCond .eq 5, 10, .null), (8, 9, .iconst (-1), 0, .int (-1)), (9, 10, .ireturn, 0, .null), (10, 11, .aload_n 0, 0, .null), (11, 14, .invokevirtual 307, 0, .null), (14, 15, .aload_n 0, 0, .null), (15, 16, .aload_n 0, 0, .null), (16, 19, .getfield 295, 0, .null), (19, 22, .invokevirtual 304, 0, .null), (22, 23, .iconst 0, 0, .int 0), (23, 24, .istore_n 2, 0, .null), (24, 25, .iconst 0, 0, .int 0), (25, 26, .istore_n 3, 0, .null), (26, 27, .iload_n 3, 0, .null), (27, 28, .aload_n 0, 0, .null), (28, 31, .getfield 281, 0, .null), (31, 34, .if_icmp .ge 157, 188, .null), (34, 36, .bipush (-9), 0, .int (-9)), (36, 38, .istore 4, 0, .null), (38, 39, .aload_n 0, 0, .null), (39, 42, .getfield 259, 0, .null), (42, 43, .iconst 1, 0, .int 1), (43, 44, .isub, 0, .null), (44, 46, .istore 5, 0, .null), (46, 48, .iload 5, 0, .null), (48, 51, .ifCond .lt 100, 148, .null), (51, 52, .iload_n 2, 0, .null), (52, 54, .iload 5, 0, .null), (54, 57, .invokestatic 284, 0, .null), (57, 60, .ifCond .eq 8, 65, .null), (60, 62, .bipush (-9), 0, .int (-9)), (62, 65, .goto 15, 77, .null), (65, 66, .aload_n 0, 0, .null), (66, 68, .iload 5, 0, .null), (68, 69, .aload_n 0, 0, .null), (69, 72, .getfield 73, 0, .null), (72, 73, .iload_n 3, 0, .null), (73, 74, .iaload, 0, .null), (74, 77, .invokevirtual 292, 0, .null), (77, 79, .istore 6, 0, .null), (79, 81, .iload 6, 0, .null), (81, 84, .ifCond .lt 44, 125, .null), (84, 86, .iload 6, 0, .null), (86, 87, .aload_n 0, 0, .null), (87, 90, .getfield 70, 0, .null), (90, 93, .sipush 4096, 0, .int 4096), (93, 94, .iload_n 3, 0, .null), (94, 95, .iconst 1, 0, .int 1), (95, 96, .iadd, 0, .null), (96, 97, .imul, 0, .null), (97, 98, .iload_n 2, 0, .null), (98, 99, .iconst 1, 0, .int 1), (99, 101, .iload 5, 0, .null), (101, 102, .ishl, 0, .null), (102, 103, .ior, 0, .null), (103, 104, .iadd, 0, .null), (104, 105, .iaload, 0, .null)]
def ct204_1 : List Rw := [(105, 106, .iadd, 0, .null), (106, 107, .aload_n 0, 0, .null), (107, 110, .getfield 70, 0, .null), (110, 113, .sipush 4096, 0, .int 4096), (113, 114, .iload_n 3, 0, .null), (114, 115, .imul, 0, .null), (115, 116, .iload_n 2, 0, .null), (116, 117, .iadd, 0, .null), (117, 118, .iaload, 0, .null), (118, 121, .if_icmp .ne 7, 125, .null), (121, 122, .iconst 1, 0, .int 1), (122, 125, .goto 4, 126, .null), (125, 126, .iconst 0, 0, .int 0), (126, 128, .istore 7, 0, .null), (128, 130, .iload 7, 0, .null), (130, 133, .ifCond .eq 8, 138, .null), (133, 135, .iload 5, 0, .null), (135, 138, .goto 5, 140, .null), (138, 140, .iload 4, 0, .null), (140, 142, .istore 4, 0, .null), (142, 145, .iinc 5 (-1), 0, .null), (145, 148, .goto (-99), 46, .null), (148, 150, .iload 4, 0, .null), (150, 151, .iload_n 1, 0, .null), (151, 154, .if_icmp .ne 24, 175, .null), (154, 156, .bipush 10, 0, .int 10), (156, 157, .aload_n 0, 0, .null), (157, 160, .getfield 73, 0, .null), (160, 161, .iload_n 3, 0, .null), (161, 162, .iaload, 0, .null), (162, 163, .iconst 3, 0, .int 3), (163, 164, .idiv, 0, .null), (164, 165, .imul, 0, .null), (165, 166, .aload_n 0, 0, .null), (166, 169, .getfield 73, 0, .null), (169, 170, .iload_n 3, 0, .null), (170, 171, .iaload, 0, .null), (171, 172, .iconst 3, 0, .int 3), (172, 173, .irem, 0, .null), (173, 174, .iadd, 0, .null), (174, 175, .ireturn, 0, .null), (175, 176, .iload_n 2, 0, .null), (176, 177, .iconst 1, 0, .int 1), (177, 179, .iload 4, 0, .null), (179, 180, .ishl, 0, .null), (180, 181, .ior, 0, .null), (181, 182, .istore_n 2, 0, .null), (182, 185, .iinc 3 1, 0, .null), (185, 188, .goto (-159), 26, .null), (188, 190, .bipush (-9), 0, .int (-9)), (190, 191, .ireturn, 0, .null)]
def ct204 : List Rw := ct204_0 ++ ct204_1
def ct205_0 : List Rw := [(0, 1, .aload_n 0, 0, .null), (1, 2, .iload_n 1, 0, .null), (2, 3, .iload_n 2, 0, .null), (3, 4, .iload_n 3, 0, .null), (4, 6, .iload 4, 0, .null), (6, 7, .i2l, 0, .null), (7, 10, .invokevirtual 172, 0, .null), (10, 12, .istore 5, 0, .null), (12, 14, .iload 5, 0, .null), (14, 17, .ifCond .ge 6, 20, .null), (17, 19, .iload 5, 0, .null), (19, 20, .ireturn, 0, .null), (20, 21, .aload_n 0, 0, .null), (21, 24, .invokevirtual 310, 0, .null), (24, 26, .istore 6, 0, .null), (26, 28, .bipush 60, 0, .int 60), (28, 29, .iload_n 1, 0, .null), (29, 30, .imul, 0, .null), (30, 31, .iload_n 3, 0, .null), (31, 32, .iadd, 0, .null), (32, 34, .istore 7, 0, .null), (34, 36, .iload 4, 0, .null), (36, 37, .iconst 3, 0, .int 3), (37, 39, .iload 6, 0, .null), (39, 42, .invokestatic 301, 0, .null), (42, 43, .imul, 0, .null), (43, 46, .if_icmp .lt 7, 50, .null), (46, 47, .iconst 1, 0, .int 1), (47, 50, .goto 4, 51, .null), (50, 51, .iconst 0, 0, .int 0), (51, 53, .istore 8, 0, .null), (53, 54, .iconst 0, 0, .int 0), (54, 56, .istore 9, 0, .null), (56, 58, .iload 9, 0, .null), (58, 59, .iconst 3, 0, .int 3), (59, 61, .iload 6, 0, .null), (61, 64, .invokestatic 301, 0, .null), (64, 65, .imul, 0, .null), (65, 68, .if_icmp .ge 34, 99, .null), (68, 70, .iload 8, 0, .null), (70, 73, .ifCond .eq 29, 99, .null), (73, 74, .aload_n 0, 0, .null), (74, 77, .getfield 82, 0, .null), (77, 79, .iload 7, 0, .null), (79, 81, .iload 9, 0, .null), (81, 82, .iadd, 0, .null), (82, 83, .iaload, 0, .null), (83, 84, .i2l, 0, .null), (84, 85, .lconst 0, 0, .long 0), (85, 88, .ldc2_w 276, 0, .long 11), (88, 91, .invokestatic 111, 0, .null), (91, 93, .istore 8, 0, .null), (93, 96, .iinc 9 1, 0, .null), (96, 99, .goto (-40), 56, .null), (99, 101, .iload 8, 0, .null), (101, 104, .ifCond .ne 10, 111, .null), (104, 105, .aload_n 0, 0, .null), (105, 107, .bipush (-2), 0, .int (-2)), (107, 110, .invokevirtual 105, 0, .null), (110, 111, .ireturn, 0, .null)]
def ct205_1 : List Rw := [(111, 112, .iconst 0, 0, .int 0), (112, 114, .istore 9, 0, .null), (114, 115, .iconst 0, 0, .int 0), (115, 117, .istore 10, 0, .null), (117, 118, .iconst 0, 0, .int 0), (118, 120, .istore 11, 0, .null), (120, 122, .iload 11, 0, .null), (122, 124, .bipush 12, 0, .int 12), (124, 127, .if_icmp .ge 98, 222, .null), (127, 129, .iload 6, 0, .null), (129, 131, .iload 11, 0, .null), (131, 132, .iconst 3, 0, .int 3), (132, 133, .idiv, 0, .null), (133, 136, .invokestatic 284, 0, .null), (136, 139, .ifCond .eq 80, 216, .null), (139, 140, .aload_n 0, 0, .null), (140, 143, .getfield 82, 0, .null), (143, 145, .iload 7, 0, .null), (145, 147, .iload 9, 0, .null), (147, 148, .iadd, 0, .null), (148, 149, .iaload, 0, .null), (149, 150, .aload_n 0, 0, .null), (150, 153, .getfield 66, 0, .null), (153, 154, .aload_n 0, 0, .null), (154, 157, .getfield 47, 0, .null), (157, 158, .aload_n 0, 0, .null), (158, 161, .getfield 63, 0, .null), (161, 163, .iload 11, 0, .null), (163, 164, .iaload, 0, .null), (164, 165, .iaload, 0, .null), (165, 166, .iaload, 0, .null), (166, 169, .if_icmp .ge 7, 173, .null), (169, 170, .iconst 1, 0, .int 1), (170, 173, .goto 4, 174, .null), (173, 174, .iconst 0, 0, .int 0), (174, 176, .istore 12, 0, .null), (176, 177, .aload_n 0, 0, .null), (177, 180, .getfield 53, 0, .null), (180, 181, .aload_n 0, 0, .null), (181, 184, .getfield 63, 0, .null), (184, 186, .iload 11, 0, .null), (186, 187, .iaload, 0, .null), (187, 189, .iload 12, 0, .null), (189, 192, .ifCond .ne 7, 196, .null), (192, 193, .iconst 1, 0, .int 1), (193, 196, .goto 4, 197, .null), (196, 197, .iconst 0, 0, .int 0), (197, 198, .bastore, 0, .null), (198, 200, .iload 10, 0, .null), (200, 202, .iload 12, 0, .null), (202, 205, .ifCond .eq 7, 209, .null), (205, 206, .iconst 1, 0, .int 1), (206, 209, .goto 4, 210, .null), (209, 210, .iconst 0, 0, .int 0), (210, 211, .iadd, 0, .null), (211, 213, .istore 10, 0, .null), (213, 216, .iinc 9 1, 0, .null), (216, 219, .iinc 11 1, 0, .null), (219, 222, .goto (-99), 120, .null), (222, 223, .aload_n 0, 0, .null)]
def ct205_2 : List Rw := [(223, 225, .iload 10, 0, .null), (225, 228, .invokevirtual 105, 0, .null), (228, 229, .ireturn, 0, .null)]
def ct205 : List Rw := ct205_0 ++ ct205_1 ++ ct205_2
def ct206 : List Rw := [(0, 1, .iload_n 0, 0, .null), (1, 2, .i2l, 0, .null), (2, 3, .lconst 0, 0, .long 0), (3, 6, .ldc2_w 200, 0, .long 3), (6, 9, .invokestatic 111, 0, .null), (9, 12, .ifCond .ne 7, 16, .null), (12, 13, .iconst 1, 0, .int 1), (13, 16, .goto 4, 17, .null), (16, 17, .iconst 0, 0, .int 0), (17, 18, .ireturn, 0, .null)]
def ct207 : List Rw := [(0, 1, .iload_n 1, 0, .null), (1, 4, .invokestatic 101, 0, .null), (4, 7, .ifCond .eq 9, 13, .null), (7, 8, .aload_n 0, 0, .null), (8, 9, .iconst (-1), 0, .int (-1)), (9, 12, .invokevirtual 105, 0, .null), (12, 13, .ireturn, 0, .null), (13, 14, .iload_n 2, 0, .null), (14, 15, .i2l, 0, .null), (15, 16, .lconst 0, 0, .long 0), (16, 19, .ldc2_w 109, 0, .long 2), (19, 22, .invokestatic 111, 0, .null), (22, 25, .ifCond .eq 9, 31, .null), (25, 26, .iload_n 3, 0, .null), (26, 28, .bipush 60, 0, .int 60), (28, 31, .if_icmp .le 10, 38, .null), (31, 32, .aload_n 0, 0, .null), (32, 34, .bipush (-2), 0, .int (-2)), (34, 37, .invokevirtual 105, 0, .null), (37, 38, .ireturn, 0, .null), (38, 39, .iload_n 3, 0, .null), (39, 42, .ifCond .ge 9, 48, .null), (42, 43, .aload_n 0, 0, .null), (43, 44, .iconst 4, 0, .int 4), (44, 47, .invokevirtual 115, 0, .null), (47, 48, .ireturn, 0, .null), (48, 49, .aload_n 0, 0, .null), (49, 52, .getfield 76, 0, .null), (52, 53, .iload_n 1, 0, .null), (53, 54, .iload_n 3, 0, .null), (54, 55, .iastore, 0, .null), (55, 56, .aload_n 0, 0, .null), (56, 59, .getfield 79, 0, .null), (59, 60, .iload_n 1, 0, .null), (60, 61, .iload_n 2, 0, .null), (61, 62, .iastore, 0, .null), (62, 63, .iconst 0, 0, .int 0), (63, 65, .istore 4, 0, .null), (65, 67, .iload 4, 0, .null), (67, 68, .iload_n 3, 0, .null), (68, 71, .if_icmp .ge 22, 90, .null), (71, 72, .aload_n 0, 0, .null), (72, 75, .getfield 82, 0, .null), (75, 77, .bipush 60, 0, .int 60), (77, 78, .iload_n 1, 0, .null), (78, 79, .imul, 0, .null), (79, 81, .iload 4, 0, .null), (81, 82, .iadd, 0, .null), (82, 83, .iconst 0, 0, .int 0), (83, 84, .iastore, 0, .null), (84, 87, .iinc 4 1, 0, .null), (87, 90, .goto (-22), 65, .null), (90, 91, .aload_n 0, 0, .null), (91, 92, .iconst 1, 0, .int 1), (92, 95, .invokevirtual 105, 0, .null), (95, 96, .ireturn, 0, .null)]
def ct208 : List Rw := [(0, 1, .iload_n 1, 0, .null), (1, 4, .invokestatic 101, 0, .null), (4, 7, .ifCond .eq 5, 9, .null), (7, 8, .iconst (-1), 0, .int (-1)), (8, 9, .ireturn, 0, .null), (9, 10, .aload_n 0, 0, .null), (10, 13, .getfield 76, 0, .null), (13, 14, .iload_n 1, 0, .null), (14, 15, .iaload, 0, .null), (15, 18, .ifCond .ge 7, 22, .null), (18, 19, .iconst 0, 0, .int 0), (19, 22, .goto 4, 23, .null), (22, 23, .iconst 1, 0, .int 1), (23, 24, .istore_n 2, 0, .null), (24, 25, .aload_n 0, 0, .null), (25, 28, .getfield 76, 0, .null), (28, 29, .iload_n 1, 0, .null), (29, 30, .iconst (-1), 0, .int (-1)), (30, 31, .iastore, 0, .null), (31, 32, .iload_n 2, 0, .null), (32, 33, .ireturn, 0, .null)]
def ct209 : List Rw := [(0, 1, .aload_n 0, 0, .null), (1, 4, .getfield 76, 0, .null), (4, 5, .iload_n 1, 0, .null), (5, 6, .iaload, 0, .null), (6, 9, .ifCond .ge 7, 13, .null), (9, 10, .iconst 1, 0, .int 1), (10, 13, .goto 26, 36, .null), (13, 14, .iload_n 2, 0, .null), (14, 15, .i2l, 0, .null), (15, 16, .lconst 0, 0, .long 0), (16, 17, .aload_n 0, 0, .null), (17, 20, .getfield 76, 0, .null), (20, 21, .iload_n 1, 0, .null), (21, 22, .iaload, 0, .null), (22, 23, .i2l, 0, .null), (23, 24, .lconst 1, 0, .long 1), (24, 25, .lsub, 0, .null), (25, 28, .invokestatic 111, 0, .null), (28, 31, .ifCond .eq 7, 35, .null), (31, 32, .iconst 0, 0, .int 0), (32, 35, .goto 4, 36, .null), (35, 36, .iconst 3, 0, .int 3), (36, 37, .ireturn, 0, .null)]
def ct210 : List Rw := [(0, 1, .iload_n 1, 0, .null), (1, 4, .invokestatic 101, 0, .null), (4, 7, .ifCond .eq 9, 13, .null), (7, 8, .aload_n 0, 0, .null), (8, 9, .iconst (-1), 0, .int (-1)), (9, 12, .invokevirtual 105, 0, .null), (12, 13, .ireturn, 0, .null), (13, 14, .aload_n 0, 0, .null), (14, 15, .iload_n 1, 0, .null), (15, 16, .iload_n 2, 0, .null), (16, 19, .invokevirtual 314, 0, .null), (19, 22, .ifCond .le 14, 33, .null), (22, 23, .aload_n 0, 0, .null), (23, 24, .aload_n 0, 0, .null), (24, 25, .iload_n 1, 0, .null), (25, 26, .iload_n 2, 0, .null), (26, 29, .invokevirtual 314, 0, .null), (29, 32, .invokevirtual 115, 0, .null), (32, 33, .ireturn, 0, .null), (33, 34, .aload_n 0, 0, .null), (34, 37, .getfield 82, 0, .null), (37, 39, .bipush 60, 0, .int 60), (39, 40, .iload_n 1, 0, .null), (40, 41, .imul, 0, .null), (41, 42, .iload_n 2, 0, .null), (42, 43, .iadd, 0, .null), (43, 44, .aload_n 0, 0, .null), (44, 47, .getfield 79, 0, .null), (47, 48, .iload_n 1, 0, .null), (48, 49, .iaload, 0, .null), (49, 52, .ifCond .ne 8, 57, .null), (52, 53, .iload_n 3, 0, .null), (53, 54, .i2b, 0, .null), (54, 57, .goto 19, 73, .null), (57, 58, .aload_n 0, 0, .null), (58, 61, .getfield 79, 0, .null), (61, 62, .iload_n 1, 0, .null), (62, 63, .iaload, 0, .null), (63, 64, .iconst 1, 0, .int 1), (64, 67, .if_icmp .ne 8, 72, .null), (67, 68, .iload_n 3, 0, .null), (68, 69, .i2s, 0, .null), (69, 72, .goto 4, 73, .null), (72, 73, .iload_n 3, 0, .null), (73, 74, .iastore, 0, .null), (74, 75, .aload_n 0, 0, .null), (75, 76, .iconst 1, 0, .int 1), (76, 79, .invokevirtual 105, 0, .null), (79, 80, .ireturn, 0, .null)]
def ct211 : List Rw := [(0, 1, .aload_n 0, 0, .null), (1, 2, .iconst 0, 0, .int 0), (2, 5, .putfield 94, 0, .null), (5, 6, .iload_n 1, 0, .null), (6, 9, .invokestatic 101, 0, .null), (9, 12, .ifCond .ne 15, 24, .null), (12, 13, .iload_n 3, 0, .null), (13, 14, .i2l, 0, .null), (14, 15, .lconst 0, 0, .long 0), (15, 18, .ldc2_w 109, 0, .long 2), (18, 21, .invokestatic 111, 0, .null), (21, 24, .ifCond .ne 7, 28, .null), (24, 27, .invokestatic 97, 0, .null), (27, 28, .lreturn, 0, .null), (28, 29, .aload_n 0, 0, .null), (29, 32, .getfield 76, 0, .null), (32, 33, .iload_n 1, 0, .null), (33, 34, .iaload, 0, .null), (34, 37, .ifCond .lt 19, 53, .null), (37, 38, .aload_n 0, 0, .null), (38, 41, .getfield 79, 0, .null), (41, 42, .iload_n 1, 0, .null), (42, 43, .iaload, 0, .null), (43, 44, .iload_n 3, 0, .null), (44, 47, .if_icmp .eq 9, 53, .null), (47, 48, .aload_n 0, 0, .null), (48, 49, .iconst 2, 0, .int 2), (49, 52, .invokevirtual 317, 0, .null), (52, 53, .lreturn, 0, .null), (53, 54, .aload_n 0, 0, .null), (54, 55, .iload_n 1, 0, .null), (55, 56, .iload_n 2, 0, .null), (56, 59, .invokevirtual 314, 0, .null), (59, 62, .ifCond .le 16, 75, .null), (62, 63, .aload_n 0, 0, .null), (63, 64, .aload_n 0, 0, .null), (64, 65, .iload_n 1, 0, .null), (65, 66, .iload_n 2, 0, .null), (66, 69, .invokevirtual 314, 0, .null), (69, 72, .invokevirtual 317, 0, .null), (72, 75, .goto 15, 87, .null), (75, 76, .aload_n 0, 0, .null), (76, 79, .getfield 82, 0, .null), (79, 81, .bipush 60, 0, .int 60), (81, 82, .iload_n 1, 0, .null), (82, 83, .imul, 0, .null), (83, 84, .iload_n 2, 0, .null), (84, 85, .iadd, 0, .null), (85, 86, .iaload, 0, .null), (86, 87, .i2l, 0, .null), (87, 88, .lreturn, 0, .null)]
def ct212 : List Rw := [(0, 1, .iload_n 0, 0, .null), (1, 4, .ifCond .lt 19, 20, .null), (4, 5, .lload_n 1, 0, .null), (5, 6, .lconst 0, 0, .long 0), (6, 7, .lcmp, 0, .null), (7, 10, .ifCond .lt 13, 20, .null), (10, 11, .iload_n 0, 0, .null), (11, 12, .i2l, 0, .null), (12, 13, .lload_n 1, 0, .null), (13, 14, .ladd, 0, .null), (14, 15, .iload_n 3, 0, .null), (15, 16, .i2l, 0, .null), (16, 17, .lcmp, 0, .null), (17, 20, .ifCond .le 7, 24, .null), (20, 21, .iconst 1, 0, .int 1), (21, 24, .goto 4, 25, .null), (24, 25, .iconst 0, 0, .int 0), (25, 26, .ireturn, 0, .null)]
def ct213_0 : List Rw := [(0, 1, .iload_n 1, 0, .null), (1, 4, .invokestatic 101, 0, .null), (4, 7, .ifCond .ne 10, 14, .null), (7, 8, .iload_n 3, 0, .null), (8, 11, .invokestatic 101, 0, .null), (11, 14, .ifCond .eq 9, 20, .null), (14, 15, .aload_n 0, 0, .null), (15, 16, .iconst (-1), 0, .int (-1)), (16, 19, .invokevirtual 105, 0, .null), (19, 20, .ireturn, 0, .null), (20, 21, .aload_n 0, 0, .null), (21, 24, .getfield 76, 0, .null), (24, 25, .iload_n 1, 0, .null), (25, 26, .iaload, 0, .null), (26, 29, .ifCond .lt 12, 38, .null), (29, 30, .aload_n 0, 0, .null), (30, 33, .getfield 76, 0, .null), (33, 34, .iload_n 3, 0, .null), (34, 35, .iaload, 0, .null), (35, 38, .ifCond .ge 9, 44, .null), (38, 39, .aload_n 0, 0, .null), (39, 40, .iconst 1, 0, .int 1), (40, 43, .invokevirtual 115, 0, .null), (43, 44, .ireturn, 0, .null), (44, 45, .aload_n 0, 0, .null), (45, 48, .getfield 79, 0, .null), (48, 49, .iload_n 1, 0, .null), (49, 50, .iaload, 0, .null), (50, 51, .aload_n 0, 0, .null), (51, 54, .getfield 79, 0, .null), (54, 55, .iload_n 3, 0, .null), (55, 56, .iaload, 0, .null), (56, 59, .if_icmp .eq 9, 65, .null), (59, 60, .aload_n 0, 0, .null), (60, 61, .iconst 2, 0, .int 2), (61, 64, .invokevirtual 115, 0, .null), (64, 65, .ireturn, 0, .null), (65, 66, .iload_n 2, 0, .null), (66, 68, .iload 5, 0, .null), (68, 69, .i2l, 0, .null), (69, 70, .aload_n 0, 0, .null), (70, 73, .getfield 76, 0, .null), (73, 74, .iload_n 1, 0, .null), (74, 75, .iaload, 0, .null), (75, 78, .invokestatic 118, 0, .null), (78, 81, .ifCond .ne 20, 98, .null), (81, 83, .iload 4, 0, .null), (83, 85, .iload 5, 0, .null), (85, 86, .i2l, 0, .null), (86, 87, .aload_n 0, 0, .null), (87, 90, .getfield 76, 0, .null), (90, 91, .iload_n 3, 0, .null), (91, 92, .iaload, 0, .null), (92, 95, .invokestatic 118, 0, .null), (95, 98, .ifCond .eq 9, 104, .null), (98, 99, .aload_n 0, 0, .null), (99, 100, .iconst 3, 0, .int 3), (100, 103, .invokevirtual 115, 0, .null), (103, 104, .ireturn, 0, .null), (104, 105, .iconst 0, 0, .int 0)]
def ct213_1 : List Rw := [(105, 107, .istore 6, 0, .null), (107, 109, .iload 6, 0, .null), (109, 111, .iload 5, 0, .null), (111, 114, .if_icmp .ge 30, 141, .null), (114, 115, .aload_n 0, 0, .null), (115, 118, .getfield 85, 0, .null), (118, 120, .iload 6, 0, .null), (120, 121, .aload_n 0, 0, .null), (121, 124, .getfield 82, 0, .null), (124, 126, .bipush 60, 0, .int 60), (126, 127, .iload_n 1, 0, .null), (127, 128, .imul, 0, .null), (128, 129, .iload_n 2, 0, .null), (129, 130, .iadd, 0, .null), (130, 132, .iload 6, 0, .null), (132, 133, .iadd, 0, .null), (133, 134, .iaload, 0, .null), (134, 135, .iastore, 0, .null), (135, 138, .iinc 6 1, 0, .null), (138, 141, .goto (-31), 107, .null), (141, 142, .iconst 0, 0, .int 0), (142, 144, .istore 6, 0, .null), (144, 146, .iload 6, 0, .null), (146, 148, .iload 5, 0, .null), (148, 151, .if_icmp .ge 31, 179, .null), (151, 152, .aload_n 0, 0, .null), (152, 155, .getfield 82, 0, .null), (155, 157, .bipush 60, 0, .int 60), (157, 158, .iload_n 3, 0, .null), (158, 159, .imul, 0, .null), (159, 161, .iload 4, 0, .null), (161, 162, .iadd, 0, .null), (162, 164, .iload 6, 0, .null), (164, 165, .iadd, 0, .null), (165, 166, .aload_n 0, 0, .null), (166, 169, .getfield 85, 0, .null), (169, 171, .iload 6, 0, .null), (171, 172, .iaload, 0, .null), (172, 173, .iastore, 0, .null), (173, 176, .iinc 6 1, 0, .null), (176, 179, .goto (-32), 144, .null), (179, 180, .aload_n 0, 0, .null), (180, 182, .iload 5, 0, .null), (182, 185, .invokevirtual 105, 0, .null), (185, 186, .ireturn, 0, .null)]
def ct213 : List Rw := ct213_0 ++ ct213_1
def ct214 : List Rw := [(0, 1, .aload_n 0, 0, .null), (1, 3, .bipush 31, 0, .int 31), (3, 4, .aload_n 0, 0, .null), (4, 7, .getfield 321, 0, .null), (7, 8, .imul, 0, .null), (8, 9, .iload_n 1, 0, .null), (9, 10, .iadd, 0, .null), (10, 13, .putfield 321, 0, .null), (13, 14, .return_, 0, .null)]
def ct215 : List Rw := [(0, 1, .aload_n 0, 0, .null), (1, 2, .iload_n 1, 0, .null), (2, 5, .invokevirtual 267, 0, .null), (5, 8, .ifCond .eq 5, 10, .null), (8, 9, .iconst (-1), 0, .int (-1)), (9, 10, .ireturn, 0, .null), (10, 11, .aload_n 0, 0, .null), (11, 14, .getfield 44, 0, .null), (14, 15, .iload_n 1, 0, .null), (15, 16, .iaload, 0, .null), (16, 17, .istore_n 2, 0, .null), (17, 18, .iload_n 2, 0, .null), (18, 19, .iconst 2, 0, .int 2), (19, 22, .if_icmp .ne 8, 27, .null), (22, 23, .aload_n 0, 0, .null), (23, 24, .iconst 3, 0, .int 3), (24, 27, .invokevirtual 324, 0, .null), (27, 28, .iload_n 2, 0, .null), (28, 31, .ifCond .le 8, 36, .null), (31, 32, .aload_n 0, 0, .null), (32, 33, .iconst 2, 0, .int 2), (33, 36, .invokevirtual 324, 0, .null), (36, 37, .aload_n 0, 0, .null), (37, 38, .iconst 1, 0, .int 1), (38, 41, .invokevirtual 324, 0, .null), (41, 42, .iload_n 2, 0, .null), (42, 43, .iconst 2, 0, .int 2), (43, 46, .if_icmp .ne 8, 51, .null), (46, 47, .aload_n 0, 0, .null), (47, 48, .iconst 1, 0, .int 1), (48, 51, .invokevirtual 324, 0, .null), (51, 52, .aload_n 0, 0, .null), (52, 55, .getfield 50, 0, .null), (55, 56, .iload_n 1, 0, .null), (56, 57, .iaload, 0, .null), (57, 58, .istore_n 3, 0, .null), (58, 59, .iload_n 2, 0, .null), (59, 62, .ifCond .ne 7, 66, .null), (62, 63, .iload_n 3, 0, .null), (63, 66, .goto 21, 84, .null), (66, 67, .iload_n 2, 0, .null), (67, 68, .iconst 1, 0, .int 1), (68, 71, .if_icmp .ne 10, 78, .null), (71, 72, .iload_n 3, 0, .null), (72, 74, .bipush 100, 0, .int 100), (74, 75, .iadd, 0, .null), (75, 78, .goto 9, 84, .null), (78, 79, .iconst 2, 0, .int 2), (79, 80, .iload_n 3, 0, .null), (80, 81, .imul, 0, .null), (81, 83, .bipush 100, 0, .int 100), (83, 84, .iadd, 0, .null), (84, 85, .ireturn, 0, .null)]
def ct216 : List Rw := [(0, 1, .aload_n 0, 0, .null), (1, 2, .iload_n 1, 0, .null), (2, 5, .invokevirtual 267, 0, .null), (5, 8, .ifCond .eq 5, 10, .null), (8, 9, .iconst (-1), 0, .int (-1)), (9, 10, .ireturn, 0, .null), (10, 11, .aload_n 0, 0, .null), (11, 12, .aload_n 0, 0, .null), (12, 15, .getfield 44, 0, .null), (15, 16, .iload_n 1, 0, .null), (16, 17, .iaload, 0, .null), (17, 18, .iconst 2, 0, .int 2), (18, 21, .if_icmp .ne 7, 25, .null), (21, 22, .iconst 5, 0, .int 5), (22, 25, .goto 4, 26, .null), (25, 26, .iconst 4, 0, .int 4), (26, 29, .invokevirtual 324, 0, .null), (29, 30, .aload_n 0, 0, .null), (30, 33, .getfield 44, 0, .null), (33, 34, .iload_n 1, 0, .null), (34, 35, .iaload, 0, .null), (35, 36, .iconst 2, 0, .int 2), (36, 39, .if_icmp .ne 8, 44, .null), (39, 41, .bipush 60, 0, .int 60), (41, 44, .goto 4, 45, .null), (44, 45, .iload_n 1, 0, .null), (45, 46, .ireturn, 0, .null)]
def ct217 : List Rw := [(0, 1, .aload_n 0, 0, .null), (1, 2, .iload_n 1, 0, .null), (2, 5, .invokevirtual 267, 0, .null), (5, 8, .ifCond .eq 9, 14, .null), (8, 9, .aload_n 0, 0, .null), (9, 10, .iconst (-1), 0, .int (-1)), (10, 13, .invokevirtual 105, 0, .null), (13, 14, .ireturn, 0, .null), (14, 15, .iload_n 2, 0, .null), (15, 16, .i2l, 0, .null), (16, 17, .lconst 0, 0, .long 0), (17, 20, .ldc2_w 109, 0, .long 2), (20, 23, .invokestatic 111, 0, .null), (23, 26, .ifCond .ne 10, 33, .null), (26, 27, .aload_n 0, 0, .null), (27, 29, .bipush (-2), 0, .int (-2)), (29, 32, .invokevirtual 105, 0, .null), (32, 33, .ireturn, 0, .null), (33, 34, .aload_n 0, 0, .null), (34, 37, .getfield 44, 0, .null), (37, 38, .iload_n 1, 0, .null), (38, 39, .iaload, 0, .null), (39, 40, .iload_n 2, 0, .null), (40, 43, .if_icmp .lt 11, 51, .null), (43, 44, .aload_n 0, 0, .null), (44, 45, .iconst 1, 0, .int 1), (45, 48, .invokevirtual 105, 0, .null), (48, 51, .goto 8, 56, .null), (51, 52, .aload_n 0, 0, .null), (52, 53, .iconst 2, 0, .int 2), (53, 56, .invokevirtual 115, 0, .null), (56, 57, .ireturn, 0, .null)]
def ct218 : List Rw := [(0, 1, .aload_n 0, 0, .null), (1, 4, .getfield 321, 0, .null), (4, 5, .ireturn, 0, .null)]
def ct219 : List Rw := [(0, 1, .aload_n 0, 0, .null), (1, 4, .getfield 94, 0, .null), (4, 5, .ireturn, 0, .null)]
def ct220 : List Rw := [(0, 1, .iconst 0, 0, .int 0), (1, 2, .istore_n 2, 0, .null), (2, 3, .iconst 0, 0, .int 0), (3, 4, .istore_n 3, 0, .null), (4, 5, .iconst 0, 0, .int 0), (5, 7, .istore 4, 0, .null), (7, 9, .iload 4, 0, .null), (9, 10, .aload_n 0, 0, .null), (10, 13, .getfield 259, 0, .null), (13, 16, .if_icmp .ge 45, 58, .null), (16, 17, .iload_n 2, 0, .null), (17, 18, .aload_n 0, 0, .null), (18, 21, .getfield 53, 0, .null), (21, 23, .iload 4, 0, .null), (23, 24, .baload, 0, .null), (24, 27, .ifCond .eq 7, 31, .null), (27, 28, .iconst 1, 0, .int 1), (28, 31, .goto 4, 32, .null), (31, 32, .iconst 0, 0, .int 0), (32, 33, .iadd, 0, .null), (33, 34, .istore_n 2, 0, .null), (34, 35, .iload_n 3, 0, .null), (35, 36, .aload_n 0, 0, .null), (36, 39, .getfield 57, 0, .null), (39, 41, .iload 4, 0, .null), (41, 42, .baload, 0, .null), (42, 45, .ifCond .eq 7, 49, .null), (45, 46, .iconst 1, 0, .int 1), (46, 49, .goto 4, 50, .null), (49, 50, .iconst 0, 0, .int 0), (50, 51, .iadd, 0, .null), (51, 52, .istore_n 3, 0, .null), (52, 55, .iinc 4 1, 0, .null), (55, 58, .goto (-48), 7, .null), (58, 59, .iload_n 1, 0, .null), (59, 62, .ifCond .ne 10, 69, .null), (62, 63, .aload_n 0, 0, .null), (63, 66, .getfield 122, 0, .null), (66, 69, .goto 35, 101, .null), (69, 70, .iload_n 1, 0, .null), (70, 71, .iconst 1, 0, .int 1), (71, 74, .if_icmp .ne 10, 81, .null), (74, 75, .aload_n 0, 0, .null), (75, 78, .getfield 259, 0, .null), (78, 81, .goto 23, 101, .null), (81, 82, .iload_n 1, 0, .null), (82, 83, .iconst 2, 0, .int 2), (83, 86, .if_icmp .ne 7, 90, .null), (86, 87, .iload_n 2, 0, .null), (87, 90, .goto 14, 101, .null), (90, 91, .iload_n 1, 0, .null), (91, 92, .iconst 3, 0, .int 3), (92, 95, .if_icmp .ne 7, 99, .null), (95, 96, .iload_n 3, 0, .null), (96, 99, .goto 5, 101, .null), (99, 101, .bipush (-2), 0, .int (-2)), (101, 102, .ireturn, 0, .null)]
def ct221_0 : List Rw := [(0, 3, .new 7, 0, .null), (3, 4, .dup, 0, .null), (4, 7, .invokespecial 9, 0, .null), (7, 8, .astore_n 1, 0, .null), (8, 11, .new 10, 0, .null), (11, 12, .dup, 0, .null), (12, 15, .invokespecial 12, 0, .null), (15, 16, .astore_n 2, 0, .null), (16, 17, .iconst 0, 0, .int 0), (17, 18, .istore_n 3, 0, .null), (18, 19, .iload_n 3, 0, .null), (19, 20, .aload_n 0, 0, .null), (20, 21, .arraylength, 0, .null), (21, 23, .bipush 6, 0, .int 6), (23, 24, .isub, 0, .null), (24, 27, .if_icmp .gt 1464, 1488, .null), (27, 28, .aload_n 0, 0, .null), (28, 29, .iload_n 3, 0, .null), (29, 30, .iaload, 0, .null), (30, 32, .bipush 63, 0, .int 63), (32, 33, .iand, 0, .null), (33, 184, .tableswitch 1449 0 33 #[151, 204, 237, 280, 333, 387, 430, 474, 527, 581, 644, 687, 720, 753, 786, 839, 888, 937, 960, 993, 1006, 1029, 1052, 1105, 1148, 1171, 1214, 1258, 1321, 1344, 1367, 1400, 1413, 1426], 0, .null), (184, 185, .aload_n 1, 0, .null), (185, 186, .aload_n 0, 0, .null), (186, 187, .iload_n 3, 0, .null), (187, 188, .iconst 1, 0, .int 1), (188, 189, .iadd, 0, .null), (189, 190, .iaload, 0, .null), (190, 191, .aload_n 0, 0, .null), (191, 192, .iload_n 3, 0, .null), (192, 193, .iconst 2, 0, .int 2), (193, 194, .iadd, 0, .null), (194, 195, .iaload, 0, .null), (195, 196, .aload_n 0, 0, .null), (196, 197, .iload_n 3, 0, .null), (197, 198, .iconst 3, 0, .int 3), (198, 199, .iadd, 0, .null), (199, 200, .iaload, 0, .null), (200, 201, .aload_n 0, 0, .null), (201, 202, .iload_n 3, 0, .null), (202, 203, .iconst 4, 0, .int 4), (203, 204, .iadd, 0, .null), (204, 205, .iaload, 0, .null), (205, 208, .invokevirtual 13, 0, .null), (208, 209, .aload_n 2, 0, .null), (209, 210, .aload_n 0, 0, .null), (210, 211, .iload_n 3, 0, .null), (211, 212, .iconst 1, 0, .int 1), (212, 213, .iadd, 0, .null), (213, 214, .iaload, 0, .null), (214, 215, .aload_n 0, 0, .null), (215, 216, .iload_n 3, 0, .null), (216, 217, .iconst 2, 0, .int 2), (217, 218, .iadd, 0, .null), (218, 219, .iaload, 0, .null), (219, 220, .aload_n 0, 0, .null), (220, 221, .iload_n 3, 0, .null), (221, 222, .iconst 3, 0, .int 3), (222, 223, .iadd, 0, .null), (223, 224, .iaload, 0, .null)]
def ct221_1 : List Rw := [(224, 225, .aload_n 0, 0, .null), (225, 226, .iload_n 3, 0, .null), (226, 227, .iconst 4, 0, .int 4), (227, 228, .iadd, 0, .null), (228, 229, .iaload, 0, .null), (229, 232, .invokevirtual 17, 0, .null), (232, 235, .if_icmp .eq 1250, 1482, .null), (235, 236, .iconst 0, 0, .int 0), (236, 237, .ireturn, 0, .null), (237, 238, .aload_n 1, 0, .null), (238, 239, .aload_n 0, 0, .null), (239, 240, .iload_n 3, 0, .null), (240, 241, .iconst 1, 0, .int 1), (241, 242, .iadd, 0, .null), (242, 243, .iaload, 0, .null), (243, 244, .aload_n 0, 0, .null), (244, 245, .iload_n 3, 0, .null), (245, 246, .iconst 2, 0, .int 2), (246, 247, .iadd, 0, .null), (247, 248, .iaload, 0, .null), (248, 251, .invokevirtual 18, 0, .null), (251, 252, .aload_n 2, 0, .null), (252, 253, .aload_n 0, 0, .null), (253, 254, .iload_n 3, 0, .null), (254, 255, .iconst 1, 0, .int 1), (255, 256, .iadd, 0, .null), (256, 257, .iaload, 0, .null), (257, 258, .aload_n 0, 0, .null), (258, 259, .iload_n 3, 0, .null), (259, 260, .iconst 2, 0, .int 2), (260, 261, .iadd, 0, .null), (261, 262, .iaload, 0, .null), (262, 265, .invokevirtual 22, 0, .null), (265, 268, .if_icmp .eq 1217, 1482, .null), (268, 269, .iconst 0, 0, .int 0), (269, 270, .ireturn, 0, .null), (270, 271, .aload_n 1, 0, .null), (271, 272, .aload_n 0, 0, .null), (272, 273, .iload_n 3, 0, .null), (273, 274, .iconst 1, 0, .int 1), (274, 275, .iadd, 0, .null), (275, 276, .iaload, 0, .null), (276, 277, .aload_n 0, 0, .null), (277, 278, .iload_n 3, 0, .null), (278, 279, .iconst 2, 0, .int 2), (279, 280, .iadd, 0, .null), (280, 281, .iaload, 0, .null), (281, 282, .aload_n 0, 0, .null), (282, 283, .iload_n 3, 0, .null), (283, 284, .iconst 3, 0, .int 3), (284, 285, .iadd, 0, .null), (285, 286, .iaload, 0, .null), (286, 289, .invokevirtual 23, 0, .null), (289, 290, .aload_n 2, 0, .null), (290, 291, .aload_n 0, 0, .null), (291, 292, .iload_n 3, 0, .null), (292, 293, .iconst 1, 0, .int 1), (293, 294, .iadd, 0, .null), (294, 295, .iaload, 0, .null), (295, 296, .aload_n 0, 0, .null)]
def ct221_2 : List Rw := [(296, 297, .iload_n 3, 0, .null), (297, 298, .iconst 2, 0, .int 2), (298, 299, .iadd, 0, .null), (299, 300, .iaload, 0, .null), (300, 301, .aload_n 0, 0, .null), (301, 302, .iload_n 3, 0, .null), (302, 303, .iconst 3, 0, .int 3), (303, 304, .iadd, 0, .null), (304, 305, .iaload, 0, .null), (305, 308, .invokevirtual 27, 0, .null), (308, 311, .if_icmp .eq 1174, 1482, .null), (311, 312, .iconst 0, 0, .int 0), (312, 313, .ireturn, 0, .null), (313, 314, .aload_n 1, 0, .null), (314, 315, .aload_n 0, 0, .null), (315, 316, .iload_n 3, 0, .null), (316, 317, .iconst 1, 0, .int 1), (317, 318, .iadd, 0, .null), (318, 319, .iaload, 0, .null), (319, 320, .aload_n 0, 0, .null), (320, 321, .iload_n 3, 0, .null), (321, 322, .iconst 2, 0, .int 2), (322, 323, .iadd, 0, .null), (323, 324, .iaload, 0, .null), (324, 325, .aload_n 0, 0, .null), (325, 326, .iload_n 3, 0, .null), (326, 327, .iconst 3, 0, .int 3), (327, 328, .iadd, 0, .null), (328, 329, .iaload, 0, .null), (329, 330, .aload_n 0, 0, .null), (330, 331, .iload_n 3, 0, .null), (331, 332, .iconst 4, 0, .int 4), (332, 333, .iadd, 0, .null), (333, 334, .iaload, 0, .null), (334, 337, .invokevirtual 28, 0, .null), (337, 338, .aload_n 2, 0, .null), (338, 339, .aload_n 0, 0, .null), (339, 340, .iload_n 3, 0, .null), (340, 341, .iconst 1, 0, .int 1), (341, 342, .iadd, 0, .null), (342, 343, .iaload, 0, .null), (343, 344, .aload_n 0, 0, .null), (344, 345, .iload_n 3, 0, .null), (345, 346, .iconst 2, 0, .int 2), (346, 347, .iadd, 0, .null), (347, 348, .iaload, 0, .null), (348, 349, .aload_n 0, 0, .null), (349, 350, .iload_n 3, 0, .null), (350, 351, .iconst 3, 0, .int 3), (351, 352, .iadd, 0, .null), (352, 353, .iaload, 0, .null), (353, 354, .aload_n 0, 0, .null), (354, 355, .iload_n 3, 0, .null), (355, 356, .iconst 4, 0, .int 4), (356, 357, .iadd, 0, .null), (357, 358, .iaload, 0, .null), (358, 361, .invokevirtual 31, 0, .null), (361, 364, .if_icmp .eq 1121, 1482, .null), (364, 365, .iconst 0, 0, .int 0), (365, 366, .ireturn, 0, .null)]
def ct221_3 : List Rw := [(366, 367, .aload_n 1, 0, .null), (367, 368, .aload_n 0, 0, .null), (368, 369, .iload_n 3, 0, .null), (369, 370, .iconst 1, 0, .int 1), (370, 371, .iadd, 0, .null), (371, 372, .iaload, 0, .null), (372, 373, .aload_n 0, 0, .null), (373, 374, .iload_n 3, 0, .null), (374, 375, .iconst 2, 0, .int 2), (375, 376, .iadd, 0, .null), (376, 377, .iaload, 0, .null), (377, 378, .aload_n 0, 0, .null), (378, 379, .iload_n 3, 0, .null), (379, 380, .iconst 3, 0, .int 3), (380, 381, .iadd, 0, .null), (381, 382, .iaload, 0, .null), (382, 383, .aload_n 0, 0, .null), (383, 384, .iload_n 3, 0, .null), (384, 385, .iconst 4, 0, .int 4), (385, 386, .iadd, 0, .null), (386, 387, .iaload, 0, .null), (387, 390, .invokevirtual 32, 0, .null), (390, 391, .aload_n 2, 0, .null), (391, 392, .aload_n 0, 0, .null), (392, 393, .iload_n 3, 0, .null), (393, 394, .iconst 1, 0, .int 1), (394, 395, .iadd, 0, .null), (395, 396, .iaload, 0, .null), (396, 397, .aload_n 0, 0, .null), (397, 398, .iload_n 3, 0, .null), (398, 399, .iconst 2, 0, .int 2), (399, 400, .iadd, 0, .null), (400, 401, .iaload, 0, .null), (401, 402, .aload_n 0, 0, .null), (402, 403, .iload_n 3, 0, .null), (403, 404, .iconst 3, 0, .int 3), (404, 405, .iadd, 0, .null), (405, 406, .iaload, 0, .null), (406, 407, .aload_n 0, 0, .null), (407, 408, .iload_n 3, 0, .null), (408, 409, .iconst 4, 0, .int 4), (409, 410, .iadd, 0, .null), (410, 411, .iaload, 0, .null), (411, 414, .invokevirtual 36, 0, .null), (414, 415, .lcmp, 0, .null), (415, 418, .ifCond .eq 1067, 1482, .null), (418, 419, .iconst 0, 0, .int 0), (419, 420, .ireturn, 0, .null), (420, 421, .aload_n 1, 0, .null), (421, 422, .aload_n 0, 0, .null), (422, 423, .iload_n 3, 0, .null), (423, 424, .iconst 1, 0, .int 1), (424, 425, .iadd, 0, .null), (425, 426, .iaload, 0, .null), (426, 427, .aload_n 0, 0, .null), (427, 428, .iload_n 3, 0, .null), (428, 429, .iconst 2, 0, .int 2), (429, 430, .iadd, 0, .null), (430, 431, .iaload, 0, .null), (431, 432, .aload_n 0, 0, .null)]
def ct221_4 : List Rw := [(432, 433, .iload_n 3, 0, .null), (433, 434, .iconst 3, 0, .int 3), (434, 435, .iadd, 0, .null), (435, 436, .iaload, 0, .null), (436, 439, .invokevirtual 37, 0, .null), (439, 440, .aload_n 2, 0, .null), (440, 441, .aload_n 0, 0, .null), (441, 442, .iload_n 3, 0, .null), (442, 443, .iconst 1, 0, .int 1), (443, 444, .iadd, 0, .null), (444, 445, .iaload, 0, .null), (445, 446, .aload_n 0, 0, .null), (446, 447, .iload_n 3, 0, .null), (447, 448, .iconst 2, 0, .int 2), (448, 449, .iadd, 0, .null), (449, 450, .iaload, 0, .null), (450, 451, .aload_n 0, 0, .null), (451, 452, .iload_n 3, 0, .null), (452, 453, .iconst 3, 0, .int 3), (453, 454, .iadd, 0, .null), (454, 455, .iaload, 0, .null), (455, 458, .invokevirtual 40, 0, .null), (458, 461, .if_icmp .eq 1024, 1482, .null), (461, 462, .iconst 0, 0, .int 0), (462, 463, .ireturn, 0, .null), (463, 464, .aload_n 1, 0, .null), (464, 465, .aload_n 0, 0, .null), (465, 466, .iload_n 3, 0, .null), (466, 467, .iconst 1, 0, .int 1), (467, 468, .iadd, 0, .null), (468, 469, .iaload, 0, .null), (469, 470, .aload_n 0, 0, .null), (470, 471, .iload_n 3, 0, .null), (471, 472, .iconst 2, 0, .int 2), (472, 473, .iadd, 0, .null), (473, 474, .iaload, 0, .null), (474, 475, .aload_n 0, 0, .null), (475, 476, .iload_n 3, 0, .null), (476, 477, .iconst 3, 0, .int 3), (477, 478, .iadd, 0, .null), (478, 479, .iaload, 0, .null), (479, 482, .invokevirtual 41, 0, .null), (482, 483, .aload_n 2, 0, .null), (483, 484, .aload_n 0, 0, .null), (484, 485, .iload_n 3, 0, .null), (485, 486, .iconst 1, 0, .int 1), (486, 487, .iadd, 0, .null), (487, 488, .iaload, 0, .null), (488, 489, .aload_n 0, 0, .null), (489, 490, .iload_n 3, 0, .null), (490, 491, .iconst 2, 0, .int 2), (491, 492, .iadd, 0, .null), (492, 493, .iaload, 0, .null), (493, 494, .aload_n 0, 0, .null), (494, 495, .iload_n 3, 0, .null), (495, 496, .iconst 3, 0, .int 3), (496, 497, .iadd, 0, .null), (497, 498, .iaload, 0, .null), (498, 501, .invokevirtual 45, 0, .null), (501, 502, .lcmp, 0, .null)]
def ct221_5 : List Rw := [(502, 505, .ifCond .eq 980, 1482, .null), (505, 506, .iconst 0, 0, .int 0), (506, 507, .ireturn, 0, .null), (507, 508, .aload_n 1, 0, .null), (508, 509, .aload_n 0, 0, .null), (509, 510, .iload_n 3, 0, .null), (510, 511, .iconst 1, 0, .int 1), (511, 512, .iadd, 0, .null), (512, 513, .iaload, 0, .null), (513, 514, .aload_n 0, 0, .null), (514, 515, .iload_n 3, 0, .null), (515, 516, .iconst 2, 0, .int 2), (516, 517, .iadd, 0, .null), (517, 518, .iaload, 0, .null), (518, 519, .aload_n 0, 0, .null), (519, 520, .iload_n 3, 0, .null), (520, 521, .iconst 3, 0, .int 3), (521, 522, .iadd, 0, .null), (522, 523, .iaload, 0, .null), (523, 524, .aload_n 0, 0, .null), (524, 525, .iload_n 3, 0, .null), (525, 526, .iconst 4, 0, .int 4), (526, 527, .iadd, 0, .null), (527, 528, .iaload, 0, .null), (528, 531, .invokevirtual 46, 0, .null), (531, 532, .aload_n 2, 0, .null), (532, 533, .aload_n 0, 0, .null), (533, 534, .iload_n 3, 0, .null), (534, 535, .iconst 1, 0, .int 1), (535, 536, .iadd, 0, .null), (536, 537, .iaload, 0, .null), (537, 538, .aload_n 0, 0, .null), (538, 539, .iload_n 3, 0, .null), (539, 540, .iconst 2, 0, .int 2), (540, 541, .iadd, 0, .null), (541, 542, .iaload, 0, .null), (542, 543, .aload_n 0, 0, .null), (543, 544, .iload_n 3, 0, .null), (544, 545, .iconst 3, 0, .int 3), (545, 546, .iadd, 0, .null), (546, 547, .iaload, 0, .null), (547, 548, .aload_n 0, 0, .null), (548, 549, .iload_n 3, 0, .null), (549, 550, .iconst 4, 0, .int 4), (550, 551, .iadd, 0, .null), (551, 552, .iaload, 0, .null), (552, 555, .invokevirtual 49, 0, .null), (555, 558, .if_icmp .eq 927, 1482, .null), (558, 559, .iconst 0, 0, .int 0), (559, 560, .ireturn, 0, .null), (560, 561, .aload_n 1, 0, .null), (561, 562, .aload_n 0, 0, .null), (562, 563, .iload_n 3, 0, .null), (563, 564, .iconst 1, 0, .int 1), (564, 565, .iadd, 0, .null), (565, 566, .iaload, 0, .null), (566, 567, .aload_n 0, 0, .null), (567, 568, .iload_n 3, 0, .null), (568, 569, .iconst 2, 0, .int 2), (569, 570, .iadd, 0, .null)]
def ct221_6 : List Rw := [(570, 571, .iaload, 0, .null), (571, 572, .aload_n 0, 0, .null), (572, 573, .iload_n 3, 0, .null), (573, 574, .iconst 3, 0, .int 3), (574, 575, .iadd, 0, .null), (575, 576, .iaload, 0, .null), (576, 577, .aload_n 0, 0, .null), (577, 578, .iload_n 3, 0, .null), (578, 579, .iconst 4, 0, .int 4), (579, 580, .iadd, 0, .null), (580, 581, .iaload, 0, .null), (581, 584, .invokevirtual 50, 0, .null), (584, 585, .aload_n 2, 0, .null), (585, 586, .aload_n 0, 0, .null), (586, 587, .iload_n 3, 0, .null), (587, 588, .iconst 1, 0, .int 1), (588, 589, .iadd, 0, .null), (589, 590, .iaload, 0, .null), (590, 591, .aload_n 0, 0, .null), (591, 592, .iload_n 3, 0, .null), (592, 593, .iconst 2, 0, .int 2), (593, 594, .iadd, 0, .null), (594, 595, .iaload, 0, .null), (595, 596, .aload_n 0, 0, .null), (596, 597, .iload_n 3, 0, .null), (597, 598, .iconst 3, 0, .int 3), (598, 599, .iadd, 0, .null), (599, 600, .iaload, 0, .null), (600, 601, .aload_n 0, 0, .null), (601, 602, .iload_n 3, 0, .null), (602, 603, .iconst 4, 0, .int 4), (603, 604, .iadd, 0, .null), (604, 605, .iaload, 0, .null), (605, 608, .invokevirtual 53, 0, .null), (608, 609, .lcmp, 0, .null), (609, 612, .ifCond .eq 873, 1482, .null), (612, 613, .iconst 0, 0, .int 0), (613, 614, .ireturn, 0, .null), (614, 615, .aload_n 1, 0, .null), (615, 616, .aload_n 0, 0, .null), (616, 617, .iload_n 3, 0, .null), (617, 618, .iconst 1, 0, .int 1), (618, 619, .iadd, 0, .null), (619, 620, .iaload, 0, .null), (620, 621, .aload_n 0, 0, .null), (621, 622, .iload_n 3, 0, .null), (622, 623, .iconst 2, 0, .int 2), (623, 624, .iadd, 0, .null), (624, 625, .iaload, 0, .null), (625, 626, .aload_n 0, 0, .null), (626, 627, .iload_n 3, 0, .null), (627, 628, .iconst 3, 0, .int 3), (628, 629, .iadd, 0, .null), (629, 630, .iaload, 0, .null), (630, 631, .aload_n 0, 0, .null), (631, 632, .iload_n 3, 0, .null), (632, 633, .iconst 4, 0, .int 4), (633, 634, .iadd, 0, .null), (634, 635, .iaload, 0, .null), (635, 636, .aload_n 0, 0, .null)]
def ct221_7 : List Rw := [(636, 637, .iload_n 3, 0, .null), (637, 638, .iconst 5, 0, .int 5), (638, 639, .iadd, 0, .null), (639, 640, .iaload, 0, .null), (640, 643, .invokevirtual 54, 0, .null), (643, 644, .aload_n 2, 0, .null), (644, 645, .aload_n 0, 0, .null), (645, 646, .iload_n 3, 0, .null), (646, 647, .iconst 1, 0, .int 1), (647, 648, .iadd, 0, .null), (648, 649, .iaload, 0, .null), (649, 650, .aload_n 0, 0, .null), (650, 651, .iload_n 3, 0, .null), (651, 652, .iconst 2, 0, .int 2), (652, 653, .iadd, 0, .null), (653, 654, .iaload, 0, .null), (654, 655, .aload_n 0, 0, .null), (655, 656, .iload_n 3, 0, .null), (656, 657, .iconst 3, 0, .int 3), (657, 658, .iadd, 0, .null), (658, 659, .iaload, 0, .null), (659, 660, .aload_n 0, 0, .null), (660, 661, .iload_n 3, 0, .null), (661, 662, .iconst 4, 0, .int 4), (662, 663, .iadd, 0, .null), (663, 664, .iaload, 0, .null), (664, 665, .aload_n 0, 0, .null), (665, 666, .iload_n 3, 0, .null), (666, 667, .iconst 5, 0, .int 5), (667, 668, .iadd, 0, .null), (668, 669, .iaload, 0, .null), (669, 672, .invokevirtual 58, 0, .null), (672, 675, .if_icmp .eq 810, 1482, .null), (675, 676, .iconst 0, 0, .int 0), (676, 677, .ireturn, 0, .null), (677, 678, .aload_n 1, 0, .null), (678, 679, .aload_n 0, 0, .null), (679, 680, .iload_n 3, 0, .null), (680, 681, .iconst 1, 0, .int 1), (681, 682, .iadd, 0, .null), (682, 683, .iaload, 0, .null), (683, 684, .aload_n 0, 0, .null), (684, 685, .iload_n 3, 0, .null), (685, 686, .iconst 2, 0, .int 2), (686, 687, .iadd, 0, .null), (687, 688, .iaload, 0, .null), (688, 689, .aload_n 0, 0, .null), (689, 690, .iload_n 3, 0, .null), (690, 691, .iconst 3, 0, .int 3), (691, 692, .iadd, 0, .null), (692, 693, .iaload, 0, .null), (693, 696, .invokevirtual 59, 0, .null), (696, 697, .aload_n 2, 0, .null), (697, 698, .aload_n 0, 0, .null), (698, 699, .iload_n 3, 0, .null), (699, 700, .iconst 1, 0, .int 1), (700, 701, .iadd, 0, .null), (701, 702, .iaload, 0, .null), (702, 703, .aload_n 0, 0, .null), (703, 704, .iload_n 3, 0, .null)]
def ct221_8 : List Rw := [(704, 705, .iconst 2, 0, .int 2), (705, 706, .iadd, 0, .null), (706, 707, .iaload, 0, .null), (707, 708, .aload_n 0, 0, .null), (708, 709, .iload_n 3, 0, .null), (709, 710, .iconst 3, 0, .int 3), (710, 711, .iadd, 0, .null), (711, 712, .iaload, 0, .null), (712, 715, .invokevirtual 62, 0, .null), (715, 718, .if_icmp .eq 767, 1482, .null), (718, 719, .iconst 0, 0, .int 0), (719, 720, .ireturn, 0, .null), (720, 721, .aload_n 1, 0, .null), (721, 722, .aload_n 0, 0, .null), (722, 723, .iload_n 3, 0, .null), (723, 724, .iconst 1, 0, .int 1), (724, 725, .iadd, 0, .null), (725, 726, .iaload, 0, .null), (726, 727, .aload_n 0, 0, .null), (727, 728, .iload_n 3, 0, .null), (728, 729, .iconst 2, 0, .int 2), (729, 730, .iadd, 0, .null), (730, 731, .iaload, 0, .null), (731, 734, .invokevirtual 63, 0, .null), (734, 735, .aload_n 2, 0, .null), (735, 736, .aload_n 0, 0, .null), (736, 737, .iload_n 3, 0, .null), (737, 738, .iconst 1, 0, .int 1), (738, 739, .iadd, 0, .null), (739, 740, .iaload, 0, .null), (740, 741, .aload_n 0, 0, .null), (741, 742, .iload_n 3, 0, .null), (742, 743, .iconst 2, 0, .int 2), (743, 744, .iadd, 0, .null), (744, 745, .iaload, 0, .null), (745, 748, .invokevirtual 66, 0, .null), (748, 751, .if_icmp .eq 734, 1482, .null), (751, 752, .iconst 0, 0, .int 0), (752, 753, .ireturn, 0, .null), (753, 754, .aload_n 1, 0, .null), (754, 755, .aload_n 0, 0, .null), (755, 756, .iload_n 3, 0, .null), (756, 757, .iconst 1, 0, .int 1), (757, 758, .iadd, 0, .null), (758, 759, .iaload, 0, .null), (759, 760, .aload_n 0, 0, .null), (760, 761, .iload_n 3, 0, .null), (761, 762, .iconst 2, 0, .int 2), (762, 763, .iadd, 0, .null), (763, 764, .iaload, 0, .null), (764, 767, .invokevirtual 67, 0, .null), (767, 768, .aload_n 2, 0, .null), (768, 769, .aload_n 0, 0, .null), (769, 770, .iload_n 3, 0, .null), (770, 771, .iconst 1, 0, .int 1), (771, 772, .iadd, 0, .null), (772, 773, .iaload, 0, .null), (773, 774, .aload_n 0, 0, .null), (774, 775, .iload_n 3, 0, .null), (775, 776, .iconst 2, 0, .int 2)]
def ct221_9 : List Rw := [(776, 777, .iadd, 0, .null), (777, 778, .iaload, 0, .null), (778, 781, .invokevirtual 70, 0, .null), (781, 784, .if_icmp .eq 701, 1482, .null), (784, 785, .iconst 0, 0, .int 0), (785, 786, .ireturn, 0, .null), (786, 787, .aload_n 1, 0, .null), (787, 788, .aload_n 0, 0, .null), (788, 789, .iload_n 3, 0, .null), (789, 790, .iconst 1, 0, .int 1), (790, 791, .iadd, 0, .null), (791, 792, .iaload, 0, .null), (792, 793, .aload_n 0, 0, .null), (793, 794, .iload_n 3, 0, .null), (794, 795, .iconst 2, 0, .int 2), (795, 796, .iadd, 0, .null), (796, 797, .iaload, 0, .null), (797, 800, .invokevirtual 71, 0, .null), (800, 801, .aload_n 2, 0, .null), (801, 802, .aload_n 0, 0, .null), (802, 803, .iload_n 3, 0, .null), (803, 804, .iconst 1, 0, .int 1), (804, 805, .iadd, 0, .null), (805, 806, .iaload, 0, .null), (806, 807, .aload_n 0, 0, .null), (807, 808, .iload_n 3, 0, .null), (808, 809, .iconst 2, 0, .int 2), (809, 810, .iadd, 0, .null), (810, 811, .iaload, 0, .null), (811, 814, .invokevirtual 74, 0, .null), (814, 817, .if_icmp .eq 668, 1482, .null), (817, 818, .iconst 0, 0, .int 0), (818, 819, .ireturn, 0, .null), (819, 820, .aload_n 1, 0, .null), (820, 821, .aload_n 0, 0, .null), (821, 822, .iload_n 3, 0, .null), (822, 823, .iconst 1, 0, .int 1), (823, 824, .iadd, 0, .null), (824, 825, .iaload, 0, .null), (825, 826, .aload_n 0, 0, .null), (826, 827, .iload_n 3, 0, .null), (827, 828, .iconst 2, 0, .int 2), (828, 829, .iadd, 0, .null), (829, 830, .iaload, 0, .null), (830, 831, .aload_n 0, 0, .null), (831, 832, .iload_n 3, 0, .null), (832, 833, .iconst 3, 0, .int 3), (833, 834, .iadd, 0, .null), (834, 835, .iaload, 0, .null), (835, 836, .aload_n 0, 0, .null), (836, 837, .iload_n 3, 0, .null), (837, 838, .iconst 4, 0, .int 4), (838, 839, .iadd, 0, .null), (839, 840, .iaload, 0, .null), (840, 843, .invokevirtual 75, 0, .null), (843, 844, .aload_n 2, 0, .null), (844, 845, .aload_n 0, 0, .null), (845, 846, .iload_n 3, 0, .null), (846, 847, .iconst 1, 0, .int 1), (847, 848, .iadd, 0, .null)]
def ct221_10 : List Rw := [(848, 849, .iaload, 0, .null), (849, 850, .aload_n 0, 0, .null), (850, 851, .iload_n 3, 0, .null), (851, 852, .iconst 2, 0, .int 2), (852, 853, .iadd, 0, .null), (853, 854, .iaload, 0, .null), (854, 855, .aload_n 0, 0, .null), (855, 856, .iload_n 3, 0, .null), (856, 857, .iconst 3, 0, .int 3), (857, 858, .iadd, 0, .null), (858, 859, .iaload, 0, .null), (859, 860, .aload_n 0, 0, .null), (860, 861, .iload_n 3, 0, .null), (861, 862, .iconst 4, 0, .int 4), (862, 863, .iadd, 0, .null), (863, 864, .iaload, 0, .null), (864, 867, .invokevirtual 78, 0, .null), (867, 870, .if_icmp .eq 615, 1482, .null), (870, 871, .iconst 0, 0, .int 0), (871, 872, .ireturn, 0, .null), (872, 873, .aload_n 1, 0, .null), (873, 874, .aload_n 0, 0, .null), (874, 875, .iload_n 3, 0, .null), (875, 876, .iconst 1, 0, .int 1), (876, 877, .iadd, 0, .null), (877, 878, .iaload, 0, .null), (878, 879, .aload_n 0, 0, .null), (879, 880, .iload_n 3, 0, .null), (880, 881, .iconst 2, 0, .int 2), (881, 882, .iadd, 0, .null), (882, 883, .iaload, 0, .null), (883, 886, .ifCond .eq 7, 890, .null), (886, 887, .iconst 1, 0, .int 1), (887, 890, .goto 4, 891, .null), (890, 891, .iconst 0, 0, .int 0), (891, 894, .invokevirtual 79, 0, .null), (894, 895, .aload_n 2, 0, .null), (895, 896, .aload_n 0, 0, .null), (896, 897, .iload_n 3, 0, .null), (897, 898, .iconst 1, 0, .int 1), (898, 899, .iadd, 0, .null), (899, 900, .iaload, 0, .null), (900, 901, .aload_n 0, 0, .null), (901, 902, .iload_n 3, 0, .null), (902, 903, .iconst 2, 0, .int 2), (903, 904, .iadd, 0, .null), (904, 905, .iaload, 0, .null), (905, 908, .ifCond .eq 7, 912, .null), (908, 909, .iconst 1, 0, .int 1), (909, 912, .goto 4, 913, .null), (912, 913, .iconst 0, 0, .int 0), (913, 916, .invokevirtual 83, 0, .null), (916, 919, .if_icmp .eq 566, 1482, .null), (919, 920, .iconst 0, 0, .int 0), (920, 921, .ireturn, 0, .null), (921, 922, .aload_n 1, 0, .null), (922, 923, .aload_n 0, 0, .null), (923, 924, .iload_n 3, 0, .null), (924, 925, .iconst 1, 0, .int 1), (925, 926, .iadd, 0, .null)]
def ct221_11 : List Rw := [(926, 927, .iaload, 0, .null), (927, 928, .aload_n 0, 0, .null), (928, 929, .iload_n 3, 0, .null), (929, 930, .iconst 2, 0, .int 2), (930, 931, .iadd, 0, .null), (931, 932, .iaload, 0, .null), (932, 935, .ifCond .eq 7, 939, .null), (935, 936, .iconst 1, 0, .int 1), (936, 939, .goto 4, 940, .null), (939, 940, .iconst 0, 0, .int 0), (940, 943, .invokevirtual 84, 0, .null), (943, 944, .aload_n 2, 0, .null), (944, 945, .aload_n 0, 0, .null), (945, 946, .iload_n 3, 0, .null), (946, 947, .iconst 1, 0, .int 1), (947, 948, .iadd, 0, .null), (948, 949, .iaload, 0, .null), (949, 950, .aload_n 0, 0, .null), (950, 951, .iload_n 3, 0, .null), (951, 952, .iconst 2, 0, .int 2), (952, 953, .iadd, 0, .null), (953, 954, .iaload, 0, .null), (954, 957, .ifCond .eq 7, 961, .null), (957, 958, .iconst 1, 0, .int 1), (958, 961, .goto 4, 962, .null), (961, 962, .iconst 0, 0, .int 0), (962, 965, .invokevirtual 87, 0, .null), (965, 968, .if_icmp .eq 517, 1482, .null), (968, 969, .iconst 0, 0, .int 0), (969, 970, .ireturn, 0, .null), (970, 971, .aload_n 1, 0, .null), (971, 972, .aload_n 0, 0, .null), (972, 973, .iload_n 3, 0, .null), (973, 974, .iconst 1, 0, .int 1), (974, 975, .iadd, 0, .null), (975, 976, .iaload, 0, .null), (976, 979, .invokevirtual 88, 0, .null), (979, 980, .aload_n 2, 0, .null), (980, 981, .aload_n 0, 0, .null), (981, 982, .iload_n 3, 0, .null), (982, 983, .iconst 1, 0, .int 1), (983, 984, .iadd, 0, .null), (984, 985, .iaload, 0, .null), (985, 988, .invokevirtual 92, 0, .null), (988, 991, .if_icmp .eq 494, 1482, .null), (991, 992, .iconst 0, 0, .int 0), (992, 993, .ireturn, 0, .null), (993, 994, .aload_n 1, 0, .null), (994, 995, .aload_n 0, 0, .null), (995, 996, .iload_n 3, 0, .null), (996, 997, .iconst 1, 0, .int 1), (997, 998, .iadd, 0, .null), (998, 999, .iaload, 0, .null), (999, 1000, .aload_n 0, 0, .null), (1000, 1001, .iload_n 3, 0, .null), (1001, 1002, .iconst 2, 0, .int 2), (1002, 1003, .iadd, 0, .null), (1003, 1004, .iaload, 0, .null), (1004, 1007, .invokevirtual 93, 0, .null), (1007, 1008, .aload_n 2, 0, .null)]
def ct221_12 : List Rw := [(1008, 1009, .aload_n 0, 0, .null), (1009, 1010, .iload_n 3, 0, .null), (1010, 1011, .iconst 1, 0, .int 1), (1011, 1012, .iadd, 0, .null), (1012, 1013, .iaload, 0, .null), (1013, 1014, .aload_n 0, 0, .null), (1014, 1015, .iload_n 3, 0, .null), (1015, 1016, .iconst 2, 0, .int 2), (1016, 1017, .iadd, 0, .null), (1017, 1018, .iaload, 0, .null), (1018, 1021, .invokevirtual 96, 0, .null), (1021, 1024, .if_icmp .eq 461, 1482, .null), (1024, 1025, .iconst 0, 0, .int 0), (1025, 1026, .ireturn, 0, .null), (1026, 1027, .aload_n 1, 0, .null), (1027, 1030, .invokevirtual 97, 0, .null), (1030, 1031, .aload_n 2, 0, .null), (1031, 1034, .invokevirtual 101, 0, .null), (1034, 1037, .if_icmp .eq 448, 1482, .null), (1037, 1038, .iconst 0, 0, .int 0), (1038, 1039, .ireturn, 0, .null), (1039, 1040, .aload_n 1, 0, .null), (1040, 1041, .aload_n 0, 0, .null), (1041, 1042, .iload_n 3, 0, .null), (1042, 1043, .iconst 1, 0, .int 1), (1043, 1044, .iadd, 0, .null), (1044, 1045, .iaload, 0, .null), (1045, 1048, .invokevirtual 102, 0, .null), (1048, 1049, .aload_n 2, 0, .null), (1049, 1050, .aload_n 0, 0, .null), (1050, 1051, .iload_n 3, 0, .null), (1051, 1052, .iconst 1, 0, .int 1), (1052, 1053, .iadd, 0, .null), (1053, 1054, .iaload, 0, .null), (1054, 1057, .invokevirtual 105, 0, .null), (1057, 1060, .if_icmp .eq 425, 1482, .null), (1060, 1061, .iconst 0, 0, .int 0), (1061, 1062, .ireturn, 0, .null), (1062, 1063, .aload_n 1, 0, .null), (1063, 1064, .aload_n 0, 0, .null), (1064, 1065, .iload_n 3, 0, .null), (1065, 1066, .iconst 1, 0, .int 1), (1066, 1067, .iadd, 0, .null), (1067, 1068, .iaload, 0, .null), (1068, 1071, .invokevirtual 106, 0, .null), (1071, 1072, .aload_n 2, 0, .null), (1072, 1073, .aload_n 0, 0, .null), (1073, 1074, .iload_n 3, 0, .null), (1074, 1075, .iconst 1, 0, .int 1), (1075, 1076, .iadd, 0, .null), (1076, 1077, .iaload, 0, .null), (1077, 1080, .invokevirtual 109, 0, .null), (1080, 1083, .if_icmp .eq 402, 1482, .null), (1083, 1084, .iconst 0, 0, .int 0), (1084, 1085, .ireturn, 0, .null), (1085, 1086, .aload_n 1, 0, .null), (1086, 1087, .aload_n 0, 0, .null), (1087, 1088, .iload_n 3, 0, .null), (1088, 1089, .iconst 1, 0, .int 1), (1089, 1090, .iadd, 0, .null)]
def ct221_13 : List Rw := [(1090, 1091, .iaload, 0, .null), (1091, 1092, .aload_n 0, 0, .null), (1092, 1093, .iload_n 3, 0, .null), (1093, 1094, .iconst 2, 0, .int 2), (1094, 1095, .iadd, 0, .null), (1095, 1096, .iaload, 0, .null), (1096, 1097, .aload_n 0, 0, .null), (1097, 1098, .iload_n 3, 0, .null), (1098, 1099, .iconst 3, 0, .int 3), (1099, 1100, .iadd, 0, .null), (1100, 1101, .iaload, 0, .null), (1101, 1102, .aload_n 0, 0, .null), (1102, 1103, .iload_n 3, 0, .null), (1103, 1104, .iconst 4, 0, .int 4), (1104, 1105, .iadd, 0, .null), (1105, 1106, .iaload, 0, .null), (1106, 1109, .invokevirtual 110, 0, .null), (1109, 1110, .aload_n 2, 0, .null), (1110, 1111, .aload_n 0, 0, .null), (1111, 1112, .iload_n 3, 0, .null), (1112, 1113, .iconst 1, 0, .int 1), (1113, 1114, .iadd, 0, .null), (1114, 1115, .iaload, 0, .null), (1115, 1116, .aload_n 0, 0, .null), (1116, 1117, .iload_n 3, 0, .null), (1117, 1118, .iconst 2, 0, .int 2), (1118, 1119, .iadd, 0, .null), (1119, 1120, .iaload, 0, .null), (1120, 1121, .aload_n 0, 0, .null), (1121, 1122, .iload_n 3, 0, .null), (1122, 1123, .iconst 3, 0, .int 3), (1123, 1124, .iadd, 0, .null), (1124, 1125, .iaload, 0, .null), (1125, 1126, .aload_n 0, 0, .null), (1126, 1127, .iload_n 3, 0, .null), (1127, 1128, .iconst 4, 0, .int 4), (1128, 1129, .iadd, 0, .null), (1129, 1130, .iaload, 0, .null), (1130, 1133, .invokevirtual 113, 0, .null), (1133, 1136, .if_icmp .eq 349, 1482, .null), (1136, 1137, .iconst 0, 0, .int 0), (1137, 1138, .ireturn, 0, .null), (1138, 1139, .aload_n 1, 0, .null), (1139, 1140, .aload_n 0, 0, .null), (1140, 1141, .iload_n 3, 0, .null), (1141, 1142, .iconst 1, 0, .int 1), (1142, 1143, .iadd, 0, .null), (1143, 1144, .iaload, 0, .null), (1144, 1145, .aload_n 0, 0, .null), (1145, 1146, .iload_n 3, 0, .null), (1146, 1147, .iconst 2, 0, .int 2), (1147, 1148, .iadd, 0, .null), (1148, 1149, .iaload, 0, .null), (1149, 1150, .aload_n 0, 0, .null), (1150, 1151, .iload_n 3, 0, .null), (1151, 1152, .iconst 3, 0, .int 3), (1152, 1153, .iadd, 0, .null), (1153, 1154, .iaload, 0, .null), (1154, 1157, .invokevirtual 114, 0, .null), (1157, 1158, .aload_n 2, 0, .null)]
def ct221_14 : List Rw := [(1158, 1159, .aload_n 0, 0, .null), (1159, 1160, .iload_n 3, 0, .null), (1160, 1161, .iconst 1, 0, .int 1), (1161, 1162, .iadd, 0, .null), (1162, 1163, .iaload, 0, .null), (1163, 1164, .aload_n 0, 0, .null), (1164, 1165, .iload_n 3, 0, .null), (1165, 1166, .iconst 2, 0, .int 2), (1166, 1167, .iadd, 0, .null), (1167, 1168, .iaload, 0, .null), (1168, 1169, .aload_n 0, 0, .null), (1169, 1170, .iload_n 3, 0, .null), (1170, 1171, .iconst 3, 0, .int 3), (1171, 1172, .iadd, 0, .null), (1172, 1173, .iaload, 0, .null), (1173, 1176, .invokevirtual 117, 0, .null), (1176, 1179, .if_icmp .eq 306, 1482, .null), (1179, 1180, .iconst 0, 0, .int 0), (1180, 1181, .ireturn, 0, .null), (1181, 1182, .aload_n 1, 0, .null), (1182, 1183, .aload_n 0, 0, .null), (1183, 1184, .iload_n 3, 0, .null), (1184, 1185, .iconst 1, 0, .int 1), (1185, 1186, .iadd, 0, .null), (1186, 1187, .iaload, 0, .null), (1187, 1190, .invokevirtual 118, 0, .null), (1190, 1191, .aload_n 2, 0, .null), (1191, 1192, .aload_n 0, 0, .null), (1192, 1193, .iload_n 3, 0, .null), (1193, 1194, .iconst 1, 0, .int 1), (1194, 1195, .iadd, 0, .null), (1195, 1196, .iaload, 0, .null), (1196, 1199, .invokevirtual 121, 0, .null), (1199, 1202, .if_icmp .eq 283, 1482, .null), (1202, 1203, .iconst 0, 0, .int 0), (1203, 1204, .ireturn, 0, .null), (1204, 1205, .aload_n 1, 0, .null), (1205, 1206, .aload_n 0, 0, .null), (1206, 1207, .iload_n 3, 0, .null), (1207, 1208, .iconst 1, 0, .int 1), (1208, 1209, .iadd, 0, .null), (1209, 1210, .iaload, 0, .null), (1210, 1211, .aload_n 0, 0, .null), (1211, 1212, .iload_n 3, 0, .null), (1212, 1213, .iconst 2, 0, .int 2), (1213, 1214, .iadd, 0, .null), (1214, 1215, .iaload, 0, .null), (1215, 1216, .aload_n 0, 0, .null), (1216, 1217, .iload_n 3, 0, .null), (1217, 1218, .iconst 3, 0, .int 3), (1218, 1219, .iadd, 0, .null), (1219, 1220, .iaload, 0, .null), (1220, 1223, .invokevirtual 122, 0, .null), (1223, 1224, .aload_n 2, 0, .null), (1224, 1225, .aload_n 0, 0, .null), (1225, 1226, .iload_n 3, 0, .null), (1226, 1227, .iconst 1, 0, .int 1), (1227, 1228, .iadd, 0, .null), (1228, 1229, .iaload, 0, .null), (1229, 1230, .aload_n 0, 0, .null)]
def ct221_15 : List Rw := [(1230, 1231, .iload_n 3, 0, .null), (1231, 1232, .iconst 2, 0, .int 2), (1232, 1233, .iadd, 0, .null), (1233, 1234, .iaload, 0, .null), (1234, 1235, .aload_n 0, 0, .null), (1235, 1236, .iload_n 3, 0, .null), (1236, 1237, .iconst 3, 0, .int 3), (1237, 1238, .iadd, 0, .null), (1238, 1239, .iaload, 0, .null), (1239, 1242, .invokevirtual 125, 0, .null), (1242, 1245, .if_icmp .eq 240, 1482, .null), (1245, 1246, .iconst 0, 0, .int 0), (1246, 1247, .ireturn, 0, .null), (1247, 1248, .aload_n 1, 0, .null), (1248, 1249, .aload_n 0, 0, .null), (1249, 1250, .iload_n 3, 0, .null), (1250, 1251, .iconst 1, 0, .int 1), (1251, 1252, .iadd, 0, .null), (1252, 1253, .iaload, 0, .null), (1253, 1254, .aload_n 0, 0, .null), (1254, 1255, .iload_n 3, 0, .null), (1255, 1256, .iconst 2, 0, .int 2), (1256, 1257, .iadd, 0, .null), (1257, 1258, .iaload, 0, .null), (1258, 1259, .aload_n 0, 0, .null), (1259, 1260, .iload_n 3, 0, .null), (1260, 1261, .iconst 3, 0, .int 3), (1261, 1262, .iadd, 0, .null), (1262, 1263, .iaload, 0, .null), (1263, 1266, .invokevirtual 126, 0, .null), (1266, 1267, .aload_n 2, 0, .null), (1267, 1268, .aload_n 0, 0, .null), (1268, 1269, .iload_n 3, 0, .null), (1269, 1270, .iconst 1, 0, .int 1), (1270, 1271, .iadd, 0, .null), (1271, 1272, .iaload, 0, .null), (1272, 1273, .aload_n 0, 0, .null), (1273, 1274, .iload_n 3, 0, .null), (1274, 1275, .iconst 2, 0, .int 2), (1275, 1276, .iadd, 0, .null), (1276, 1277, .iaload, 0, .null), (1277, 1278, .aload_n 0, 0, .null), (1278, 1279, .iload_n 3, 0, .null), (1279, 1280, .iconst 3, 0, .int 3), (1280, 1281, .iadd, 0, .null), (1281, 1282, .iaload, 0, .null), (1282, 1285, .invokevirtual 129, 0, .null), (1285, 1286, .lcmp, 0, .null), (1286, 1289, .ifCond .eq 196, 1482, .null), (1289, 1290, .iconst 0, 0, .int 0), (1290, 1291, .ireturn, 0, .null), (1291, 1292, .aload_n 1, 0, .null), (1292, 1293, .aload_n 0, 0, .null), (1293, 1294, .iload_n 3, 0, .null), (1294, 1295, .iconst 1, 0, .int 1), (1295, 1296, .iadd, 0, .null), (1296, 1297, .iaload, 0, .null), (1297, 1298, .aload_n 0, 0, .null), (1298, 1299, .iload_n 3, 0, .null), (1299, 1300, .iconst 2, 0, .int 2)]
def ct221_16 : List Rw := [(1300, 1301, .iadd, 0, .null), (1301, 1302, .iaload, 0, .null), (1302, 1303, .aload_n 0, 0, .null), (1303, 1304, .iload_n 3, 0, .null), (1304, 1305, .iconst 3, 0, .int 3), (1305, 1306, .iadd, 0, .null), (1306, 1307, .iaload, 0, .null), (1307, 1308, .aload_n 0, 0, .null), (1308, 1309, .iload_n 3, 0, .null), (1309, 1310, .iconst 4, 0, .int 4), (1310, 1311, .iadd, 0, .null), (1311, 1312, .iaload, 0, .null), (1312, 1313, .aload_n 0, 0, .null), (1313, 1314, .iload_n 3, 0, .null), (1314, 1315, .iconst 5, 0, .int 5), (1315, 1316, .iadd, 0, .null), (1316, 1317, .iaload, 0, .null), (1317, 1320, .invokevirtual 130, 0, .null), (1320, 1321, .aload_n 2, 0, .null), (1321, 1322, .aload_n 0, 0, .null), (1322, 1323, .iload_n 3, 0, .null), (1323, 1324, .iconst 1, 0, .int 1), (1324, 1325, .iadd, 0, .null), (1325, 1326, .iaload, 0, .null), (1326, 1327, .aload_n 0, 0, .null), (1327, 1328, .iload_n 3, 0, .null), (1328, 1329, .iconst 2, 0, .int 2), (1329, 1330, .iadd, 0, .null), (1330, 1331, .iaload, 0, .null), (1331, 1332, .aload_n 0, 0, .null), (1332, 1333, .iload_n 3, 0, .null), (1333, 1334, .iconst 3, 0, .int 3), (1334, 1335, .iadd, 0, .null), (1335, 1336, .iaload, 0, .null), (1336, 1337, .aload_n 0, 0, .null), (1337, 1338, .iload_n 3, 0, .null), (1338, 1339, .iconst 4, 0, .int 4), (1339, 1340, .iadd, 0, .null), (1340, 1341, .iaload, 0, .null), (1341, 1342, .aload_n 0, 0, .null), (1342, 1343, .iload_n 3, 0, .null), (1343, 1344, .iconst 5, 0, .int 5), (1344, 1345, .iadd, 0, .null), (1345, 1346, .iaload, 0, .null), (1346, 1349, .invokevirtual 133, 0, .null), (1349, 1352, .if_icmp .eq 133, 1482, .null), (1352, 1353, .iconst 0, 0, .int 0), (1353, 1354, .ireturn, 0, .null), (1354, 1355, .aload_n 1, 0, .null), (1355, 1356, .aload_n 0, 0, .null), (1356, 1357, .iload_n 3, 0, .null), (1357, 1358, .iconst 1, 0, .int 1), (1358, 1359, .iadd, 0, .null), (1359, 1360, .iaload, 0, .null), (1360, 1363, .invokevirtual 134, 0, .null), (1363, 1364, .aload_n 2, 0, .null), (1364, 1365, .aload_n 0, 0, .null), (1365, 1366, .iload_n 3, 0, .null), (1366, 1367, .iconst 1, 0, .int 1), (1367, 1368, .iadd, 0, .null)]
def ct221_17 : List Rw := [(1368, 1369, .iaload, 0, .null), (1369, 1372, .invokevirtual 137, 0, .null), (1372, 1375, .if_icmp .eq 110, 1482, .null), (1375, 1376, .iconst 0, 0, .int 0), (1376, 1377, .ireturn, 0, .null), (1377, 1378, .aload_n 1, 0, .null), (1378, 1379, .aload_n 0, 0, .null), (1379, 1380, .iload_n 3, 0, .null), (1380, 1381, .iconst 1, 0, .int 1), (1381, 1382, .iadd, 0, .null), (1382, 1383, .iaload, 0, .null), (1383, 1386, .invokevirtual 138, 0, .null), (1386, 1387, .aload_n 2, 0, .null), (1387, 1388, .aload_n 0, 0, .null), (1388, 1389, .iload_n 3, 0, .null), (1389, 1390, .iconst 1, 0, .int 1), (1390, 1391, .iadd, 0, .null), (1391, 1392, .iaload, 0, .null), (1392, 1395, .invokevirtual 141, 0, .null), (1395, 1398, .if_icmp .eq 87, 1482, .null), (1398, 1399, .iconst 0, 0, .int 0), (1399, 1400, .ireturn, 0, .null), (1400, 1401, .aload_n 1, 0, .null), (1401, 1402, .aload_n 0, 0, .null), (1402, 1403, .iload_n 3, 0, .null), (1403, 1404, .iconst 1, 0, .int 1), (1404, 1405, .iadd, 0, .null), (1405, 1406, .iaload, 0, .null), (1406, 1407, .aload_n 0, 0, .null), (1407, 1408, .iload_n 3, 0, .null), (1408, 1409, .iconst 2, 0, .int 2), (1409, 1410, .iadd, 0, .null), (1410, 1411, .iaload, 0, .null), (1411, 1414, .invokevirtual 142, 0, .null), (1414, 1415, .aload_n 2, 0, .null), (1415, 1416, .aload_n 0, 0, .null), (1416, 1417, .iload_n 3, 0, .null), (1417, 1418, .iconst 1, 0, .int 1), (1418, 1419, .iadd, 0, .null), (1419, 1420, .iaload, 0, .null), (1420, 1421, .aload_n 0, 0, .null), (1421, 1422, .iload_n 3, 0, .null), (1422, 1423, .iconst 2, 0, .int 2), (1423, 1424, .iadd, 0, .null), (1424, 1425, .iaload, 0, .null), (1425, 1428, .invokevirtual 145, 0, .null), (1428, 1431, .if_icmp .eq 54, 1482, .null), (1431, 1432, .iconst 0, 0, .int 0), (1432, 1433, .ireturn, 0, .null), (1433, 1434, .aload_n 1, 0, .null), (1434, 1437, .invokevirtual 146, 0, .null), (1437, 1438, .aload_n 2, 0, .null), (1438, 1441, .invokevirtual 149, 0, .null), (1441, 1444, .if_icmp .eq 41, 1482, .null), (1444, 1445, .iconst 0, 0, .int 0), (1445, 1446, .ireturn, 0, .null), (1446, 1447, .aload_n 1, 0, .null), (1447, 1450, .invokevirtual 150, 0, .null), (1450, 1451, .aload_n 2, 0, .null), (1451, 1454, .invokevirtual 153, 0, .null)]
def ct221_18 : List Rw := [(1454, 1457, .if_icmp .eq 28, 1482, .null), (1457, 1458, .iconst 0, 0, .int 0), (1458, 1459, .ireturn, 0, .null), (1459, 1460, .aload_n 1, 0, .null), (1460, 1461, .aload_n 0, 0, .null), (1461, 1462, .iload_n 3, 0, .null), (1462, 1463, .iconst 1, 0, .int 1), (1463, 1464, .iadd, 0, .null), (1464, 1465, .iaload, 0, .null), (1465, 1468, .invokevirtual 154, 0, .null), (1468, 1469, .aload_n 2, 0, .null), (1469, 1470, .aload_n 0, 0, .null), (1470, 1471, .iload_n 3, 0, .null), (1471, 1472, .iconst 1, 0, .int 1), (1472, 1473, .iadd, 0, .null), (1473, 1474, .iaload, 0, .null), (1474, 1477, .invokevirtual 157, 0, .null), (1477, 1480, .if_icmp .eq 5, 1482, .null), (1480, 1481, .iconst 0, 0, .int 0), (1481, 1482, .ireturn, 0, .null), (1482, 1485, .iinc 3 6, 0, .null), (1485, 1488, .goto (-1467), 18, .null), (1488, 1489, .iconst 1, 0, .int 1), (1489, 1490, .ireturn, 0, .null)]
def ct221 : List Rw := ct221_0 ++ ct221_1 ++ ct221_2 ++ ct221_3 ++ ct221_4 ++ ct221_5 ++ ct221_6 ++ ct221_7 ++ ct221_8 ++ ct221_9 ++ ct221_10 ++ ct221_11 ++ ct221_12 ++ ct221_13 ++ ct221_14 ++ ct221_15 ++ ct221_16 ++ ct221_17 ++ ct221_18
abbrev Mr : Type := MethodName × ByteArray × Nat × Option FieldType × Nat × Nat × Nat
abbrev Mt : Type := Mr × List Rw
def r0 : Mr := (yJ6_bitCount_0f7a4, cJ6_bitCount_0f7a4, 1, (some .int), 15, 0, 0)
def r1 : Mr := (yJ7_fill_d0a16, cJ7_fill_d0a16, 5, none, 13, 0, 0)
def r2 : Mr := (yJ7_fill_53178, cJ7_fill_53178, 4, none, 13, 0, 0)
def r3 : Mr := (yJ7_copyOf_59c91, cJ7_copyOf_59c91, 3, (some (.array .int)), 13, 1, 48)
def r4 : Mr := (yX0_init, cX0_init, 2, none, 0, 2, 70)
def r5 : Mr := (yX0_number, cX0_number, 3, (some .int), 0, 0, 0)
def r6 : Mr := (yX0_setNumber, cX0_setNumber, 4, none, 0, 0, 0)
def r7 : Mr := (yX0_canRun, cX0_canRun, 3, (some .int), 0, 1, 48)
def r8 : Mr := (yX1_init, cX1_init, 4, none, 1, 3, 94)
def r9 : Mr := (yX1_kind, cX1_kind, 1, (some .int), 1, 0, 0)
def r10 : Mr := (yX1_hoursFor, cX1_hoursFor, 2, (some .int), 1, 0, 0)
def r11 : Mr := (yX1_telling, cX1_telling, 2, (some .int), 1, 4, 84)
def r12 : Mr := (yX1_listed, cX1_listed, 2, (some .int), 1, 1, 21)
def r13 : Mr := (yX2_init, cX2_init, 4, none, 2, 2, 71)
def r14 : Mr := (yX2_kind, cX2_kind, 1, (some .int), 2, 0, 0)
def r15 : Mr := (yX2_hoursFor, cX2_hoursFor, 2, (some .int), 2, 1, 21)
def r16 : Mr := (yX2_telling, cX2_telling, 2, (some .int), 2, 3, 63)
def r17 : Mr := (yX3_init, cX3_init, 1, none, 3, 1, 48)
def r18 : Mr := (yX3_forget, cX3_forget, 1, none, 3, 0, 0)
def r19 : Mr := (yX3_look, cX3_look, 8, none, 3, 5, 126)
def r20 : Mr := (yX3_worthNow, cX3_worthNow, 1, (some .long), 3, 2, 44)
def r21 : Mr := (yX3_choiceNow, cX3_choiceNow, 1, (some .int), 3, 2, 44)
def r22 : Mr := (yX3_gain, cX3_gain, 5, (some .long), 3, 2, 44)
def r23 : Mr := (yX3_setSizes, cX3_setSizes, 3, none, 3, 1, 48)
def r24 : Mr := (yX3_goodIn, cX3_goodIn, 3, (some .int), 3, 0, 0)
def r25 : Mr := (yX3_stateNow, cX3_stateNow, 3, (some .int), 3, 1, 22)
def r26 : Mr := (yX3_fewestIn, cX3_fewestIn, 4, (some .int), 3, 1, 48)
def r27 : Mr := (yX3_afterPlane, cX3_afterPlane, 4, (some .int), 3, 1, 48)
def r28 : Mr := (yX3_passDay, cX3_passDay, 6, none, 3, 4, 101)
def r29 : Mr := (yX3_isTried, cX3_isTried, 3, (some .boolean), 3, 0, 0)
def r30 : Mr := (yX3_tryDriving, cX3_tryDriving, 7, none, 3, 3, 75)
def r31 : Mr := (yX3_takeMeans, cX3_takeMeans, 8, none, 3, 2, 48)
def r32 : Mr := (yX3_meanAt, cX3_meanAt, 9, (some .long), 3, 0, 0)
def r33 : Mr := (yX3_setChances, cX3_setChances, 5, none, 3, 1, 24)
def r34 : Mr := (yX3_neverMoved, cX3_neverMoved, 8, (some .long), 3, 2, 70)
def r35 : Mr := (yX3_added, cX3_added, 3, (some .int), 3, 1, 22)
def r36 : Mr := (yX3_weightAdded, cX3_weightAdded, 5, (some .int), 3, 2, 44)
def r37 : Mr := (yX3_bestFilled, cX3_bestFilled, 6, (some .int), 3, 3, 68)
def r38 : Mr := (yX4_init, cX4_init, 4, none, 4, 1, 48)
def r39 : Mr := (yX4_kind, cX4_kind, 1, (some .int), 4, 0, 0)
def r40 : Mr := (yX4_hoursFor, cX4_hoursFor, 2, (some .int), 4, 0, 0)
def r41 : Mr := (yX4_isUsable, cX4_isUsable, 1, (some .boolean), 4, 0, 0)
def r42 : Mr := (yX4_telling, cX4_telling, 2, (some .int), 4, 2, 42)
def r43 : Mr := (yX4_firstTelling, cX4_firstTelling, 2, (some .int), 4, 1, 21)
def r44 : Mr := (yX4_listed, cX4_listed, 2, (some .int), 4, 1, 21)
def r45 : Mr := (yX5_init, cX5_init, 1, none, 5, 1, 48)
def r46 : Mr := (yX5_isNothing, cX5_isNothing, 1, (some .boolean), 5, 0, 0)
def r47 : Mr := (yX5_begin, cX5_begin, 3, none, 5, 1, 23)
def r48 : Mr := (yX5_lacks, cX5_lacks, 3, (some .boolean), 5, 0, 0)
def r49 : Mr := (yX5_write, cX5_write, 3, none, 5, 0, 0)
def r50 : Mr := (yX5_areDraws, cX5_areDraws, 4, (some .boolean), 5, 0, 0)
def r51 : Mr := (yX6_init, cX6_init, 1, none, 6, 1, 48)
def r52 : Mr := (yX6_firstFault, cX6_firstFault, 5, (some .int), 6, 5, 104)
def r53 : Mr := (yX6_readLorries, cX6_readLorries, 1, (some .boolean), 6, 3, 62)
def r54 : Mr := (yX6_readSorts, cX6_readSorts, 1, (some .boolean), 6, 4, 84)
def r55 : Mr := (yX6_readSort, cX6_readSort, 3, (some .boolean), 6, 3, 62)
def r56 : Mr := (yX6_readBrings, cX6_readBrings, 2, (some .boolean), 6, 3, 62)
def r57 : Mr := (yX6_readPlane, cX6_readPlane, 2, (some .boolean), 6, 3, 62)
def r58 : Mr := (yX6_peek, cX6_peek, 1, (some .int), 6, 1, 21)
def r59 : Mr := (yX6_peekAt, cX6_peekAt, 2, (some .int), 6, 0, 0)
def r60 : Mr := (yX6_readCode, cX6_readCode, 2, (some .boolean), 6, 2, 41)
def r61 : Mr := (yX6_readNumber, cX6_readNumber, 6, (some .boolean), 6, 1, 21)
def r62 : Mr := (yX6_isDigit, cX6_isDigit, 1, (some .boolean), 6, 0, 0)
def r63 : Mr := (yX7_init, cX7_init, 1, none, 7, 1, 48)
def r64 : Mr := (yX7_leave, cX7_leave, 2, none, 7, 0, 0)
def r65 : Mr := (yX8_init, cX8_init, 1, none, 8, 1, 48)
def r66 : Mr := (yX8_find, cX8_find, 8, none, 8, 5, 113)
def r67 : Mr := (yX8_mostLorries, cX8_mostLorries, 3, (some .int), 8, 4, 87)
def r68 : Mr := (yX8_usableFor, cX8_usableFor, 4, (some .int), 8, 3, 64)
def r69 : Mr := (yX8_fitsOneOf, cX8_fitsOneOf, 3, (some .boolean), 8, 2, 42)
def r70 : Mr := (yX8_priceOf, cX8_priceOf, 5, (some .long), 8, 4, 89)
def r71 : Mr := (yX8_setPrices, cX8_setPrices, 6, none, 8, 3, 64)
def r72 : Mr := (yX8_price, cX8_price, 3, (some .long), 8, 2, 42)
def r73 : Mr := (yX8_givePartTo, cX8_givePartTo, 5, none, 8, 1, 25)
def r74 : Mr := (yX8_findSlacks, cX8_findSlacks, 6, none, 8, 0, 0)
def r75 : Mr := (yX8_nearest, cX8_nearest, 3, (some .int), 8, 0, 0)
def r76 : Mr := (yX8_lowerBids, cX8_lowerBids, 4, none, 8, 0, 0)
def r77 : Mr := (yX8_keep, cX8_keep, 5, none, 8, 0, 0)
def r78 : Mr := (yX9_init, cX9_init, 1, none, 9, 2, 68)
def r79 : Mr := (yX9_addPart, cX9_addPart, 4, (some .int), 9, 4, 117)
def r80 : Mr := (yX9_carry, cX9_carry, 5, (some .int), 9, 2, 42)
def r81 : Mr := (yX9_takeOff, cX9_takeOff, 3, none, 9, 0, 0)
def r82 : Mr := (yX9_makeGood, cX9_makeGood, 3, (some .int), 9, 0, 0)
def r83 : Mr := (yX9_makeHidden, cX9_makeHidden, 3, (some .int), 9, 0, 0)
def r84 : Mr := (yX9_running, cX9_running, 3, (some .int), 9, 1, 23)
def r85 : Mr := (yX9_canGo, cX9_canGo, 4, (some .boolean), 9, 0, 0)
def r86 : Mr := (yX9_driveOut, cX9_driveOut, 8, (some .int), 9, 2, 45)
def r87 : Mr := (yX9_bestWay, cX9_bestWay, 1, (some (.object "FourLorries$Way")), 9, 6, 140)
def r88 : Mr := (yX9_countGood, cX9_countGood, 3, (some .int), 9, 0, 0)
def r89 : Mr := (yX9_countHidden, cX9_countHidden, 3, (some .int), 9, 0, 0)
def r90 : Mr := (yX10_init, cX10_init, 2, none, 10, 3, 88)
def r91 : Mr := (yX10_camp, cX10_camp, 7, (some .int), 10, 6, 128)
def r92 : Mr := (yX10_ofCamp, cX10_ofCamp, 4, (some .int), 10, 2, 70)
def r93 : Mr := (yX10_ofSort, cX10_ofSort, 4, (some .int), 10, 2, 43)
def r94 : Mr := (yX10_turn, cX10_turn, 6, (some .int), 10, 2, 43)
def r95 : Mr := (yX10_value, cX10_value, 5, (some .long), 10, 6, 153)
def r96 : Mr := (yX10_today, cX10_today, 5, (some .int), 10, 6, 153)
def r97 : Mr := (yX10_worth, cX10_worth, 4, (some .long), 10, 7, 177)
def r98 : Mr := (yX10_crate, cX10_crate, 6, (some .int), 10, 6, 153)
def r99 : Mr := (yX10_lent, cX10_lent, 5, (some .long), 10, 7, 177)
def r100 : Mr := (yX10_both, cX10_both, 6, (some .int), 10, 7, 177)
def r101 : Mr := (yX10_part, cX10_part, 4, (some .int), 10, 5, 140)
def r102 : Mr := (yX10_ofPart, cX10_ofPart, 4, (some .int), 10, 1, 21)
def r103 : Mr := (yX10_at, cX10_at, 3, (some .int), 10, 1, 20)
def r104 : Mr := (yX10_fits, cX10_fits, 3, (some .int), 10, 2, 42)
def r105 : Mr := (yX10_move, cX10_move, 5, (some .int), 10, 3, 66)
def r106 : Mr := (yX10_mend, cX10_mend, 3, (some .int), 10, 1, 22)
def r107 : Mr := (yX10_hide, cX10_hide, 3, (some .int), 10, 1, 22)
def r108 : Mr := (yX10_spoils, cX10_spoils, 3, (some .int), 10, 0, 0)
def r109 : Mr := (yX10_odds, cX10_odds, 4, (some .int), 10, 1, 20)
def r110 : Mr := (yX10_runs, cX10_runs, 1, (some .int), 10, 2, 45)
def r111 : Mr := (yX10_most, cX10_most, 3, (some .int), 10, 7, 160)
def r112 : Mr := (yX10_goes, cX10_goes, 3, (some .int), 10, 7, 160)
def r113 : Mr := (yX10_drive, cX10_drive, 7, (some .int), 10, 3, 72)
def r114 : Mr := (yX10_sheet, cX10_sheet, 4, (some .int), 10, 2, 45)
def r115 : Mr := (yX10_lose, cX10_lose, 3, (some .int), 10, 1, 20)
def r116 : Mr := (yX10_put, cX10_put, 4, (some .int), 10, 1, 22)
def r117 : Mr := (yX10_cell, cX10_cell, 4, (some .long), 10, 2, 43)
def r118 : Mr := (yX10_copy, cX10_copy, 8, (some .int), 10, 1, 48)
def r119 : Mr := (yX10_tell, cX10_tell, 2, (some .int), 10, 5, 105)
def r120 : Mr := (yX10_list, cX10_list, 2, (some .int), 10, 2, 42)
def r121 : Mr := (yX10_as, cX10_as, 5, (some .int), 10, 1, 21)
def r122 : Mr := (yX10_trace, cX10_trace, 1, (some .int), 10, 0, 0)
def r123 : Mr := (yX10_fault, cX10_fault, 1, (some .int), 10, 0, 0)
def r124 : Mr := (yX10_many, cX10_many, 2, (some .int), 10, 1, 22)
def r125 : Mr := (yX10_isCamp, cX10_isCamp, 2, (some .boolean), 10, 0, 0)
def r126 : Mr := (yX10_isSortOf, cX10_isSortOf, 3, (some .boolean), 10, 1, 21)
def r127 : Mr := (yX10_isPart, cX10_isPart, 2, (some .boolean), 10, 0, 0)
def r128 : Mr := (yX10_isDay, cX10_isDay, 1, (some .boolean), 10, 0, 0)
def r129 : Mr := (yX10_isYardLorry, cX10_isYardLorry, 1, (some .boolean), 10, 0, 0)
def r130 : Mr := (yX10_isYardSort, cX10_isYardSort, 1, (some .boolean), 10, 0, 0)
def r131 : Mr := (yX10_isSheet, cX10_isSheet, 1, (some .boolean), 10, 0, 0)
def r132 : Mr := (yX10_isLane, cX10_isLane, 1, (some .boolean), 10, 0, 0)
def r133 : Mr := (yX10_faulty, cX10_faulty, 2, (some .int), 10, 0, 0)
def r134 : Mr := (yX10_takeRow, cX10_takeRow, 3, (some .int), 10, 1, 21)
def r135 : Mr := (yX10_takeCells, cX10_takeCells, 6, (some .int), 10, 2, 43)
def r136 : Mr := (yX10_bestGain, cX10_bestGain, 5, (some .long), 10, 6, 153)
def r137 : Mr := (yX10_canSwap, cX10_canSwap, 3, (some .boolean), 10, 1, 22)
def r138 : Mr := (yX11_init, cX11_init, 2, none, 11, 1, 48)
def r139 : Mr := (yX11_in, cX11_in, 6, (some .boolean), 11, 0, 0)
def r140 : Mr := (yX11_lost, cX11_lost, 0, (some .long), 11, 0, 0)
def r141 : Mr := (yX11_hasBit, cX11_hasBit, 2, (some .boolean), 11, 0, 0)
def r142 : Mr := (yX11_lesser, cX11_lesser, 2, (some .int), 11, 0, 0)
def r143 : Mr := (yX11_refused, cX11_refused, 2, (some .int), 11, 0, 0)
def r144 : Mr := (yX11_failed, cX11_failed, 2, (some .int), 11, 0, 0)
def r145 : Mr := (yX11_failedLong, cX11_failedLong, 2, (some .long), 11, 1, 19)
def r146 : Mr := (yX11_barred, cX11_barred, 6, (some .int), 11, 2, 45)
def r147 : Mr := (yX11_noCamp, cX11_noCamp, 2, (some .boolean), 11, 1, 25)
def r148 : Mr := (yX11_noSort, cX11_noSort, 3, (some .boolean), 11, 2, 46)
def r149 : Mr := (yX11_of, cX11_of, 4, (some .int), 11, 0, 0)
def r150 : Mr := (yX11_takes, cX11_takes, 5, (some .boolean), 11, 0, 0)
def r151 : Mr := (yX11_readsNumber, cX11_readsNumber, 9, (some .boolean), 11, 1, 25)
def r152 : Mr := (yX11_readsOne, cX11_readsOne, 9, (some .boolean), 11, 2, 53)
def r153 : Mr := (yX11_readsSort, cX11_readsSort, 5, (some .boolean), 11, 3, 81)
def r154 : Mr := (yX11_readsBrings, cX11_readsBrings, 5, (some .boolean), 11, 2, 53)
def r155 : Mr := (yX11_readsPlane, cX11_readsPlane, 5, (some .boolean), 11, 2, 53)
def r156 : Mr := (yX11_nextIs, cX11_nextIs, 4, (some .boolean), 11, 0, 0)
def r157 : Mr := (yX11_readsCamp, cX11_readsCamp, 4, (some .boolean), 11, 4, 105)
def r158 : Mr := (yX11_camp, cX11_camp, 7, (some .int), 11, 5, 128)
def r159 : Mr := (yX11_canRun, cX11_canRun, 7, (some .int), 11, 1, 21)
def r160 : Mr := (yX11_stateOf, cX11_stateOf, 4, (some .int), 11, 1, 23)
def r161 : Mr := (yX11_ofCamp, cX11_ofCamp, 3, (some .int), 11, 2, 47)
def r162 : Mr := (yX11_ofSort, cX11_ofSort, 4, (some .int), 11, 3, 68)
def r163 : Mr := (yX11_turn, cX11_turn, 7, (some .int), 11, 3, 68)
def r164 : Mr := (yX11_power, cX11_power, 5, (some .long), 11, 0, 0)
def r165 : Mr := (yX11_chance, cX11_chance, 6, (some .long), 11, 1, 24)
def r166 : Mr := (yX11_part12, cX11_part12, 6, (some .long), 11, 1, 24)
def r167 : Mr := (yX11_sixes, cX11_sixes, 1, (some .int), 11, 0, 0)
def r168 : Mr := (yX11_planed, cX11_planed, 5, (some .int), 11, 1, 23)
def r169 : Mr := (yX11_layMean, cX11_layMean, 15, none, 11, 2, 49)
def r170 : Mr := (yX11_manyBy, cX11_manyBy, 4, (some .int), 11, 2, 47)
def r171 : Mr := (yX11_layDay, cX11_layDay, 16, none, 11, 3, 83)
def r172 : Mr := (yX11_layLone, cX11_layLone, 8, none, 11, 2, 49)
def r173 : Mr := (yX11_layAll, cX11_layAll, 6, none, 11, 4, 118)
def r174 : Mr := (yX11_isSpan, cX11_isSpan, 1, (some .boolean), 11, 1, 25)
def r175 : Mr := (yX11_value, cX11_value, 5, (some .long), 11, 5, 143)
def r176 : Mr := (yX11_today, cX11_today, 5, (some .int), 11, 5, 143)
def r177 : Mr := (yX11_lowWith, cX11_lowWith, 5, (some .long), 11, 5, 143)
def r178 : Mr := (yX11_worth, cX11_worth, 4, (some .long), 11, 6, 167)
def r179 : Mr := (yX11_crate, cX11_crate, 14, (some .int), 11, 5, 143)
def r180 : Mr := (yX11_lent, cX11_lent, 5, (some .long), 11, 6, 167)
def r181 : Mr := (yX11_isMore, cX11_isMore, 6, (some .boolean), 11, 5, 143)
def r182 : Mr := (yX11_both, cX11_both, 6, (some .int), 11, 6, 168)
def r183 : Mr := (yX11_noPart, cX11_noPart, 2, (some .boolean), 11, 1, 25)
def r184 : Mr := (yX11_noYardSort, cX11_noYardSort, 1, (some .boolean), 11, 1, 25)
def r185 : Mr := (yX11_part, cX11_part, 4, (some .int), 11, 2, 45)
def r186 : Mr := (yX11_ofPart, cX11_ofPart, 4, (some .int), 11, 2, 46)
def r187 : Mr := (yX11_noLorry, cX11_noLorry, 1, (some .boolean), 11, 1, 25)
def r188 : Mr := (yX11_at, cX11_at, 3, (some .int), 11, 2, 45)
def r189 : Mr := (yX11_hoursFor, cX11_hoursFor, 5, (some .int), 11, 0, 0)
def r190 : Mr := (yX11_fits, cX11_fits, 3, (some .int), 11, 2, 46)
def r191 : Mr := (yX11_move, cX11_move, 8, (some .int), 11, 2, 46)
def r192 : Mr := (yX11_mend, cX11_mend, 4, (some .int), 11, 2, 46)
def r193 : Mr := (yX11_hide, cX11_hide, 4, (some .int), 11, 2, 46)
def r194 : Mr := (yX11_spoils, cX11_spoils, 3, (some .int), 11, 1, 25)
def r195 : Mr := (yX11_odds, cX11_odds, 4, (some .int), 11, 2, 45)
def r196 : Mr := (yX11_doesRun, cX11_doesRun, 4, (some .boolean), 11, 0, 0)
def r197 : Mr := (yX11_runs, cX11_runs, 3, (some .int), 11, 1, 23)
def r198 : Mr := (yX11_layWanted, cX11_layWanted, 3, none, 11, 1, 21)
def r199 : Mr := (yX11_costOf, cX11_costOf, 3, (some .int), 11, 1, 24)
def r200 : Mr := (yX11_layCosts, cX11_layCosts, 8, none, 11, 2, 46)
def r201 : Mr := (yX11_bits, cX11_bits, 3, (some .int), 11, 0, 0)
def r202 : Mr := (yX11_layWay, cX11_layWay, 4, none, 11, 3, 73)
def r203 : Mr := (yX11_most, cX11_most, 2, (some .int), 11, 4, 96)
def r204 : Mr := (yX11_goes, cX11_goes, 8, (some .int), 11, 4, 96)
def r205 : Mr := (yX11_drive, cX11_drive, 13, (some .int), 11, 3, 70)
def r206 : Mr := (yX11_noSheet, cX11_noSheet, 1, (some .boolean), 11, 1, 25)
def r207 : Mr := (yX11_sheet, cX11_sheet, 5, (some .int), 11, 2, 45)
def r208 : Mr := (yX11_lose, cX11_lose, 3, (some .int), 11, 2, 45)
def r209 : Mr := (yX11_noCell, cX11_noCell, 3, (some .int), 11, 1, 25)
def r210 : Mr := (yX11_put, cX11_put, 4, (some .int), 11, 2, 47)
def r211 : Mr := (yX11_cell, cX11_cell, 4, (some .long), 11, 2, 47)
def r212 : Mr := (yX11_isBeyond, cX11_isBeyond, 4, (some .boolean), 11, 0, 0)
def r213 : Mr := (yX11_copy, cX11_copy, 7, (some .int), 11, 2, 45)
def r214 : Mr := (yX11_traced, cX11_traced, 2, none, 11, 0, 0)
def r215 : Mr := (yX11_tell, cX11_tell, 4, (some .int), 11, 2, 46)
def r216 : Mr := (yX11_list, cX11_list, 2, (some .int), 11, 2, 46)
def r217 : Mr := (yX11_as, cX11_as, 3, (some .int), 11, 2, 46)
def r218 : Mr := (yX11_trace, cX11_trace, 1, (some .int), 11, 0, 0)
def r219 : Mr := (yX11_fault, cX11_fault, 1, (some .int), 11, 0, 0)
def r220 : Mr := (yX11_many, cX11_many, 5, (some .int), 11, 0, 0)
def lawR : Mr := (yL_law, cL_law, 4, some .boolean, 12, 8, 202)
def M0 : Mt := (r0, ct0)
def M1 : Mt := (r1, ct1)
def M2 : Mt := (r2, ct2)
def M3 : Mt := (r3, ct3)
def M4 : Mt := (r4, ct4)
def M5 : Mt := (r5, ct5)
def M6 : Mt := (r6, ct6)
def M7 : Mt := (r7, ct7)
def M8 : Mt := (r8, ct8)
def M9 : Mt := (r9, ct9)
def M10 : Mt := (r10, ct10)
def M11 : Mt := (r11, ct11)
def M12 : Mt := (r12, ct12)
def M13 : Mt := (r13, ct13)
def M14 : Mt := (r14, ct14)
def M15 : Mt := (r15, ct15)
def M16 : Mt := (r16, ct16)
def M17 : Mt := (r17, ct17)
def M18 : Mt := (r18, ct18)
def M19 : Mt := (r19, ct19)
def M20 : Mt := (r20, ct20)
def M21 : Mt := (r21, ct21)
def M22 : Mt := (r22, ct22)
def M23 : Mt := (r23, ct23)
def M24 : Mt := (r24, ct24)
def M25 : Mt := (r25, ct25)
def M26 : Mt := (r26, ct26)
def M27 : Mt := (r27, ct27)
def M28 : Mt := (r28, ct28)
def M29 : Mt := (r29, ct29)
def M30 : Mt := (r30, ct30)
def M31 : Mt := (r31, ct31)
def M32 : Mt := (r32, ct32)
def M33 : Mt := (r33, ct33)
def M34 : Mt := (r34, ct34)
def M35 : Mt := (r35, ct35)
def M36 : Mt := (r36, ct36)
def M37 : Mt := (r37, ct37)
def M38 : Mt := (r38, ct38)
def M39 : Mt := (r39, ct39)
def M40 : Mt := (r40, ct40)
def M41 : Mt := (r41, ct41)
def M42 : Mt := (r42, ct42)
def M43 : Mt := (r43, ct43)
def M44 : Mt := (r44, ct44)
def M45 : Mt := (r45, ct45)
def M46 : Mt := (r46, ct46)
def M47 : Mt := (r47, ct47)
def M48 : Mt := (r48, ct48)
def M49 : Mt := (r49, ct49)
def M50 : Mt := (r50, ct50)
def M51 : Mt := (r51, ct51)
def M52 : Mt := (r52, ct52)
def M53 : Mt := (r53, ct53)
def M54 : Mt := (r54, ct54)
def M55 : Mt := (r55, ct55)
def M56 : Mt := (r56, ct56)
def M57 : Mt := (r57, ct57)
def M58 : Mt := (r58, ct58)
def M59 : Mt := (r59, ct59)
def M60 : Mt := (r60, ct60)
def M61 : Mt := (r61, ct61)
def M62 : Mt := (r62, ct62)
def M63 : Mt := (r63, ct63)
def M64 : Mt := (r64, ct64)
def M65 : Mt := (r65, ct65)
def M66 : Mt := (r66, ct66)
def M67 : Mt := (r67, ct67)
def M68 : Mt := (r68, ct68)
def M69 : Mt := (r69, ct69)
def M70 : Mt := (r70, ct70)
def M71 : Mt := (r71, ct71)
def M72 : Mt := (r72, ct72)
def M73 : Mt := (r73, ct73)
def M74 : Mt := (r74, ct74)
def M75 : Mt := (r75, ct75)
def M76 : Mt := (r76, ct76)
def M77 : Mt := (r77, ct77)
def M78 : Mt := (r78, ct78)
def M79 : Mt := (r79, ct79)
def M80 : Mt := (r80, ct80)
def M81 : Mt := (r81, ct81)
def M82 : Mt := (r82, ct82)
def M83 : Mt := (r83, ct83)
def M84 : Mt := (r84, ct84)
def M85 : Mt := (r85, ct85)
def M86 : Mt := (r86, ct86)
def M87 : Mt := (r87, ct87)
def M88 : Mt := (r88, ct88)
def M89 : Mt := (r89, ct89)
def M90 : Mt := (r90, ct90)
def M91 : Mt := (r91, ct91)
def M92 : Mt := (r92, ct92)
def M93 : Mt := (r93, ct93)
def M94 : Mt := (r94, ct94)
def M95 : Mt := (r95, ct95)
def M96 : Mt := (r96, ct96)
def M97 : Mt := (r97, ct97)
def M98 : Mt := (r98, ct98)
def M99 : Mt := (r99, ct99)
def M100 : Mt := (r100, ct100)
def M101 : Mt := (r101, ct101)
def M102 : Mt := (r102, ct102)
def M103 : Mt := (r103, ct103)
def M104 : Mt := (r104, ct104)
def M105 : Mt := (r105, ct105)
def M106 : Mt := (r106, ct106)
def M107 : Mt := (r107, ct107)
def M108 : Mt := (r108, ct108)
def M109 : Mt := (r109, ct109)
def M110 : Mt := (r110, ct110)
def M111 : Mt := (r111, ct111)
def M112 : Mt := (r112, ct112)
def M113 : Mt := (r113, ct113)
def M114 : Mt := (r114, ct114)
def M115 : Mt := (r115, ct115)
def M116 : Mt := (r116, ct116)
def M117 : Mt := (r117, ct117)
def M118 : Mt := (r118, ct118)
def M119 : Mt := (r119, ct119)
def M120 : Mt := (r120, ct120)
def M121 : Mt := (r121, ct121)
def M122 : Mt := (r122, ct122)
def M123 : Mt := (r123, ct123)
def M124 : Mt := (r124, ct124)
def M125 : Mt := (r125, ct125)
def M126 : Mt := (r126, ct126)
def M127 : Mt := (r127, ct127)
def M128 : Mt := (r128, ct128)
def M129 : Mt := (r129, ct129)
def M130 : Mt := (r130, ct130)
def M131 : Mt := (r131, ct131)
def M132 : Mt := (r132, ct132)
def M133 : Mt := (r133, ct133)
def M134 : Mt := (r134, ct134)
def M135 : Mt := (r135, ct135)
def M136 : Mt := (r136, ct136)
def M137 : Mt := (r137, ct137)
def M138 : Mt := (r138, ct138)
def M139 : Mt := (r139, ct139)
def M140 : Mt := (r140, ct140)
def M141 : Mt := (r141, ct141)
def M142 : Mt := (r142, ct142)
def M143 : Mt := (r143, ct143)
def M144 : Mt := (r144, ct144)
def M145 : Mt := (r145, ct145)
def M146 : Mt := (r146, ct146)
def M147 : Mt := (r147, ct147)
def M148 : Mt := (r148, ct148)
def M149 : Mt := (r149, ct149)
def M150 : Mt := (r150, ct150)
def M151 : Mt := (r151, ct151)
def M152 : Mt := (r152, ct152)
def M153 : Mt := (r153, ct153)
def M154 : Mt := (r154, ct154)
def M155 : Mt := (r155, ct155)
def M156 : Mt := (r156, ct156)
def M157 : Mt := (r157, ct157)
def M158 : Mt := (r158, ct158)
def M159 : Mt := (r159, ct159)
def M160 : Mt := (r160, ct160)
def M161 : Mt := (r161, ct161)
def M162 : Mt := (r162, ct162)
def M163 : Mt := (r163, ct163)
def M164 : Mt := (r164, ct164)
def M165 : Mt := (r165, ct165)
def M166 : Mt := (r166, ct166)
def M167 : Mt := (r167, ct167)
def M168 : Mt := (r168, ct168)
def M169 : Mt := (r169, ct169)
def M170 : Mt := (r170, ct170)
def M171 : Mt := (r171, ct171)
def M172 : Mt := (r172, ct172)
def M173 : Mt := (r173, ct173)
def M174 : Mt := (r174, ct174)
def M175 : Mt := (r175, ct175)
def M176 : Mt := (r176, ct176)
def M177 : Mt := (r177, ct177)
def M178 : Mt := (r178, ct178)
def M179 : Mt := (r179, ct179)
def M180 : Mt := (r180, ct180)
def M181 : Mt := (r181, ct181)
def M182 : Mt := (r182, ct182)
def M183 : Mt := (r183, ct183)
def M184 : Mt := (r184, ct184)
def M185 : Mt := (r185, ct185)
def M186 : Mt := (r186, ct186)
def M187 : Mt := (r187, ct187)
def M188 : Mt := (r188, ct188)
def M189 : Mt := (r189, ct189)
def M190 : Mt := (r190, ct190)
def M191 : Mt := (r191, ct191)
def M192 : Mt := (r192, ct192)
def M193 : Mt := (r193, ct193)
def M194 : Mt := (r194, ct194)
def M195 : Mt := (r195, ct195)
def M196 : Mt := (r196, ct196)
def M197 : Mt := (r197, ct197)
def M198 : Mt := (r198, ct198)
def M199 : Mt := (r199, ct199)
def M200 : Mt := (r200, ct200)
def M201 : Mt := (r201, ct201)
def M202 : Mt := (r202, ct202)
def M203 : Mt := (r203, ct203)
def M204 : Mt := (r204, ct204)
def M205 : Mt := (r205, ct205)
def M206 : Mt := (r206, ct206)
def M207 : Mt := (r207, ct207)
def M208 : Mt := (r208, ct208)
def M209 : Mt := (r209, ct209)
def M210 : Mt := (r210, ct210)
def M211 : Mt := (r211, ct211)
def M212 : Mt := (r212, ct212)
def M213 : Mt := (r213, ct213)
def M214 : Mt := (r214, ct214)
def M215 : Mt := (r215, ct215)
def M216 : Mt := (r216, ct216)
def M217 : Mt := (r217, ct217)
def M218 : Mt := (r218, ct218)
def M219 : Mt := (r219, ct219)
def M220 : Mt := (r220, ct220)
def lawM : Mt := (lawR, ct221)
def Mts_0 : List Mt := [M0, M1, M2, M3, M4, M5, M6, M7, M8, M9, M10, M11, M12, M13, M14, M15, M16, M17, M18, M19, M20, M21, M22, M23, M24]
def Mts_1 : List Mt := [M25, M26, M27, M28, M29, M30, M31, M32, M33, M34, M35, M36, M37, M38, M39, M40, M41, M42, M43, M44, M45, M46, M47, M48, M49]
def Mts_2 : List Mt := [M50, M51, M52, M53, M54, M55, M56, M57, M58, M59, M60, M61, M62, M63, M64, M65, M66, M67, M68, M69, M70, M71, M72, M73, M74]
def Mts_3 : List Mt := [M75, M76, M77, M78, M79, M80, M81, M82, M83, M84, M85, M86, M87, M88, M89, M90, M91, M92, M93, M94, M95, M96, M97, M98, M99]
def Mts_4 : List Mt := [M100, M101, M102, M103, M104, M105, M106, M107, M108, M109, M110, M111, M112, M113, M114, M115, M116, M117, M118, M119, M120, M121, M122, M123, M124]
def Mts_5 : List Mt := [M125, M126, M127, M128, M129, M130, M131, M132, M133, M134, M135, M136, M137, M138, M139, M140, M141, M142, M143, M144, M145, M146, M147, M148, M149]
def Mts_6 : List Mt := [M150, M151, M152, M153, M154, M155, M156, M157, M158, M159, M160, M161, M162, M163, M164, M165, M166, M167, M168, M169, M170, M171, M172, M173, M174]
def Mts_7 : List Mt := [M175, M176, M177, M178, M179, M180, M181, M182, M183, M184, M185, M186, M187, M188, M189, M190, M191, M192, M193, M194, M195, M196, M197, M198, M199]
def Mts_8 : List Mt := [M200, M201, M202, M203, M204, M205, M206, M207, M208, M209, M210, M211, M212, M213, M214, M215, M216, M217, M218, M219, M220]
def Mts : List Mt := Mts_0 ++ (Mts_1 ++ (Mts_2 ++ (Mts_3 ++ (Mts_4 ++ (Mts_5 ++ (Mts_6 ++ (Mts_7 ++ (Mts_8))))))))
def owns : List String := [RX0, RX1, RX2, RX3, RX4, RX5, RX6, RX7, RX8, RX9, RX10, RX11, RL, RJ7, RJ9, RJ6]
def FTs_0 : List (Nat × Nat × Nat × Nat) := [(0, 9, 5, 6), (0, 15, 0, 0), (0, 18, 6, 6), (0, 21, 1, 0), (0, 22, 7, 6), (0, 25, 2, 0), (0, 26, 8, 6), (0, 36, 3, 0), (0, 37, 9, 6), (0, 40, 4, 0), (1, 7, 1, 1), (1, 13, 2, 1), (2, 9, 1, 2), (2, 15, 2, 2), (3, 9, 0, 3), (3, 15, 1, 3), (3, 19, 2, 3), (3, 22, 3, 3), (3, 25, 4, 3), (3, 28, 5, 3), (3, 31, 6, 3), (3, 35, 7, 3), (3, 38, 8, 3), (3, 41, 9, 3), (3, 45, 10, 3), (3, 48, 11, 3), (3, 51, 12, 3), (3, 54, 13, 3), (3, 60, 0, 0), (3, 83, 1, 0), (3, 86, 2, 0), (3, 125, 4, 0), (4, 9, 3, 4), (4, 15, 4, 4), (4, 18, 5, 4), (4, 22, 0, 4), (4, 25, 1, 4), (4, 28, 2, 4), (5, 9, 0, 5), (5, 15, 1, 5)]
def FTs_1 : List (Nat × Nat × Nat × Nat) := [(5, 18, 2, 5), (6, 9, 0, 6), (6, 15, 1, 6), (6, 19, 2, 6), (6, 22, 3, 6), (6, 25, 4, 6), (6, 28, 5, 6), (6, 31, 6, 6), (6, 34, 7, 6), (6, 37, 8, 6), (6, 41, 9, 6), (6, 89, 2, 5), (7, 7, 0, 7), (8, 9, 0, 8), (8, 15, 1, 8), (8, 18, 2, 8), (8, 21, 3, 8), (8, 24, 4, 8), (8, 28, 5, 8), (8, 32, 6, 8), (8, 35, 7, 8), (8, 38, 8, 8), (8, 41, 9, 8), (8, 45, 10, 8), (8, 48, 11, 8), (8, 51, 12, 8), (8, 54, 13, 8), (8, 57, 14, 8), (8, 60, 15, 8), (8, 132, 5, 4), (9, 11, 0, 9), (9, 17, 1, 9), (9, 21, 2, 9), (9, 25, 3, 9), (9, 28, 4, 9), (9, 34, 5, 9), (9, 38, 6, 9), (9, 57, 4, 4), (9, 60, 5, 4), (9, 71, 0, 4)]
def FTs_2 : List (Nat × Nat × Nat × Nat) := [(9, 74, 3, 4), (9, 85, 2, 5), (9, 90, 1, 4), (10, 13, 0, 10), (10, 17, 1, 10), (10, 24, 2, 10), (10, 31, 3, 10), (10, 38, 4, 10), (10, 44, 5, 10), (10, 51, 6, 10), (10, 55, 7, 10), (10, 74, 0, 0), (10, 77, 4, 0), (10, 81, 1, 0), (10, 84, 2, 0), (10, 160, 0, 9), (10, 169, 1, 4), (10, 172, 2, 4), (10, 175, 3, 4), (10, 179, 5, 4), (10, 182, 4, 4), (10, 188, 2, 9), (10, 205, 3, 9), (10, 208, 4, 9), (10, 218, 0, 8), (10, 223, 1, 8), (10, 226, 2, 8), (10, 227, 3, 8), (10, 228, 4, 8), (10, 260, 0, 5), (10, 272, 2, 5), (10, 292, 0, 7), (10, 295, 1, 9), (11, 7, 2, 11), (11, 13, 3, 11), (11, 16, 4, 11), (11, 19, 5, 11), (11, 22, 6, 11), (11, 25, 12, 11), (11, 28, 13, 11)]
def FTs_3 : List (Nat × Nat × Nat × Nat) := [(11, 31, 14, 11), (11, 35, 15, 11), (11, 38, 16, 11), (11, 41, 17, 11), (11, 44, 19, 11), (11, 47, 20, 11), (11, 50, 21, 11), (11, 53, 22, 11), (11, 57, 23, 11), (11, 60, 24, 11), (11, 63, 25, 11), (11, 66, 27, 11), (11, 70, 28, 11), (11, 73, 30, 11), (11, 76, 33, 11), (11, 79, 34, 11), (11, 82, 35, 11), (11, 85, 36, 11), (11, 88, 26, 11), (11, 94, 0, 11), (11, 122, 1, 11), (11, 128, 7, 11), (11, 135, 8, 11), (11, 146, 10, 11), (11, 153, 9, 11), (11, 156, 11, 11), (11, 259, 18, 11), (11, 281, 29, 11), (11, 295, 31, 11), (11, 298, 32, 11), (11, 321, 37, 11)]
def FTs : List (Nat × Nat × Nat × Nat) := FTs_0 ++ (FTs_1 ++ (FTs_2 ++ (FTs_3)))
def STs : List (Nat × Nat × Nat) := [(3, 135, 4), (6, 72, 3), (6, 76, 2), (6, 79, 0), (6, 82, 1), (10, 99, 0), (10, 102, 1)]
def LTs : List (Nat × Nat × Nat) := [(9, 9, 4), (9, 31, 8), (9, 48, 1), (9, 53, 2), (10, 11, 0), (10, 21, 6), (10, 28, 3), (10, 35, 9), (10, 42, 5), (10, 48, 7), (10, 288, 2), (10, 290, 1), (12, 7, 10), (12, 10, 11)]
def MLs_0 : List (Nat × Nat × Nat × Nat × Nat × Nat × Nat) := [(0, 3, 7, 0, 0, 0, 0), (0, 30, 2, 2, 3, 0, 0), (0, 41, 0, 2, 5, 0, 0), (0, 45, 10, 2, 0, 0, 0), (1, 1, 3, 3, 13, 0, 0), (1, 16, 0, 1, 64, 0, 0), (1, 22, 6, 1, 16, 0, 0), (1, 26, 5, 1, 999, 999, 43), (2, 3, 3, 3, 38, 0, 0), (2, 18, 6, 1, 40, 0, 0), (2, 22, 0, 1, 64, 0, 0), (2, 28, 6, 1, 42, 0, 0), (3, 3, 7, 0, 0, 0, 0), (3, 57, 0, 0, 23, 0, 0), (3, 65, 0, 1, 26, 0, 0), (3, 69, 10, 2, 0, 0, 0), (3, 75, 0, 2, 28, 0, 0), (3, 79, 0, 0, 25, 0, 0), (3, 89, 0, 2, 5, 0, 0), (3, 92, 0, 2, 24, 0, 0), (3, 95, 0, 1, 27, 0, 0), (3, 100, 2, 2, 1, 0, 0), (3, 106, 0, 2, 29, 0, 0), (3, 110, 0, 2, 30, 0, 0), (3, 113, 8, 5, 0, 0, 0), (3, 119, 0, 3, 31, 0, 0), (3, 128, 0, 2, 33, 0, 0), (3, 131, 0, 3, 32, 0, 0), (3, 138, 0, 0, 18, 0, 0), (3, 141, 0, 0, 7, 0, 0), (3, 146, 0, 2, 35, 0, 0), (3, 149, 0, 1, 36, 0, 0), (4, 3, 7, 0, 0, 0, 0), (4, 31, 5, 1, 43, 43, 43), (4, 35, 0, 1, 64, 0, 0), (5, 3, 7, 0, 0, 0, 0), (5, 22, 2, 2, 2, 0, 0), (6, 3, 7, 0, 0, 0, 0), (6, 44, 0, 0, 53, 0, 0), (6, 48, 0, 0, 54, 0, 0)]
def MLs_1 : List (Nat × Nat × Nat × Nat × Nat × Nat × Nat) := [(6, 51, 0, 0, 56, 0, 0), (6, 54, 0, 0, 57, 0, 0), (6, 57, 0, 1, 60, 0, 0), (6, 61, 0, 3, 61, 0, 0), (6, 65, 0, 0, 58, 0, 0), (6, 69, 0, 1, 55, 0, 0), (6, 85, 0, 1, 59, 0, 0), (6, 94, 2, 1, 62, 0, 0), (7, 1, 7, 0, 0, 0, 0), (8, 3, 7, 0, 0, 0, 0), (8, 64, 0, 0, 67, 0, 0), (8, 70, 2, 1, 0, 0, 0), (8, 76, 0, 1, 70, 0, 0), (8, 82, 0, 2, 77, 0, 0), (8, 86, 0, 1, 68, 0, 0), (8, 89, 10, 2, 0, 0, 0), (8, 95, 5, 0, 41, 41, 41), (8, 101, 2, 2, 69, 0, 0), (8, 105, 5, 1, 40, 15, 10), (8, 108, 0, 1, 71, 0, 0), (8, 112, 2, 2, 1, 0, 0), (8, 118, 2, 2, 2, 0, 0), (8, 121, 0, 1, 73, 0, 0), (8, 124, 2, 2, 72, 0, 0), (8, 135, 0, 1, 74, 0, 0), (8, 138, 0, 0, 75, 0, 0), (8, 141, 0, 1, 76, 0, 0), (9, 3, 7, 0, 0, 0, 0), (9, 33, 4, 0, 65, 0, 0), (9, 42, 2, 2, 2, 0, 0), (9, 50, 3, 3, 8, 0, 0), (9, 55, 3, 3, 13, 0, 0), (9, 56, 3, 3, 38, 0, 0), (9, 63, 5, 1, 40, 15, 10), (9, 67, 0, 2, 81, 0, 0), (9, 77, 0, 1, 85, 0, 0), (9, 81, 0, 0, 84, 0, 0), (9, 93, 0, 2, 66, 0, 0), (10, 3, 7, 0, 0, 0, 0), (10, 23, 4, 0, 51, 0, 0)]
def MLs_2 : List (Nat × Nat × Nat × Nat × Nat × Nat × Nat) := [(10, 30, 4, 0, 17, 0, 0), (10, 37, 3, 0, 78, 0, 0), (10, 50, 4, 0, 63, 0, 0), (10, 58, 4, 0, 45, 0, 0), (10, 59, 0, 4, 135, 0, 0), (10, 63, 0, 3, 52, 0, 0), (10, 67, 3, 1, 4, 0, 0), (10, 70, 0, 1, 125, 0, 0), (10, 87, 0, 0, 7, 0, 0), (10, 91, 0, 2, 126, 0, 0), (10, 95, 0, 2, 5, 0, 0), (10, 105, 0, 3, 6, 0, 0), (10, 109, 0, 0, 18, 0, 0), (10, 112, 2, 1, 128, 0, 0), (10, 117, 0, 3, 34, 0, 0), (10, 121, 0, 5, 19, 0, 0), (10, 125, 0, 0, 20, 0, 0), (10, 129, 0, 0, 21, 0, 0), (10, 132, 0, 4, 136, 0, 0), (10, 136, 0, 1, 37, 0, 0), (10, 140, 0, 1, 36, 0, 0), (10, 143, 0, 2, 35, 0, 0), (10, 146, 2, 3, 137, 0, 0), (10, 150, 2, 1, 130, 0, 0), (10, 153, 0, 3, 79, 0, 0), (10, 157, 0, 1, 127, 0, 0), (10, 164, 5, 0, 39, 14, 9), (10, 185, 2, 1, 129, 0, 0), (10, 191, 5, 1, 40, 15, 10), (10, 194, 0, 3, 80, 0, 0), (10, 198, 0, 2, 82, 0, 0), (10, 202, 0, 2, 83, 0, 0), (10, 211, 0, 0, 84, 0, 0), (10, 214, 0, 0, 87, 0, 0), (10, 231, 2, 1, 0, 0, 0), (10, 236, 0, 2, 50, 0, 0), (10, 239, 0, 2, 86, 0, 0), (10, 243, 2, 1, 131, 0, 0), (10, 246, 2, 1, 132, 0, 0), (10, 249, 0, 1, 133, 0, 0)]
def MLs_3 : List (Nat × Nat × Nat × Nat × Nat × Nat × Nat) := [(10, 252, 0, 2, 47, 0, 0), (10, 256, 0, 0, 46, 0, 0), (10, 263, 0, 2, 48, 0, 0), (10, 266, 0, 2, 49, 0, 0), (10, 269, 0, 2, 134, 0, 0), (10, 275, 8, 5, 0, 0, 0), (10, 281, 5, 1, 42, 16, 11), (10, 285, 5, 1, 44, 44, 12), (10, 296, 0, 0, 88, 0, 0), (10, 299, 0, 0, 89, 0, 0), (10, 302, 0, 2, 22, 0, 0), (11, 1, 7, 0, 0, 0, 0), (11, 97, 2, 0, 140, 0, 0), (11, 101, 2, 1, 206, 0, 0), (11, 105, 0, 1, 143, 0, 0), (11, 111, 2, 3, 139, 0, 0), (11, 115, 0, 1, 144, 0, 0), (11, 118, 2, 3, 212, 0, 0), (11, 125, 0, 1, 147, 0, 0), (11, 138, 0, 3, 150, 0, 0), (11, 142, 0, 5, 151, 0, 0), (11, 149, 0, 7, 152, 0, 0), (11, 159, 0, 2, 153, 0, 0), (11, 163, 0, 3, 156, 0, 0), (11, 166, 0, 2, 154, 0, 0), (11, 169, 0, 2, 155, 0, 0), (11, 172, 0, 4, 146, 0, 0), (11, 176, 0, 2, 157, 0, 0), (11, 179, 2, 2, 142, 0, 0), (11, 183, 0, 3, 149, 0, 0), (11, 187, 0, 1, 160, 0, 0), (11, 190, 0, 3, 159, 0, 0), (11, 195, 0, 2, 148, 0, 0), (11, 202, 2, 2, 164, 0, 0), (11, 206, 2, 1, 167, 0, 0), (11, 209, 0, 2, 168, 0, 0), (11, 212, 2, 3, 165, 0, 0), (11, 216, 2, 3, 166, 0, 0), (11, 222, 0, 6, 169, 0, 0), (11, 230, 0, 3, 170, 0, 0)]
def MLs_4 : List (Nat × Nat × Nat × Nat × Nat × Nat × Nat) := [(11, 233, 0, 2, 172, 0, 0), (11, 237, 0, 4, 171, 0, 0), (11, 243, 2, 1, 174, 0, 0), (11, 246, 0, 4, 173, 0, 0), (11, 249, 0, 4, 177, 0, 0), (11, 255, 0, 4, 181, 0, 0), (11, 262, 2, 1, 184, 0, 0), (11, 267, 0, 1, 183, 0, 0), (11, 270, 2, 1, 187, 0, 0), (11, 273, 0, 2, 189, 0, 0), (11, 278, 0, 1, 196, 0, 0), (11, 284, 2, 2, 141, 0, 0), (11, 287, 0, 1, 198, 0, 0), (11, 292, 0, 2, 199, 0, 0), (11, 301, 2, 1, 201, 0, 0), (11, 304, 0, 1, 200, 0, 0), (11, 307, 0, 0, 202, 0, 0), (11, 310, 0, 0, 197, 0, 0), (11, 314, 0, 2, 209, 0, 0), (11, 317, 0, 1, 145, 0, 0), (11, 324, 0, 1, 214, 0, 0), (12, 9, 3, 0, 90, 0, 0), (12, 12, 3, 0, 138, 0, 0), (12, 13, 0, 4, 91, 0, 0), (12, 17, 0, 4, 158, 0, 0), (12, 18, 0, 2, 92, 0, 0), (12, 22, 0, 2, 161, 0, 0), (12, 23, 0, 3, 93, 0, 0), (12, 27, 0, 3, 162, 0, 0), (12, 28, 0, 4, 94, 0, 0), (12, 31, 0, 4, 163, 0, 0), (12, 32, 0, 4, 95, 0, 0), (12, 36, 0, 4, 175, 0, 0), (12, 37, 0, 3, 96, 0, 0), (12, 40, 0, 3, 176, 0, 0), (12, 41, 0, 3, 97, 0, 0), (12, 45, 0, 3, 178, 0, 0), (12, 46, 0, 4, 98, 0, 0), (12, 49, 0, 4, 179, 0, 0), (12, 50, 0, 4, 99, 0, 0)]
def MLs_5 : List (Nat × Nat × Nat × Nat × Nat × Nat × Nat) := [(12, 53, 0, 4, 180, 0, 0), (12, 54, 0, 5, 100, 0, 0), (12, 58, 0, 5, 182, 0, 0), (12, 59, 0, 3, 101, 0, 0), (12, 62, 0, 3, 185, 0, 0), (12, 63, 0, 2, 102, 0, 0), (12, 66, 0, 2, 186, 0, 0), (12, 67, 0, 2, 103, 0, 0), (12, 70, 0, 2, 188, 0, 0), (12, 71, 0, 2, 104, 0, 0), (12, 74, 0, 2, 190, 0, 0), (12, 75, 0, 4, 105, 0, 0), (12, 78, 0, 4, 191, 0, 0), (12, 79, 0, 2, 106, 0, 0), (12, 83, 0, 2, 192, 0, 0), (12, 84, 0, 2, 107, 0, 0), (12, 87, 0, 2, 193, 0, 0), (12, 88, 0, 1, 108, 0, 0), (12, 92, 0, 1, 194, 0, 0), (12, 93, 0, 2, 109, 0, 0), (12, 96, 0, 2, 195, 0, 0), (12, 97, 0, 0, 110, 0, 0), (12, 101, 0, 0, 197, 0, 0), (12, 102, 0, 1, 111, 0, 0), (12, 105, 0, 1, 203, 0, 0), (12, 106, 0, 1, 112, 0, 0), (12, 109, 0, 1, 204, 0, 0), (12, 110, 0, 4, 113, 0, 0), (12, 113, 0, 4, 205, 0, 0), (12, 114, 0, 3, 114, 0, 0), (12, 117, 0, 3, 207, 0, 0), (12, 118, 0, 1, 115, 0, 0), (12, 121, 0, 1, 208, 0, 0), (12, 122, 0, 3, 116, 0, 0), (12, 125, 0, 3, 210, 0, 0), (12, 126, 0, 3, 117, 0, 0), (12, 129, 0, 3, 211, 0, 0), (12, 130, 0, 5, 118, 0, 0), (12, 133, 0, 5, 213, 0, 0), (12, 134, 0, 1, 119, 0, 0)]
def MLs_6 : List (Nat × Nat × Nat × Nat × Nat × Nat × Nat) := [(12, 137, 0, 1, 215, 0, 0), (12, 138, 0, 1, 120, 0, 0), (12, 141, 0, 1, 216, 0, 0), (12, 142, 0, 2, 121, 0, 0), (12, 145, 0, 2, 217, 0, 0), (12, 146, 0, 0, 122, 0, 0), (12, 149, 0, 0, 218, 0, 0), (12, 150, 0, 0, 123, 0, 0), (12, 153, 0, 0, 219, 0, 0), (12, 154, 0, 1, 124, 0, 0), (12, 157, 0, 1, 220, 0, 0), (13, 150, 8, 5, 0, 0, 0), (13, 304, 10, 2, 0, 0, 0), (13, 316, 9, 0, 0, 0, 0)]
def MLs : List (Nat × Nat × Nat × Nat × Nat × Nat × Nat) := MLs_0 ++ (MLs_1 ++ (MLs_2 ++ (MLs_3 ++ (MLs_4 ++ (MLs_5 ++ (MLs_6))))))
def nFs : List Nat := [5, 6, 6, 14, 6, 3, 10, 1, 16, 7, 8, 38]
/-- what a field is: 0 an int, 1 a boolean, 2 a reference -/
def fTs : List (List Nat) := [[0, 0, 0, 2, 2], [0, 0, 0, 1, 1, 0], [0, 0, 0, 1, 1, 0], [2, 0, 0, 0, 0, 0, 2, 2, 2, 2, 2, 2, 2, 2], [0, 0, 0, 1, 1, 0], [0, 0, 2], [2, 0, 0, 0, 0, 0, 0, 0, 2, 2], [0], [0, 0, 0, 0, 2, 2, 0, 0, 2, 2, 2, 2, 2, 2, 2, 2], [2, 0, 2, 0, 2, 2, 1], [2, 0, 2, 2, 2, 2, 2, 0], [0, 0, 2, 2, 2, 2, 2, 0, 0, 0, 0, 0, 2, 2, 2, 2, 2, 2, 0, 2, 2, 2, 2, 2, 2, 2, 0, 2, 2, 0, 2, 0, 0, 2, 2, 2, 2, 0]]
def fFs : List (List Bool) := [[true, true, true, true, true], [true, true, true, false, false, false], [true, true, true, false, false, false], [false, false, false, false, false, false, true, true, true, true, true, true, true, true], [true, true, true, false, false, false], [false, false, true], [false, false, false, false, false, false, false, false, true, true], [false], [false, false, false, false, true, false, false, false, true, true, true, true, true, true, true, true], [true, false, true, false, true, true, false], [true, false, true, true, true, true, true, false], [false, false, true, true, true, true, true, false, false, false, false, false, true, true, true, true, true, true, false, true, true, true, true, true, true, true, false, true, true, false, true, false, false, true, true, true, true, false]]
end
section
/-! A little machine over a plain picture of the heap. A reference is a number: 0 is null, k+1 is the k-th cell made since the law began. -/
abbrev Hp : Type := (Nat × Nat) × (Nat → Nat) × (Nat → Nat) × (Nat → Nat → Int32) × (Nat → Nat → Int64) × (Nat → Nat → Nat)
abbrev zc (h : Hp) : Nat := h.1.1
abbrev zs (h : Hp) : Nat := h.1.2
abbrev zK (h : Hp) : Nat → Nat := h.2.1
abbrev zN (h : Hp) : Nat → Nat := h.2.2.1
abbrev zI (h : Hp) : Nat → Nat → Int32 := h.2.2.2.1
abbrev zJ (h : Hp) : Nat → Nat → Int64 := h.2.2.2.2.1
abbrev zA (h : Hp) : Nat → Nat → Nat := h.2.2.2.2.2
def upI (h : Hp) (a j : Nat) (v : Int32) : Hp := (h.1, zK h, zN h, va_up (zI h) a (upd (zI h a) j v), zJ h, zA h)
def upJ (h : Hp) (a j : Nat) (v : Int64) : Hp := (h.1, zK h, zN h, zI h, va_up (zJ h) a (vp_updL (zJ h a) j v), zA h)
def upA (h : Hp) (a j : Nat) (v : Nat) : Hp := (h.1, zK h, zN h, zI h, zJ h, va_up (zA h) a (va_up (zA h a) j v))
def rwI (h : Hp) (a : Nat) (f : Nat → Int32) : Hp := (h.1, zK h, zN h, va_up (zI h) a f, zJ h, zA h)
def rwJ (h : Hp) (a : Nat) (f : Nat → Int64) : Hp := (h.1, zK h, zN h, zI h, va_up (zJ h) a f, zA h)
/-- a new cell of a kind, of so many slots: all are 0 -/
def nwC (h : Hp) (kd n : Nat) : Hp := ((zc h + 1, zs h + n), va_up (zK h) (zc h + 1) kd, va_up (zN h) (zc h + 1) n, va_up (zI h) (zc h + 1) (fun _ => 0), va_up (zJ h) (zc h + 1) (fun _ => 0), va_up (zA h) (zc h + 1) (fun _ => 0))
/-- a new int array that holds f -/
def nwI (h : Hp) (n : Nat) (f : Nat → Int32) : Hp := ((zc h + 1, zs h + n), va_up (zK h) (zc h + 1) 12, va_up (zN h) (zc h + 1) n, va_up (zI h) (zc h + 1) f, va_up (zJ h) (zc h + 1) (fun _ => 0), va_up (zA h) (zc h + 1) (fun _ => 0))
abbrev Ls : Type := List (Option Value)
def mkM (r : Mr) (c : List Rw) : Mt := (r, c)
def ownS (c : Nat) : String := owns.getD c ""
def ft (c j : Nat) : Nat := (fTs.getD c []).getD j 0
def nf (c : Nat) : Nat := nFs.getD c 0
/-- the kinds of objects that a reference of a kind may have -/
def kin (b c : Nat) : Bool := b == c || (b == 4 && (c == 2 || c == 1)) || (b == 2 && c == 1)
def inB (i : Int32) (n : Nat) : Bool := !(decide (i < 0) || decide (n ≤ i.toNatClampNeg))
theorem inB_iff {i : Int32} {n : Nat} : inB i n = true ↔ vp_in i n := by
  unfold inB vp_in
  simp
def cAt (c : List Rw) (pc : Nat) : Option Rw := c.find? (fun r => r.1 == pc)
def fAt (c i : Nat) : Option (Nat × Nat × Nat × Nat) := FTs.find? (fun r => r.1 == c && r.2.1 == i)
def sAt (c i : Nat) : Option (Nat × Nat × Nat) := STs.find? (fun r => r.1 == c && r.2.1 == i)
def lAt (c i : Nat) : Option (Nat × Nat × Nat) := LTs.find? (fun r => r.1 == c && r.2.1 == i)
def mAt (c i : Nat) : Option (Nat × Nat × Nat × Nat × Nat × Nat × Nat) := MLs.find? (fun r => r.1 == c && r.2.1 == i)
/-- the static arrays: 0 LEAST, 1 GREATEST, 2 DIGITS, 3 LETTERS, 4 TWELVES -/
def stN (t : Nat) : Nat := [5, 5, 4, 4, 5].getD t 0
def stI (t j : Nat) : Int32 := (([[0, 0, 0, 1, 0], [5, 12, 12, 9, 2], [1, 2, 2, 1], [115, 104, 101, 119]] : List (List Int32)).getD t []).getD j 0
def stJ (j : Nat) : Int64 := ([1, 12, 144, 1728, 20736] : List Int64).getD j 0
/-- locals: a value of two words takes the next place too -/
def clr (ls : Ls) (i : Nat) : Ls := match i with
  | 0 => ls
  | j + 1 => match ls[j]? with
    | some (some (.long _)) => ls.set j none
    | some (some (.double _)) => ls.set j none
    | _ => ls
def st1 (ls : Ls) (i : Nat) (v : Value) : Ls := (clr ls i).set i (some v)
def st2 (ls : Ls) (i : Nat) (v : Value) : Ls := ((clr ls i).set i (some v)).set (i + 1) none
def enL (n : Nat) (as : List Value) : Ls := match as, n with
  | [], n => List.replicate n none
  | .long x :: r, n => some (.long x) :: none :: enL (n - 2) r
  | .double x :: r, n => some (.double x) :: none :: enL (n - 2) r
  | v :: r, n => some v :: enL (n - 1) r
/-- what an instruction does: what it asks and where it goes on; or a choice; or a return; or a call -/
abbrev Nx : Type := Nat × Ls × List Value × Hp
abbrev Sx : Type := (Prop × Nx) ⊕ ((Prop × Nat × Nat × Ls × List Value) ⊕ ((Prop × Option Value) ⊕ (Prop × Nat × List Value × List Value)))
def go (p : Prop) (pc : Nat) (ls : Ls) (st : List Value) (h : Hp) : Option Sx := some (.inl (p, pc, ls, st, h))
def br (c : Prop) (tg nx : Nat) (ls : Ls) (st : List Value) : Option Sx := some (.inr (.inl (c, tg, nx, ls, st)))
def rt (p : Prop) (v : Option Value) : Option Sx := some (.inr (.inr (.inl (p, v))))
def cl (p : Prop) (k : Nat) (as rest : List Value) : Option Sx := some (.inr (.inr (.inr (p, k, as, rest))))
def tsw (pc : Nat) (d lo hi : Int) (offs : Array Int) (x : Int32) : Nat := ((pc : Int) + (if x.toInt < lo ∨ hi < x.toInt then d else offs.getD (x.toInt - lo).toNat 0)).toNat
def cat (v : Value) : Nat := match v with
  | .long _ => 2
  | .double _ => 2
  | _ => 1
def cats (st : List Value) : Nat := (st.map cat).sum
def mtk (k : Nat) : Mt := Mts.getD k lawM
def mro (k : Nat) : Mr := (mtk k).1
abbrev mY (r : Mr) : MethodName := r.1
abbrev mB (r : Mr) : ByteArray := r.2.1
abbrev mL (r : Mr) : Nat := r.2.2.1
abbrev mR (r : Mr) : Option FieldType := r.2.2.2.1
abbrev mC (r : Mr) : Nat := r.2.2.2.2.1
abbrev mF (r : Mr) : Nat := r.2.2.2.2.2.1
abbrev mW (r : Mr) : Nat := r.2.2.2.2.2.2
def okc (r q : Mr) (rest : List Value) : Bool := decide (mF q + 1 ≤ mF r) && decide (19 + mL q + mW q ≤ mW r) && decide (cats rest ≤ 8)
def okn (r : Mr) (rest : List Value) : Bool := decide (1 ≤ mF r) && decide (48 ≤ mW r) && decide (cats rest ≤ 8)
/-- the callee's place among the methods, by the kind of the object -/
def pck (kd a b d : Nat) : Nat := if kd = 4 then a else if kd = 2 then b else d
def aar (kd : Nat) : Bool := kd == 15 || kd == 16 || kd == 17
/-- the kind of array for objects of a kind -/
def kar (c : Nat) : Nat := if c = 0 then 15 else if c = 4 then 16 else 17
def inst (c kd : Nat) : Int32 := if kin c kd = true then 1 else 0
def stp (sc : Nat × (Nat → Int32)) (mt : Mt) (pc : Nat) (ls : Ls) (st : List Value) (h : Hp) : Option Sx :=
  match cAt mt.2 pc with
  | none => none
  | some (_, nx, i, tg, cv) =>
    match i with
    | .iconst _ => go True nx ls (cv :: st) h
    | .bipush _ => go True nx ls (cv :: st) h
    | .sipush _ => go True nx ls (cv :: st) h
    | .lconst _ => go True nx ls (cv :: st) h
    | .ldc _ => go True nx ls (cv :: st) h
    | .ldc_w _ => go True nx ls (cv :: st) h
    | .ldc2_w _ => go True nx ls (cv :: st) h
    | .aconst_null => go True nx ls (.ref 0 :: st) h
    | .iload_n j => (match ls[j.val]? with
      | some (some (.int x)) => go True nx ls (.int x :: st) h
      | _ => none)
    | .iload j => (match ls[j]? with
      | some (some (.int x)) => go True nx ls (.int x :: st) h
      | _ => none)
    | .lload_n j => (match ls[j.val]? with
      | some (some (.long x)) => go True nx ls (.long x :: st) h
      | _ => none)
    | .lload j => (match ls[j]? with
      | some (some (.long x)) => go True nx ls (.long x :: st) h
      | _ => none)
    | .aload_n j => (match ls[j.val]? with
      | some (some (.ref x)) => go True nx ls (.ref x :: st) h
      | some (some (.retAddr x)) => go True nx ls (.retAddr x :: st) h
      | _ => none)
    | .aload j => (match ls[j]? with
      | some (some (.ref x)) => go True nx ls (.ref x :: st) h
      | _ => none)
    | .istore_n j => (match st with
      | .int x :: r => go True nx (st1 ls j.val (.int x)) r h
      | _ => none)
    | .istore j => (match st with
      | .int x :: r => go True nx (st1 ls j (.int x)) r h
      | _ => none)
    | .lstore_n j => (match st with
      | .long x :: r => go True nx (st2 ls j.val (.long x)) r h
      | _ => none)
    | .lstore j => (match st with
      | .long x :: r => go True nx (st2 ls j (.long x)) r h
      | _ => none)
    | .astore_n j => (match st with
      | .ref x :: r => go True nx (st1 ls j.val (.ref x)) r h
      | _ => none)
    | .astore j => (match st with
      | .ref x :: r => go True nx (st1 ls j (.ref x)) r h
      | _ => none)
    | .iinc j n => (match ls[j]? with
      | some (some (.int x)) => go True nx (st1 ls j (.int (x + Int32.ofInt n))) st h
      | _ => none)
    | .iadd => (match st with
      | .int y :: .int x :: r => go True nx ls (.int (x + y) :: r) h
      | _ => none)
    | .isub => (match st with
      | .int y :: .int x :: r => go True nx ls (.int (x - y) :: r) h
      | _ => none)
    | .imul => (match st with
      | .int y :: .int x :: r => go True nx ls (.int (x * y) :: r) h
      | _ => none)
    | .iand => (match st with
      | .int y :: .int x :: r => go True nx ls (.int (x &&& y) :: r) h
      | _ => none)
    | .ior => (match st with
      | .int y :: .int x :: r => go True nx ls (.int (x ||| y) :: r) h
      | _ => none)
    | .ishl => (match st with
      | .int y :: .int x :: r => go True nx ls (.int (x <<< (y &&& 31)) :: r) h
      | _ => none)
    | .ishr => (match st with
      | .int y :: .int x :: r => go True nx ls (.int (x >>> (y &&& 31)) :: r) h
      | _ => none)
    | .iushr => (match st with
      | .int y :: .int x :: r => go True nx ls (.int (x.toUInt32 >>> (y.toUInt32 &&& Int32.toUInt32 31)).toInt32 :: r) h
      | _ => none)
    | .idiv => (match st with
      | .int y :: .int x :: r => go (¬ y = 0) nx ls (.int (x / y) :: r) h
      | _ => none)
    | .irem => (match st with
      | .int y :: .int x :: r => go (¬ y = 0) nx ls (.int (x - x / y * y) :: r) h
      | _ => none)
    | .ladd => (match st with
      | .long y :: .long x :: r => go True nx ls (.long (x + y) :: r) h
      | _ => none)
    | .lsub => (match st with
      | .long y :: .long x :: r => go True nx ls (.long (x - y) :: r) h
      | _ => none)
    | .lmul => (match st with
      | .long y :: .long x :: r => go True nx ls (.long (x * y) :: r) h
      | _ => none)
    | .ldiv => (match st with
      | .long y :: .long x :: r => go (¬ y = 0) nx ls (.long (x / y) :: r) h
      | _ => none)
    | .lrem => (match st with
      | .long y :: .long x :: r => go (¬ y = 0) nx ls (.long (x - x / y * y) :: r) h
      | _ => none)
    | .lcmp => (match st with
      | .long y :: .long x :: r => go True nx ls (.int (lg_cmp x y) :: r) h
      | _ => none)
    | .i2l => (match st with
      | .int x :: r => go True nx ls (.long x.toInt64 :: r) h
      | _ => none)
    | .l2i => (match st with
      | .long x :: r => go True nx ls (.int x.toInt32 :: r) h
      | _ => none)
    | .i2b => (match st with
      | .int x :: r => go True nx ls (.int x.toInt8.toInt32 :: r) h
      | _ => none)
    | .i2s => (match st with
      | .int x :: r => go True nx ls (.int x.toInt16.toInt32 :: r) h
      | _ => none)
    | .dup => (match st with
      | .int x :: r => go True nx ls (.int x :: .int x :: r) h
      | .ref x :: r => go True nx ls (.ref x :: .ref x :: r) h
      | _ => none)
    | .dup2 => (match st with
      | .int x :: .ref y :: r => go True nx ls (.int x :: .ref y :: .int x :: .ref y :: r) h
      | _ => none)
    | .pop => (match st with
      | .int _ :: r => go True nx ls r h
      | .ref _ :: r => go True nx ls r h
      | _ => none)
    | .goto _ => go True tg ls st h
    | .ifCond .eq _ => (match st with
      | .int x :: r => br (x = 0) tg nx ls r
      | _ => none)
    | .ifCond .ne _ => (match st with
      | .int x :: r => br (¬ x = 0) tg nx ls r
      | _ => none)
    | .ifCond .lt _ => (match st with
      | .int x :: r => br (x < 0) tg nx ls r
      | _ => none)
    | .ifCond .ge _ => (match st with
      | .int x :: r => br (0 ≤ x) tg nx ls r
      | _ => none)
    | .ifCond .gt _ => (match st with
      | .int x :: r => br (0 < x) tg nx ls r
      | _ => none)
    | .ifCond .le _ => (match st with
      | .int x :: r => br (x ≤ 0) tg nx ls r
      | _ => none)
    | .if_icmp .eq _ => (match st with
      | .int y :: .int x :: r => br (x = y) tg nx ls r
      | _ => none)
    | .if_icmp .ne _ => (match st with
      | .int y :: .int x :: r => br (¬ x = y) tg nx ls r
      | _ => none)
    | .if_icmp .lt _ => (match st with
      | .int y :: .int x :: r => br (x < y) tg nx ls r
      | _ => none)
    | .if_icmp .ge _ => (match st with
      | .int y :: .int x :: r => br (y ≤ x) tg nx ls r
      | _ => none)
    | .if_icmp .gt _ => (match st with
      | .int y :: .int x :: r => br (y < x) tg nx ls r
      | _ => none)
    | .if_icmp .le _ => (match st with
      | .int y :: .int x :: r => br (x ≤ y) tg nx ls r
      | _ => none)
    | .if_acmp .ne _ => (match st with
      | .ref y :: .ref x :: r => br (¬ x = y) tg nx ls r
      | _ => none)
    | .tableswitch d lo hi offs => (match st with
      | .int x :: r => go True (tsw pc d lo hi offs x) ls r h
      | _ => none)
    | .getfield ix => (match fAt (mC mt.1) ix with
      | some (_, _, j, b) => (match st with
        | .ref a :: r => go (kin b (zK h a) = true) nx ls ((if ft b j = 2 then .ref (zA h a j) else .int (zI h a j)) :: r) h
        | _ => none)
      | none => none)
    | .putfield ix => (match fAt (mC mt.1) ix with
      | some (_, _, j, b) => (match st with
        | .int v :: .ref a :: r => if ft b j = 0 then go (kin b (zK h a) = true) nx ls r (upI h a j v) else if ft b j = 1 then go (kin b (zK h a) = true ∧ (v = 0 ∨ v = 1)) nx ls r (upI h a j v) else none
        | .ref v :: .ref a :: r => if ft b j = 2 then go (kin b (zK h a) = true) nx ls r (upA h a j v) else none
        | _ => none)
      | none => none)
    | .getstatic ix => (match sAt (mC mt.1) ix with
      | some (_, _, t) => go True nx ls (.retAddr t :: st) h
      | none => none)
    | .new ix => (match lAt (mC mt.1) ix with
      | some (_, _, c) => go True nx ls (.ref (zc h + 1) :: st) (nwC h c (nf c))
      | none => none)
    | .newarray .int => (match st with
      | .int n :: r => go (¬ n < 0 ∧ n.toNatClampNeg ≤ 100000) nx ls (.ref (zc h + 1) :: r) (nwC h 12 n.toNatClampNeg)
      | _ => none)
    | .newarray .long => (match st with
      | .int n :: r => go (¬ n < 0 ∧ n.toNatClampNeg ≤ 100000) nx ls (.ref (zc h + 1) :: r) (nwC h 13 n.toNatClampNeg)
      | _ => none)
    | .newarray .boolean => (match st with
      | .int n :: r => go (¬ n < 0 ∧ n.toNatClampNeg ≤ 100000) nx ls (.ref (zc h + 1) :: r) (nwC h 14 n.toNatClampNeg)
      | _ => none)
    | .anewarray ix => (match lAt (mC mt.1) ix with
      | some (_, _, c) => (match st with
        | .int n :: r => if c = 0 ∨ c = 4 ∨ c = 5 then go (¬ n < 0 ∧ n.toNatClampNeg ≤ 100000) nx ls (.ref (zc h + 1) :: r) (nwC h (kar c) n.toNatClampNeg) else none
        | _ => none)
      | none => none)
    | .arraylength => (match st with
      | .ref a :: r => go (zK h a = 12 ∨ zK h a = 13) nx ls (.int (Int32.ofNat (zN h a)) :: r) h
      | .retAddr t :: r => if t = 5 then go True nx ls (.int (Int32.ofNat sc.1) :: r) h else none
      | _ => none)
    | .iaload => (match st with
      | .int i :: .ref a :: r => go (zK h a = 12 ∧ inB i (zN h a) = true) nx ls (.int (zI h a i.toNatClampNeg) :: r) h
      | .int i :: .retAddr t :: r => if t = 5 then go (inB i sc.1 = true) nx ls (.int (sc.2 i.toNatClampNeg) :: r) h else if t < 3 then go (inB i (stN t) = true) nx ls (.int (stI t i.toNatClampNeg) :: r) h else none
      | _ => none)
    | .caload => (match st with
      | .int i :: .retAddr t :: r => if t = 3 then go (inB i 4 = true) nx ls (.int (stI 3 i.toNatClampNeg) :: r) h else none
      | _ => none)
    | .laload => (match st with
      | .int i :: .ref a :: r => go (zK h a = 13 ∧ inB i (zN h a) = true) nx ls (.long (zJ h a i.toNatClampNeg) :: r) h
      | .int i :: .retAddr t :: r => if t = 4 then go (inB i 5 = true) nx ls (.long (stJ i.toNatClampNeg) :: r) h else none
      | _ => none)
    | .baload => (match st with
      | .int i :: .ref a :: r => go (zK h a = 14 ∧ inB i (zN h a) = true) nx ls (.int (zI h a i.toNatClampNeg) :: r) h
      | _ => none)
    | .aaload => (match st with
      | .int i :: .ref a :: r => go (aar (zK h a) = true ∧ inB i (zN h a) = true) nx ls (.ref (zA h a i.toNatClampNeg) :: r) h
      | _ => none)
    | .iastore => (match st with
      | .int v :: .int i :: .ref a :: r => go (zK h a = 12 ∧ inB i (zN h a) = true) nx ls r (upI h a i.toNatClampNeg v)
      | _ => none)
    | .lastore => (match st with
      | .long v :: .int i :: .ref a :: r => go (zK h a = 13 ∧ inB i (zN h a) = true) nx ls r (upJ h a i.toNatClampNeg v)
      | _ => none)
    | .bastore => (match st with
      | .int v :: .int i :: .ref a :: r => go (zK h a = 14 ∧ inB i (zN h a) = true ∧ (v = 0 ∨ v = 1)) nx ls r (upI h a i.toNatClampNeg v)
      | _ => none)
    | .aastore => (match st with
      | .ref v :: .int i :: .ref a :: r => go (inB i (zN h a) = true ∧ ((zK h a = 15 ∧ zK h v = 0) ∨ (zK h a = 16 ∧ kin 4 (zK h v) = true) ∨ (zK h a = 17 ∧ zK h v = 5))) nx ls r (upA h a i.toNatClampNeg v)
      | _ => none)
    | .instanceof ix => (match lAt (mC mt.1) ix with
      | some (_, _, c) => (match st with
        | .ref a :: r => if c = 1 ∨ c = 2 then go (kin 4 (zK h a) = true) nx ls (.int (inst c (zK h a)) :: r) h else none
        | _ => none)
      | none => none)
    | .checkcast ix => (match st with
      | .ref a :: r => if mC mt.1 = 13 ∧ ix = 317 then go (zK h a = 12) nx ls (.ref a :: r) h else none
      | _ => none)
    | .invokevirtual ix => (match mAt (mC mt.1) ix with
      | some (_, _, 0, n, a, _, _) => (match st.drop n with
        | .ref o :: r => cl (okc mt.1 (mro a) r = true ∧ zK h o = mC (mro a)) a (.ref o :: (st.take n).reverse) r
        | _ => none)
      | some (_, _, 5, n, a, b, d) => (match st.drop n with
        | .ref o :: r => cl (okc mt.1 (mro (pck (zK h o) a b d)) r = true ∧ kin 4 (zK h o) = true ∧ pck (zK h o) a b d < 999) (pck (zK h o) a b d) (.ref o :: (st.take n).reverse) r
        | _ => none)
      | some (_, _, 9, _, _, _, _) => (match st with
        | .ref o :: r => go (okn mt.1 r = true ∧ zK h o = 12) nx ls (.ref (zc h + 1) :: r) (nwI h (zN h o) (zI h o))
        | _ => none)
      | _ => none)
    | .invokespecial ix => (match mAt (mC mt.1) ix with
      | some (_, _, 3, n, a, _, _) => (match st.drop n with
        | .ref o :: r => cl (okc mt.1 (mro a) r = true ∧ ¬ o = 0) a (.ref o :: (st.take n).reverse) r
        | _ => none)
      | some (_, _, 4, n, a, _, _) => (match st.drop n with
        | .ref o :: r => cl (okc mt.1 (mro a) r = true ∧ ¬ o = 0) a (.ref o :: (st.take n).reverse) r
        | _ => none)
      | some (_, _, 6, n, a, _, _) => (match st.drop n with
        | .ref o :: r => cl (okc mt.1 (mro a) r = true ∧ kin 4 (zK h o) = true) a (.ref o :: (st.take n).reverse) r
        | _ => none)
      | some (_, _, 7, _, _, _, _) => (match st with
        | .ref o :: r => go (okn mt.1 r = true ∧ ¬ o = 0) nx ls r h
        | _ => none)
      | _ => none)
    | .invokestatic ix => (match mAt (mC mt.1) ix with
      | some (_, _, 2, n, a, _, _) => cl (okc mt.1 (mro a) (st.drop n) = true) a ((st.take n).reverse) (st.drop n)
      | some (_, _, 10, _, _, _, _) => (match st with
        | .int y :: .int x :: r => go (okn mt.1 r = true) nx ls (.int (if y < x then y else x) :: r) h
        | _ => none)
      | some (_, _, 8, _, _, _, _) => (match st with
        | .int n :: .int dp :: .ref d :: .int sp :: .ref s :: r => go (okn mt.1 r = true ∧ ¬ sp < 0 ∧ ¬ dp < 0 ∧ ¬ n < 0 ∧ sp.toNatClampNeg + n.toNatClampNeg ≤ zN h s ∧ dp.toNatClampNeg + n.toNatClampNeg ≤ zN h d ∧ ((zK h s = 12 ∧ zK h d = 12) ∨ (zK h s = 13 ∧ zK h d = 13))) nx ls r
            (if zK h d = 13 then rwJ h d (va_cpy (zJ h s) (zJ h d) sp.toNatClampNeg dp.toNatClampNeg n.toNatClampNeg) else rwI h d (va_cpy (zI h s) (zI h d) sp.toNatClampNeg dp.toNatClampNeg n.toNatClampNeg))
        | _ => none)
      | _ => none)
    | .ireturn => (match st with
      | .int x :: [] => rt (mR mt.1 = some .int ∨ (mR mt.1 = some .boolean ∧ (x = 0 ∨ x = 1))) (some (.int x))
      | _ => none)
    | .lreturn => (match st with
      | .long x :: [] => rt True (some (.long x))
      | _ => none)
    | .areturn => (match st with
      | .ref x :: [] => rt True (some (.ref x))
      | _ => none)
    | .return_ => (match st with
      | [] => rt True none
      | _ => none)
    | _ => none
end
section
def gwl : List Cond := lw_tbl.filter goodWord
theorem gm {w : Cond} (i : Nat) (h : lw_tbl[i]? = some w) (hg : goodWord w = true) : w ∈ gwl := List.mem_filter.mpr ⟨List.mem_of_getElem? h, hg⟩
def isNest (w : Cond) : Bool := match w with
  | .fieldLinkNest _ _ _ _ _ _ => true
  | .methodLinkNest _ _ _ _ => true
  | .castable _ _ => true
  | _ => false
def nwl : List Cond := lw_tbl.filter isNest
theorem nm {w : Cond} (i : Nat) (h : lw_tbl[i]? = some w) (hg : isNest w = true) : w ∈ nwl := List.mem_filter.mpr ⟨List.mem_of_getElem? h, hg⟩
theorem gm_ps {ws : List Cond} (ps : List Nat) (hp : ws = ps.filterMap (fun i => lw_tbl[i]?)) (hg : ws.all goodWord = true) : ∀ w ∈ ws, w ∈ gwl := by
  intro w hw
  have h1 := List.all_eq_true.mp hg w hw
  rw [hp] at hw
  obtain ⟨i, -, hi⟩ := List.mem_filterMap.mp hw
  exact gm i hi h1
def ilen (i : Instr) : Nat := match i with
  | .bipush _ => 2
  | .sipush _ => 3
  | .ldc _ => 2
  | .ldc_w _ => 3
  | .ldc2_w _ => 3
  | .iload _ => 2
  | .lload _ => 2
  | .aload _ => 2
  | .istore _ => 2
  | .lstore _ => 2
  | .astore _ => 2
  | .iinc _ _ => 3
  | .goto _ => 3
  | .ifCond _ _ => 3
  | .if_icmp _ _ => 3
  | .if_acmp _ _ => 3
  | .getfield _ => 3
  | .putfield _ => 3
  | .getstatic _ => 3
  | .new _ => 3
  | .newarray _ => 2
  | .anewarray _ => 3
  | .instanceof _ => 3
  | .checkcast _ => 3
  | .invokevirtual _ => 3
  | .invokespecial _ => 3
  | .invokestatic _ => 3
  | _ => 1
def KTs : List (Nat × Nat × Value) := [(3, 98, .long (-1)), (3, 123, .long 1000000), (3, 144, .long 3000000), (8, 68, .long 4611686018427387904), (8, 80, .long 8916100448256), (8, 128, .long 12), (8, 130, .long 144115188075855872), (8, 145, .long 256), (10, 115, .long (-9223372036854775808)), (11, 69, .int 53248), (11, 92, .long (-9223372036854775808)), (11, 109, .long 2), (11, 131, .long 48), (11, 133, .long 57), (11, 193, .long 10), (11, 198, .long 4), (11, 200, .long 3), (11, 220, .long (-1)), (11, 226, .long 3000000), (11, 228, .long 2000000), (11, 241, .long 12), (11, 253, .long 30), (11, 265, .long 9), (11, 276, .long 11), (11, 291, .int 1000000), (15, 265, .int 1431655765), (15, 266, .int 858993459), (15, 267, .int 252645135)]
def fin (c ix : Nat) : Bool := match fAt c ix with
  | some (_, _, j, b) => (fFs.getD b []).getD j false
  | none => false
/-- what a program decides of a row of code -/
def rowOK (y : MethodName) (c : Nat) (b : ByteArray) (r : Rw) : Bool :=
  decide (decode b r.1 = .ok (r.2.2.1, r.2.1 - r.1)) && (match r.2.2.1 with
    | .tableswitch d lo hi offs => decide (0 ≤ (r.1 : Int) + d) && offs.toList.all (fun z => decide (0 ≤ (r.1 : Int) + z)) && decide ((offs.size : Int) = hi - lo + 1)
    | i => decide (r.2.1 = r.1 + ilen i)) && (match r.2.2.1 with
    | .goto z => decide ((r.1 : Int) + z = (r.2.2.2.1 : Int))
    | .ifCond _ z => decide ((r.1 : Int) + z = (r.2.2.2.1 : Int))
    | .if_icmp _ z => decide ((r.1 : Int) + z = (r.2.2.2.1 : Int))
    | .if_acmp _ z => decide ((r.1 : Int) + z = (r.2.2.2.1 : Int))
    | .iconst n => decide (r.2.2.2.2 = .int (Int32.ofInt n))
    | .bipush n => decide (r.2.2.2.2 = .int (Int8.ofInt n).toInt32)
    | .sipush n => decide (r.2.2.2.2 = .int (Int16.ofInt n).toInt32)
    | .lconst n => decide (r.2.2.2.2 = .long (Int64.ofNat (n : Nat)))
    | .ldc ix => KTs.contains (c, ix, r.2.2.2.2) && (match r.2.2.2.2 with | .int _ => true | _ => false)
    | .ldc_w ix => KTs.contains (c, ix, r.2.2.2.2) && (match r.2.2.2.2 with | .int _ => true | _ => false)
    | .ldc2_w ix => KTs.contains (c, ix, r.2.2.2.2) && (match r.2.2.2.2 with | .long _ => true | _ => false)
    | .putfield ix => !(fin c ix) || y.name == "<init>"
    | _ => true)
/-- a method: its words -/
def MrP (r : Mr) : Prop := Cond.code (mY r) (mB r) (mL r) (mR r) ∈ gwl ∧ Cond.initialized (mY r).cls ∈ gwl ∧ (Cond.instanceMethod (mY r) ∈ gwl ∨ Cond.static (mY r) ∈ gwl) ∧ plainName (mY r).cls = true ∧ (mY r).cls ≠ "java/lang/invoke/MethodHandle" ∧ (mY r).cls ≠ "java/lang/invoke/VarHandle" ∧ ownS (mC r) = (mY r).cls
abbrev CkP (r : Mr) (c : List Rw) : Prop := c.all (rowOK (mY r) (mC r) (mB r)) = true
end
section
set_option maxRecDepth 20000 in
theorem mp0 : MrP r0 := ⟨gm 844 rfl rfl, (gm 88 (by decide +kernel) rfl), Or.inr (gm 843 (by decide +kernel) rfl), (by decide +kernel), (by decide +kernel), (by decide +kernel), (by decide +kernel)⟩
set_option maxRecDepth 20000 in
theorem mp1 : MrP r1 := ⟨gm 530 rfl rfl, (gm 78 (by decide +kernel) rfl), Or.inr (gm 529 (by decide +kernel) rfl), (by decide +kernel), (by decide +kernel), (by decide +kernel), (by decide +kernel)⟩
set_option maxRecDepth 20000 in
theorem mp2 : MrP r2 := ⟨gm 263 rfl rfl, (gm 78 (by decide +kernel) rfl), Or.inr (gm 262 (by decide +kernel) rfl), (by decide +kernel), (by decide +kernel), (by decide +kernel), (by decide +kernel)⟩
set_option maxRecDepth 20000 in
theorem mp3 : MrP r3 := ⟨gm 436 rfl rfl, (gm 78 (by decide +kernel) rfl), Or.inr (gm 435 (by decide +kernel) rfl), (by decide +kernel), (by decide +kernel), (by decide +kernel), (by decide +kernel)⟩
set_option maxRecDepth 20000 in
theorem mp4 : MrP r4 := ⟨gm 432 rfl rfl, (gm 82 (by decide +kernel) rfl), Or.inl (gm 431 (by decide +kernel) rfl), (by decide +kernel), (by decide +kernel), (by decide +kernel), (by decide +kernel)⟩
set_option maxRecDepth 20000 in
theorem mp5 : MrP r5 := ⟨gm 489 rfl rfl, (gm 82 (by decide +kernel) rfl), Or.inl (gm 487 (by decide +kernel) rfl), (by decide +kernel), (by decide +kernel), (by decide +kernel), (by decide +kernel)⟩
set_option maxRecDepth 20000 in
theorem mp6 : MrP r6 := ⟨gm 509 rfl rfl, (gm 82 (by decide +kernel) rfl), Or.inl (gm 507 (by decide +kernel) rfl), (by decide +kernel), (by decide +kernel), (by decide +kernel), (by decide +kernel)⟩
set_option maxRecDepth 20000 in
theorem mp7 : MrP r7 := ⟨gm 485 rfl rfl, (gm 82 (by decide +kernel) rfl), Or.inl (gm 483 (by decide +kernel) rfl), (by decide +kernel), (by decide +kernel), (by decide +kernel), (by decide +kernel)⟩
set_option maxRecDepth 20000 in
theorem mp8 : MrP r8 := ⟨gm 655 rfl rfl, (gm 87 (by decide +kernel) rfl), Or.inl (gm 654 (by decide +kernel) rfl), (by decide +kernel), (by decide +kernel), (by decide +kernel), (by decide +kernel)⟩
set_option maxRecDepth 20000 in
theorem mp9 : MrP r9 := ⟨gm 734 rfl rfl, (gm 87 (by decide +kernel) rfl), Or.inl (gm 733 (by decide +kernel) rfl), (by decide +kernel), (by decide +kernel), (by decide +kernel), (by decide +kernel)⟩
set_option maxRecDepth 20000 in
theorem mp10 : MrP r10 := ⟨gm 756 rfl rfl, (gm 87 (by decide +kernel) rfl), Or.inl (gm 755 (by decide +kernel) rfl), (by decide +kernel), (by decide +kernel), (by decide +kernel), (by decide +kernel)⟩
set_option maxRecDepth 20000 in
theorem mp11 : MrP r11 := ⟨gm 945 rfl rfl, (gm 87 (by decide +kernel) rfl), Or.inl (gm 944 (by decide +kernel) rfl), (by decide +kernel), (by decide +kernel), (by decide +kernel), (by decide +kernel)⟩
set_option maxRecDepth 20000 in
theorem mp12 : MrP r12 := ⟨gm 975 rfl rfl, (gm 87 (by decide +kernel) rfl), Or.inl (gm 974 (by decide +kernel) rfl), (by decide +kernel), (by decide +kernel), (by decide +kernel), (by decide +kernel)⟩
set_option maxRecDepth 20000 in
theorem mp13 : MrP r13 := ⟨gm 658 rfl rfl, (gm 86 (by decide +kernel) rfl), Or.inl (gm 657 (by decide +kernel) rfl), (by decide +kernel), (by decide +kernel), (by decide +kernel), (by decide +kernel)⟩
set_option maxRecDepth 20000 in
theorem mp14 : MrP r14 := ⟨gm 737 rfl rfl, (gm 86 (by decide +kernel) rfl), Or.inl (gm 736 (by decide +kernel) rfl), (by decide +kernel), (by decide +kernel), (by decide +kernel), (by decide +kernel)⟩
set_option maxRecDepth 20000 in
theorem mp15 : MrP r15 := ⟨gm 759 rfl rfl, (gm 86 (by decide +kernel) rfl), Or.inl (gm 758 (by decide +kernel) rfl), (by decide +kernel), (by decide +kernel), (by decide +kernel), (by decide +kernel)⟩
set_option maxRecDepth 20000 in
theorem mp16 : MrP r16 := ⟨gm 952 rfl rfl, (gm 86 (by decide +kernel) rfl), Or.inl (gm 951 (by decide +kernel) rfl), (by decide +kernel), (by decide +kernel), (by decide +kernel), (by decide +kernel)⟩
set_option maxRecDepth 20000 in
theorem mp17 : MrP r17 := ⟨gm 146 rfl rfl, (gm 75 (by decide +kernel) rfl), Or.inl (gm 145 (by decide +kernel) rfl), (by decide +kernel), (by decide +kernel), (by decide +kernel), (by decide +kernel)⟩
set_option maxRecDepth 20000 in
theorem mp18 : MrP r18 := ⟨gm 513 rfl rfl, (gm 75 (by decide +kernel) rfl), Or.inl (gm 511 (by decide +kernel) rfl), (by decide +kernel), (by decide +kernel), (by decide +kernel), (by decide +kernel)⟩
set_option maxRecDepth 20000 in
theorem mp19 : MrP r19 := ⟨gm 546 rfl rfl, (gm 75 (by decide +kernel) rfl), Or.inl (gm 544 (by decide +kernel) rfl), (by decide +kernel), (by decide +kernel), (by decide +kernel), (by decide +kernel)⟩
set_option maxRecDepth 20000 in
theorem mp20 : MrP r20 := ⟨gm 586 rfl rfl, (gm 75 (by decide +kernel) rfl), Or.inl (gm 584 (by decide +kernel) rfl), (by decide +kernel), (by decide +kernel), (by decide +kernel), (by decide +kernel)⟩
set_option maxRecDepth 20000 in
theorem mp21 : MrP r21 := ⟨gm 598 rfl rfl, (gm 75 (by decide +kernel) rfl), Or.inl (gm 596 (by decide +kernel) rfl), (by decide +kernel), (by decide +kernel), (by decide +kernel), (by decide +kernel)⟩
set_option maxRecDepth 20000 in
theorem mp22 : MrP r22 := ⟨gm 610 rfl rfl, (gm 75 (by decide +kernel) rfl), Or.inl (gm 608 (by decide +kernel) rfl), (by decide +kernel), (by decide +kernel), (by decide +kernel), (by decide +kernel)⟩
set_option maxRecDepth 20000 in
theorem mp23 : MrP r23 := ⟨gm 550 rfl rfl, (gm 75 (by decide +kernel) rfl), Or.inl (gm 549 (by decide +kernel) rfl), (by decide +kernel), (by decide +kernel), (by decide +kernel), (by decide +kernel)⟩
set_option maxRecDepth 20000 in
theorem mp24 : MrP r24 := ⟨gm 559 rfl rfl, (gm 75 (by decide +kernel) rfl), Or.inl (gm 558 (by decide +kernel) rfl), (by decide +kernel), (by decide +kernel), (by decide +kernel), (by decide +kernel)⟩
set_option maxRecDepth 20000 in
theorem mp25 : MrP r25 := ⟨gm 590 rfl rfl, (gm 75 (by decide +kernel) rfl), Or.inl (gm 589 (by decide +kernel) rfl), (by decide +kernel), (by decide +kernel), (by decide +kernel), (by decide +kernel)⟩
set_option maxRecDepth 20000 in
theorem mp26 : MrP r26 := ⟨gm 555 rfl rfl, (gm 75 (by decide +kernel) rfl), Or.inl (gm 554 (by decide +kernel) rfl), (by decide +kernel), (by decide +kernel), (by decide +kernel), (by decide +kernel)⟩
set_option maxRecDepth 20000 in
theorem mp27 : MrP r27 := ⟨gm 567 rfl rfl, (gm 75 (by decide +kernel) rfl), Or.inl (gm 566 (by decide +kernel) rfl), (by decide +kernel), (by decide +kernel), (by decide +kernel), (by decide +kernel)⟩
set_option maxRecDepth 20000 in
theorem mp28 : MrP r28 := ⟨gm 563 rfl rfl, (gm 75 (by decide +kernel) rfl), Or.inl (gm 562 (by decide +kernel) rfl), (by decide +kernel), (by decide +kernel), (by decide +kernel), (by decide +kernel)⟩
set_option maxRecDepth 20000 in
theorem mp29 : MrP r29 := ⟨gm 572 rfl rfl, (gm 75 (by decide +kernel) rfl), Or.inl (gm 571 (by decide +kernel) rfl), (by decide +kernel), (by decide +kernel), (by decide +kernel), (by decide +kernel)⟩
set_option maxRecDepth 20000 in
theorem mp30 : MrP r30 := ⟨gm 576 rfl rfl, (gm 75 (by decide +kernel) rfl), Or.inl (gm 575 (by decide +kernel) rfl), (by decide +kernel), (by decide +kernel), (by decide +kernel), (by decide +kernel)⟩
set_option maxRecDepth 20000 in
theorem mp31 : MrP r31 := ⟨gm 581 rfl rfl, (gm 75 (by decide +kernel) rfl), Or.inl (gm 580 (by decide +kernel) rfl), (by decide +kernel), (by decide +kernel), (by decide +kernel), (by decide +kernel)⟩
set_option maxRecDepth 20000 in
theorem mp32 : MrP r32 := ⟨gm 539 rfl rfl, (gm 75 (by decide +kernel) rfl), Or.inl (gm 538 (by decide +kernel) rfl), (by decide +kernel), (by decide +kernel), (by decide +kernel), (by decide +kernel)⟩
set_option maxRecDepth 20000 in
theorem mp33 : MrP r33 := ⟨gm 535 rfl rfl, (gm 75 (by decide +kernel) rfl), Or.inl (gm 534 (by decide +kernel) rfl), (by decide +kernel), (by decide +kernel), (by decide +kernel), (by decide +kernel)⟩
set_option maxRecDepth 20000 in
theorem mp34 : MrP r34 := ⟨gm 525 rfl rfl, (gm 75 (by decide +kernel) rfl), Or.inl (gm 523 (by decide +kernel) rfl), (by decide +kernel), (by decide +kernel), (by decide +kernel), (by decide +kernel)⟩
set_option maxRecDepth 20000 in
theorem mp35 : MrP r35 := ⟨gm 626 rfl rfl, (gm 75 (by decide +kernel) rfl), Or.inl (gm 624 (by decide +kernel) rfl), (by decide +kernel), (by decide +kernel), (by decide +kernel), (by decide +kernel)⟩
set_option maxRecDepth 20000 in
theorem mp36 : MrP r36 := ⟨gm 622 rfl rfl, (gm 75 (by decide +kernel) rfl), Or.inl (gm 620 (by decide +kernel) rfl), (by decide +kernel), (by decide +kernel), (by decide +kernel), (by decide +kernel)⟩
set_option maxRecDepth 20000 in
theorem mp37 : MrP r37 := ⟨gm 618 rfl rfl, (gm 75 (by decide +kernel) rfl), Or.inl (gm 616 (by decide +kernel) rfl), (by decide +kernel), (by decide +kernel), (by decide +kernel), (by decide +kernel)⟩
set_option maxRecDepth 20000 in
theorem mp38 : MrP r38 := ⟨gm 661 rfl rfl, (gm 85 (by decide +kernel) rfl), Or.inl (gm 660 (by decide +kernel) rfl), (by decide +kernel), (by decide +kernel), (by decide +kernel), (by decide +kernel)⟩
set_option maxRecDepth 20000 in
theorem mp39 : MrP r39 := ⟨gm 738 rfl rfl, (gm 85 (by decide +kernel) rfl), Or.inl (gm 729 (by decide +kernel) rfl), (by decide +kernel), (by decide +kernel), (by decide +kernel), (by decide +kernel)⟩
set_option maxRecDepth 20000 in
theorem mp40 : MrP r40 := ⟨gm 761 rfl rfl, (gm 85 (by decide +kernel) rfl), Or.inl (gm 751 (by decide +kernel) rfl), (by decide +kernel), (by decide +kernel), (by decide +kernel), (by decide +kernel)⟩
set_option maxRecDepth 20000 in
theorem mp41 : MrP r41 := ⟨gm 837 rfl rfl, (gm 85 (by decide +kernel) rfl), Or.inl (gm 832 (by decide +kernel) rfl), (by decide +kernel), (by decide +kernel), (by decide +kernel), (by decide +kernel)⟩
set_option maxRecDepth 20000 in
theorem mp42 : MrP r42 := ⟨gm 963 rfl rfl, (gm 85 (by decide +kernel) rfl), Or.inl (gm 940 (by decide +kernel) rfl), (by decide +kernel), (by decide +kernel), (by decide +kernel), (by decide +kernel)⟩
set_option maxRecDepth 20000 in
theorem mp43 : MrP r43 := ⟨gm 960 rfl rfl, (gm 85 (by decide +kernel) rfl), Or.inl (gm 959 (by decide +kernel) rfl), (by decide +kernel), (by decide +kernel), (by decide +kernel), (by decide +kernel)⟩
set_option maxRecDepth 20000 in
theorem mp44 : MrP r44 := ⟨gm 977 rfl rfl, (gm 85 (by decide +kernel) rfl), Or.inl (gm 970 (by decide +kernel) rfl), (by decide +kernel), (by decide +kernel), (by decide +kernel), (by decide +kernel)⟩
set_option maxRecDepth 20000 in
theorem mp45 : MrP r45 := ⟨gm 307 rfl rfl, (gm 80 (by decide +kernel) rfl), Or.inl (gm 306 (by decide +kernel) rfl), (by decide +kernel), (by decide +kernel), (by decide +kernel), (by decide +kernel)⟩
set_option maxRecDepth 20000 in
theorem mp46 : MrP r46 := ⟨gm 369 rfl rfl, (gm 80 (by decide +kernel) rfl), Or.inl (gm 367 (by decide +kernel) rfl), (by decide +kernel), (by decide +kernel), (by decide +kernel), (by decide +kernel)⟩
set_option maxRecDepth 20000 in
theorem mp47 : MrP r47 := ⟨gm 912 rfl rfl, (gm 80 (by decide +kernel) rfl), Or.inl (gm 910 (by decide +kernel) rfl), (by decide +kernel), (by decide +kernel), (by decide +kernel), (by decide +kernel)⟩
set_option maxRecDepth 20000 in
theorem mp48 : MrP r48 := ⟨gm 377 rfl rfl, (gm 80 (by decide +kernel) rfl), Or.inl (gm 375 (by decide +kernel) rfl), (by decide +kernel), (by decide +kernel), (by decide +kernel), (by decide +kernel)⟩
set_option maxRecDepth 20000 in
theorem mp49 : MrP r49 := ⟨gm 925 rfl rfl, (gm 80 (by decide +kernel) rfl), Or.inl (gm 923 (by decide +kernel) rfl), (by decide +kernel), (by decide +kernel), (by decide +kernel), (by decide +kernel)⟩
set_option maxRecDepth 20000 in
theorem mp50 : MrP r50 := ⟨gm 899 rfl rfl, (gm 80 (by decide +kernel) rfl), Or.inl (gm 897 (by decide +kernel) rfl), (by decide +kernel), (by decide +kernel), (by decide +kernel), (by decide +kernel)⟩
set_option maxRecDepth 20000 in
theorem mp51 : MrP r51 := ⟨gm 103 rfl rfl, (gm 74 (by decide +kernel) rfl), Or.inl (gm 102 (by decide +kernel) rfl), (by decide +kernel), (by decide +kernel), (by decide +kernel), (by decide +kernel)⟩
set_option maxRecDepth 20000 in
theorem mp52 : MrP r52 := ⟨gm 381 rfl rfl, (gm 74 (by decide +kernel) rfl), Or.inl (gm 379 (by decide +kernel) rfl), (by decide +kernel), (by decide +kernel), (by decide +kernel), (by decide +kernel)⟩
set_option maxRecDepth 20000 in
theorem mp53 : MrP r53 := ⟨gm 385 rfl rfl, (gm 74 (by decide +kernel) rfl), Or.inl (gm 384 (by decide +kernel) rfl), (by decide +kernel), (by decide +kernel), (by decide +kernel), (by decide +kernel)⟩
set_option maxRecDepth 20000 in
theorem mp54 : MrP r54 := ⟨gm 408 rfl rfl, (gm 74 (by decide +kernel) rfl), Or.inl (gm 407 (by decide +kernel) rfl), (by decide +kernel), (by decide +kernel), (by decide +kernel), (by decide +kernel)⟩
set_option maxRecDepth 20000 in
theorem mp55 : MrP r55 := ⟨gm 412 rfl rfl, (gm 74 (by decide +kernel) rfl), Or.inl (gm 411 (by decide +kernel) rfl), (by decide +kernel), (by decide +kernel), (by decide +kernel), (by decide +kernel)⟩
set_option maxRecDepth 20000 in
theorem mp56 : MrP r56 := ⟨gm 424 rfl rfl, (gm 74 (by decide +kernel) rfl), Or.inl (gm 423 (by decide +kernel) rfl), (by decide +kernel), (by decide +kernel), (by decide +kernel), (by decide +kernel)⟩
set_option maxRecDepth 20000 in
theorem mp57 : MrP r57 := ⟨gm 428 rfl rfl, (gm 74 (by decide +kernel) rfl), Or.inl (gm 427 (by decide +kernel) rfl), (by decide +kernel), (by decide +kernel), (by decide +kernel), (by decide +kernel)⟩
set_option maxRecDepth 20000 in
theorem mp58 : MrP r58 := ⟨gm 393 rfl rfl, (gm 74 (by decide +kernel) rfl), Or.inl (gm 392 (by decide +kernel) rfl), (by decide +kernel), (by decide +kernel), (by decide +kernel), (by decide +kernel)⟩
set_option maxRecDepth 20000 in
theorem mp59 : MrP r59 := ⟨gm 397 rfl rfl, (gm 74 (by decide +kernel) rfl), Or.inl (gm 396 (by decide +kernel) rfl), (by decide +kernel), (by decide +kernel), (by decide +kernel), (by decide +kernel)⟩
set_option maxRecDepth 20000 in
theorem mp60 : MrP r60 := ⟨gm 389 rfl rfl, (gm 74 (by decide +kernel) rfl), Or.inl (gm 388 (by decide +kernel) rfl), (by decide +kernel), (by decide +kernel), (by decide +kernel), (by decide +kernel)⟩
set_option maxRecDepth 20000 in
theorem mp61 : MrP r61 := ⟨gm 401 rfl rfl, (gm 74 (by decide +kernel) rfl), Or.inl (gm 400 (by decide +kernel) rfl), (by decide +kernel), (by decide +kernel), (by decide +kernel), (by decide +kernel)⟩
set_option maxRecDepth 20000 in
theorem mp62 : MrP r62 := ⟨gm 404 rfl rfl, (gm 74 (by decide +kernel) rfl), Or.inr (gm 403 (by decide +kernel) rfl), (by decide +kernel), (by decide +kernel), (by decide +kernel), (by decide +kernel)⟩
set_option maxRecDepth 20000 in
theorem mp63 : MrP r63 := ⟨gm 297 rfl rfl, (gm 79 (by decide +kernel) rfl), Or.inl (gm 296 (by decide +kernel) rfl), (by decide +kernel), (by decide +kernel), (by decide +kernel), (by decide +kernel)⟩
set_option maxRecDepth 20000 in
theorem mp64 : MrP r64 := ⟨gm 949 rfl rfl, (gm 79 (by decide +kernel) rfl), Or.inl (gm 947 (by decide +kernel) rfl), (by decide +kernel), (by decide +kernel), (by decide +kernel), (by decide +kernel)⟩
set_option maxRecDepth 20000 in
theorem mp65 : MrP r65 := ⟨gm 204 rfl rfl, (gm 77 (by decide +kernel) rfl), Or.inl (gm 203 (by decide +kernel) rfl), (by decide +kernel), (by decide +kernel), (by decide +kernel), (by decide +kernel)⟩
set_option maxRecDepth 20000 in
theorem mp66 : MrP r66 := ⟨gm 822 rfl rfl, (gm 77 (by decide +kernel) rfl), Or.inl (gm 820 (by decide +kernel) rfl), (by decide +kernel), (by decide +kernel), (by decide +kernel), (by decide +kernel)⟩
set_option maxRecDepth 20000 in
theorem mp67 : MrP r67 := ⟨gm 826 rfl rfl, (gm 77 (by decide +kernel) rfl), Or.inl (gm 825 (by decide +kernel) rfl), (by decide +kernel), (by decide +kernel), (by decide +kernel), (by decide +kernel)⟩
set_option maxRecDepth 20000 in
theorem mp68 : MrP r68 := ⟨gm 830 rfl rfl, (gm 77 (by decide +kernel) rfl), Or.inl (gm 829 (by decide +kernel) rfl), (by decide +kernel), (by decide +kernel), (by decide +kernel), (by decide +kernel)⟩
set_option maxRecDepth 20000 in
theorem mp69 : MrP r69 := ⟨gm 840 rfl rfl, (gm 77 (by decide +kernel) rfl), Or.inr (gm 839 (by decide +kernel) rfl), (by decide +kernel), (by decide +kernel), (by decide +kernel), (by decide +kernel)⟩
set_option maxRecDepth 20000 in
theorem mp70 : MrP r70 := ⟨gm 853 rfl rfl, (gm 77 (by decide +kernel) rfl), Or.inl (gm 852 (by decide +kernel) rfl), (by decide +kernel), (by decide +kernel), (by decide +kernel), (by decide +kernel)⟩
set_option maxRecDepth 20000 in
theorem mp71 : MrP r71 := ⟨gm 857 rfl rfl, (gm 77 (by decide +kernel) rfl), Or.inl (gm 856 (by decide +kernel) rfl), (by decide +kernel), (by decide +kernel), (by decide +kernel), (by decide +kernel)⟩
set_option maxRecDepth 20000 in
theorem mp72 : MrP r72 := ⟨gm 860 rfl rfl, (gm 77 (by decide +kernel) rfl), Or.inr (gm 859 (by decide +kernel) rfl), (by decide +kernel), (by decide +kernel), (by decide +kernel), (by decide +kernel)⟩
set_option maxRecDepth 20000 in
theorem mp73 : MrP r73 := ⟨gm 869 rfl rfl, (gm 77 (by decide +kernel) rfl), Or.inl (gm 868 (by decide +kernel) rfl), (by decide +kernel), (by decide +kernel), (by decide +kernel), (by decide +kernel)⟩
set_option maxRecDepth 20000 in
theorem mp74 : MrP r74 := ⟨gm 873 rfl rfl, (gm 77 (by decide +kernel) rfl), Or.inl (gm 872 (by decide +kernel) rfl), (by decide +kernel), (by decide +kernel), (by decide +kernel), (by decide +kernel)⟩
set_option maxRecDepth 20000 in
theorem mp75 : MrP r75 := ⟨gm 877 rfl rfl, (gm 77 (by decide +kernel) rfl), Or.inl (gm 876 (by decide +kernel) rfl), (by decide +kernel), (by decide +kernel), (by decide +kernel), (by decide +kernel)⟩
set_option maxRecDepth 20000 in
theorem mp76 : MrP r76 := ⟨gm 881 rfl rfl, (gm 77 (by decide +kernel) rfl), Or.inl (gm 880 (by decide +kernel) rfl), (by decide +kernel), (by decide +kernel), (by decide +kernel), (by decide +kernel)⟩
set_option maxRecDepth 20000 in
theorem mp77 : MrP r77 := ⟨gm 885 rfl rfl, (gm 77 (by decide +kernel) rfl), Or.inl (gm 884 (by decide +kernel) rfl), (by decide +kernel), (by decide +kernel), (by decide +kernel), (by decide +kernel)⟩
set_option maxRecDepth 20000 in
theorem mp78 : MrP r78 := ⟨gm 196 rfl rfl, (gm 76 (by decide +kernel) rfl), Or.inl (gm 195 (by decide +kernel) rfl), (by decide +kernel), (by decide +kernel), (by decide +kernel), (by decide +kernel)⟩
set_option maxRecDepth 20000 in
theorem mp79 : MrP r79 := ⟨gm 650 rfl rfl, (gm 76 (by decide +kernel) rfl), Or.inl (gm 648 (by decide +kernel) rfl), (by decide +kernel), (by decide +kernel), (by decide +kernel), (by decide +kernel)⟩
set_option maxRecDepth 20000 in
theorem mp80 : MrP r80 := ⟨gm 769 rfl rfl, (gm 76 (by decide +kernel) rfl), Or.inl (gm 767 (by decide +kernel) rfl), (by decide +kernel), (by decide +kernel), (by decide +kernel), (by decide +kernel)⟩
set_option maxRecDepth 20000 in
theorem mp81 : MrP r81 := ⟨gm 774 rfl rfl, (gm 76 (by decide +kernel) rfl), Or.inl (gm 773 (by decide +kernel) rfl), (by decide +kernel), (by decide +kernel), (by decide +kernel), (by decide +kernel)⟩
set_option maxRecDepth 20000 in
theorem mp82 : MrP r82 := ⟨gm 782 rfl rfl, (gm 76 (by decide +kernel) rfl), Or.inl (gm 780 (by decide +kernel) rfl), (by decide +kernel), (by decide +kernel), (by decide +kernel), (by decide +kernel)⟩
set_option maxRecDepth 20000 in
theorem mp83 : MrP r83 := ⟨gm 790 rfl rfl, (gm 76 (by decide +kernel) rfl), Or.inl (gm 788 (by decide +kernel) rfl), (by decide +kernel), (by decide +kernel), (by decide +kernel), (by decide +kernel)⟩
set_option maxRecDepth 20000 in
theorem mp84 : MrP r84 := ⟨gm 806 rfl rfl, (gm 76 (by decide +kernel) rfl), Or.inl (gm 804 (by decide +kernel) rfl), (by decide +kernel), (by decide +kernel), (by decide +kernel), (by decide +kernel)⟩
set_option maxRecDepth 20000 in
theorem mp85 : MrP r85 := ⟨gm 810 rfl rfl, (gm 76 (by decide +kernel) rfl), Or.inl (gm 809 (by decide +kernel) rfl), (by decide +kernel), (by decide +kernel), (by decide +kernel), (by decide +kernel)⟩
set_option maxRecDepth 20000 in
theorem mp86 : MrP r86 := ⟨gm 903 rfl rfl, (gm 76 (by decide +kernel) rfl), Or.inl (gm 901 (by decide +kernel) rfl), (by decide +kernel), (by decide +kernel), (by decide +kernel), (by decide +kernel)⟩
set_option maxRecDepth 20000 in
theorem mp87 : MrP r87 := ⟨gm 818 rfl rfl, (gm 76 (by decide +kernel) rfl), Or.inl (gm 816 (by decide +kernel) rfl), (by decide +kernel), (by decide +kernel), (by decide +kernel), (by decide +kernel)⟩
set_option maxRecDepth 20000 in
theorem mp88 : MrP r88 := ⟨gm 999 rfl rfl, (gm 76 (by decide +kernel) rfl), Or.inl (gm 997 (by decide +kernel) rfl), (by decide +kernel), (by decide +kernel), (by decide +kernel), (by decide +kernel)⟩
set_option maxRecDepth 20000 in
theorem mp89 : MrP r89 := ⟨gm 1003 rfl rfl, (gm 76 (by decide +kernel) rfl), Or.inl (gm 1001 (by decide +kernel) rfl), (by decide +kernel), (by decide +kernel), (by decide +kernel), (by decide +kernel)⟩
set_option maxRecDepth 20000 in
theorem mp90 : MrP r90 := ⟨gm 93 rfl rfl, (gm 73 (by decide +kernel) rfl), Or.inl (gm 92 (by decide +kernel) rfl), (by decide +kernel), (by decide +kernel), (by decide +kernel), (by decide +kernel)⟩
set_option maxRecDepth 20000 in
theorem mp91 : MrP r91 := ⟨gm 351 rfl rfl, (gm 73 (by decide +kernel) rfl), Or.inl (gm 349 (by decide +kernel) rfl), (by decide +kernel), (by decide +kernel), (by decide +kernel), (by decide +kernel)⟩
set_option maxRecDepth 20000 in
theorem mp92 : MrP r92 := ⟨gm 477 rfl rfl, (gm 73 (by decide +kernel) rfl), Or.inl (gm 475 (by decide +kernel) rfl), (by decide +kernel), (by decide +kernel), (by decide +kernel), (by decide +kernel)⟩
set_option maxRecDepth 20000 in
theorem mp93 : MrP r93 := ⟨gm 494 rfl rfl, (gm 73 (by decide +kernel) rfl), Or.inl (gm 492 (by decide +kernel) rfl), (by decide +kernel), (by decide +kernel), (by decide +kernel), (by decide +kernel)⟩
set_option maxRecDepth 20000 in
theorem mp94 : MrP r94 := ⟨gm 503 rfl rfl, (gm 73 (by decide +kernel) rfl), Or.inl (gm 501 (by decide +kernel) rfl), (by decide +kernel), (by decide +kernel), (by decide +kernel), (by decide +kernel)⟩
set_option maxRecDepth 20000 in
theorem mp95 : MrP r95 := ⟨gm 517 rfl rfl, (gm 73 (by decide +kernel) rfl), Or.inl (gm 515 (by decide +kernel) rfl), (by decide +kernel), (by decide +kernel), (by decide +kernel), (by decide +kernel)⟩
set_option maxRecDepth 20000 in
theorem mp96 : MrP r96 := ⟨gm 594 rfl rfl, (gm 73 (by decide +kernel) rfl), Or.inl (gm 592 (by decide +kernel) rfl), (by decide +kernel), (by decide +kernel), (by decide +kernel), (by decide +kernel)⟩
set_option maxRecDepth 20000 in
theorem mp97 : MrP r97 := ⟨gm 602 rfl rfl, (gm 73 (by decide +kernel) rfl), Or.inl (gm 600 (by decide +kernel) rfl), (by decide +kernel), (by decide +kernel), (by decide +kernel), (by decide +kernel)⟩
set_option maxRecDepth 20000 in
theorem mp98 : MrP r98 := ⟨gm 614 rfl rfl, (gm 73 (by decide +kernel) rfl), Or.inl (gm 612 (by decide +kernel) rfl), (by decide +kernel), (by decide +kernel), (by decide +kernel), (by decide +kernel)⟩
set_option maxRecDepth 20000 in
theorem mp99 : MrP r99 := ⟨gm 632 rfl rfl, (gm 73 (by decide +kernel) rfl), Or.inl (gm 630 (by decide +kernel) rfl), (by decide +kernel), (by decide +kernel), (by decide +kernel), (by decide +kernel)⟩
set_option maxRecDepth 20000 in
theorem mp100 : MrP r100 := ⟨gm 636 rfl rfl, (gm 73 (by decide +kernel) rfl), Or.inl (gm 634 (by decide +kernel) rfl), (by decide +kernel), (by decide +kernel), (by decide +kernel), (by decide +kernel)⟩
set_option maxRecDepth 20000 in
theorem mp101 : MrP r101 := ⟨gm 643 rfl rfl, (gm 73 (by decide +kernel) rfl), Or.inl (gm 641 (by decide +kernel) rfl), (by decide +kernel), (by decide +kernel), (by decide +kernel), (by decide +kernel)⟩
set_option maxRecDepth 20000 in
theorem mp102 : MrP r102 := ⟨gm 723 rfl rfl, (gm 73 (by decide +kernel) rfl), Or.inl (gm 721 (by decide +kernel) rfl), (by decide +kernel), (by decide +kernel), (by decide +kernel), (by decide +kernel)⟩
set_option maxRecDepth 20000 in
theorem mp103 : MrP r103 := ⟨gm 742 rfl rfl, (gm 73 (by decide +kernel) rfl), Or.inl (gm 740 (by decide +kernel) rfl), (by decide +kernel), (by decide +kernel), (by decide +kernel), (by decide +kernel)⟩
set_option maxRecDepth 20000 in
theorem mp104 : MrP r104 := ⟨gm 749 rfl rfl, (gm 73 (by decide +kernel) rfl), Or.inl (gm 747 (by decide +kernel) rfl), (by decide +kernel), (by decide +kernel), (by decide +kernel), (by decide +kernel)⟩
set_option maxRecDepth 20000 in
theorem mp105 : MrP r105 := ⟨gm 765 rfl rfl, (gm 73 (by decide +kernel) rfl), Or.inl (gm 763 (by decide +kernel) rfl), (by decide +kernel), (by decide +kernel), (by decide +kernel), (by decide +kernel)⟩
set_option maxRecDepth 20000 in
theorem mp106 : MrP r106 := ⟨gm 778 rfl rfl, (gm 73 (by decide +kernel) rfl), Or.inl (gm 776 (by decide +kernel) rfl), (by decide +kernel), (by decide +kernel), (by decide +kernel), (by decide +kernel)⟩
set_option maxRecDepth 20000 in
theorem mp107 : MrP r107 := ⟨gm 786 rfl rfl, (gm 73 (by decide +kernel) rfl), Or.inl (gm 784 (by decide +kernel) rfl), (by decide +kernel), (by decide +kernel), (by decide +kernel), (by decide +kernel)⟩
set_option maxRecDepth 20000 in
theorem mp108 : MrP r108 := ⟨gm 794 rfl rfl, (gm 73 (by decide +kernel) rfl), Or.inl (gm 792 (by decide +kernel) rfl), (by decide +kernel), (by decide +kernel), (by decide +kernel), (by decide +kernel)⟩
set_option maxRecDepth 20000 in
theorem mp109 : MrP r109 := ⟨gm 798 rfl rfl, (gm 73 (by decide +kernel) rfl), Or.inl (gm 796 (by decide +kernel) rfl), (by decide +kernel), (by decide +kernel), (by decide +kernel), (by decide +kernel)⟩
set_option maxRecDepth 20000 in
theorem mp110 : MrP r110 := ⟨gm 802 rfl rfl, (gm 73 (by decide +kernel) rfl), Or.inl (gm 800 (by decide +kernel) rfl), (by decide +kernel), (by decide +kernel), (by decide +kernel), (by decide +kernel)⟩
set_option maxRecDepth 20000 in
theorem mp111 : MrP r111 := ⟨gm 814 rfl rfl, (gm 73 (by decide +kernel) rfl), Or.inl (gm 812 (by decide +kernel) rfl), (by decide +kernel), (by decide +kernel), (by decide +kernel), (by decide +kernel)⟩
set_option maxRecDepth 20000 in
theorem mp112 : MrP r112 := ⟨gm 890 rfl rfl, (gm 73 (by decide +kernel) rfl), Or.inl (gm 888 (by decide +kernel) rfl), (by decide +kernel), (by decide +kernel), (by decide +kernel), (by decide +kernel)⟩
set_option maxRecDepth 20000 in
theorem mp113 : MrP r113 := ⟨gm 894 rfl rfl, (gm 73 (by decide +kernel) rfl), Or.inl (gm 892 (by decide +kernel) rfl), (by decide +kernel), (by decide +kernel), (by decide +kernel), (by decide +kernel)⟩
set_option maxRecDepth 20000 in
theorem mp114 : MrP r114 := ⟨gm 908 rfl rfl, (gm 73 (by decide +kernel) rfl), Or.inl (gm 906 (by decide +kernel) rfl), (by decide +kernel), (by decide +kernel), (by decide +kernel), (by decide +kernel)⟩
set_option maxRecDepth 20000 in
theorem mp115 : MrP r115 := ⟨gm 917 rfl rfl, (gm 73 (by decide +kernel) rfl), Or.inl (gm 915 (by decide +kernel) rfl), (by decide +kernel), (by decide +kernel), (by decide +kernel), (by decide +kernel)⟩
set_option maxRecDepth 20000 in
theorem mp116 : MrP r116 := ⟨gm 921 rfl rfl, (gm 73 (by decide +kernel) rfl), Or.inl (gm 919 (by decide +kernel) rfl), (by decide +kernel), (by decide +kernel), (by decide +kernel), (by decide +kernel)⟩
set_option maxRecDepth 20000 in
theorem mp117 : MrP r117 := ⟨gm 929 rfl rfl, (gm 73 (by decide +kernel) rfl), Or.inl (gm 927 (by decide +kernel) rfl), (by decide +kernel), (by decide +kernel), (by decide +kernel), (by decide +kernel)⟩
set_option maxRecDepth 20000 in
theorem mp118 : MrP r118 := ⟨gm 933 rfl rfl, (gm 73 (by decide +kernel) rfl), Or.inl (gm 931 (by decide +kernel) rfl), (by decide +kernel), (by decide +kernel), (by decide +kernel), (by decide +kernel)⟩
set_option maxRecDepth 20000 in
theorem mp119 : MrP r119 := ⟨gm 938 rfl rfl, (gm 73 (by decide +kernel) rfl), Or.inl (gm 936 (by decide +kernel) rfl), (by decide +kernel), (by decide +kernel), (by decide +kernel), (by decide +kernel)⟩
set_option maxRecDepth 20000 in
theorem mp120 : MrP r120 := ⟨gm 968 rfl rfl, (gm 73 (by decide +kernel) rfl), Or.inl (gm 966 (by decide +kernel) rfl), (by decide +kernel), (by decide +kernel), (by decide +kernel), (by decide +kernel)⟩
set_option maxRecDepth 20000 in
theorem mp121 : MrP r121 := ⟨gm 981 rfl rfl, (gm 73 (by decide +kernel) rfl), Or.inl (gm 979 (by decide +kernel) rfl), (by decide +kernel), (by decide +kernel), (by decide +kernel), (by decide +kernel)⟩
set_option maxRecDepth 20000 in
theorem mp122 : MrP r122 := ⟨gm 987 rfl rfl, (gm 73 (by decide +kernel) rfl), Or.inl (gm 985 (by decide +kernel) rfl), (by decide +kernel), (by decide +kernel), (by decide +kernel), (by decide +kernel)⟩
set_option maxRecDepth 20000 in
theorem mp123 : MrP r123 := ⟨gm 991 rfl rfl, (gm 73 (by decide +kernel) rfl), Or.inl (gm 989 (by decide +kernel) rfl), (by decide +kernel), (by decide +kernel), (by decide +kernel), (by decide +kernel)⟩
set_option maxRecDepth 20000 in
theorem mp124 : MrP r124 := ⟨gm 995 rfl rfl, (gm 73 (by decide +kernel) rfl), Or.inl (gm 993 (by decide +kernel) rfl), (by decide +kernel), (by decide +kernel), (by decide +kernel), (by decide +kernel)⟩
set_option maxRecDepth 20000 in
theorem mp125 : MrP r125 := ⟨gm 481 rfl rfl, (gm 73 (by decide +kernel) rfl), Or.inl (gm 480 (by decide +kernel) rfl), (by decide +kernel), (by decide +kernel), (by decide +kernel), (by decide +kernel)⟩
set_option maxRecDepth 20000 in
theorem mp126 : MrP r126 := ⟨gm 498 rfl rfl, (gm 73 (by decide +kernel) rfl), Or.inl (gm 497 (by decide +kernel) rfl), (by decide +kernel), (by decide +kernel), (by decide +kernel), (by decide +kernel)⟩
set_option maxRecDepth 20000 in
theorem mp127 : MrP r127 := ⟨gm 727 rfl rfl, (gm 73 (by decide +kernel) rfl), Or.inl (gm 726 (by decide +kernel) rfl), (by decide +kernel), (by decide +kernel), (by decide +kernel), (by decide +kernel)⟩
set_option maxRecDepth 20000 in
theorem mp128 : MrP r128 := ⟨gm 520 rfl rfl, (gm 73 (by decide +kernel) rfl), Or.inr (gm 519 (by decide +kernel) rfl), (by decide +kernel), (by decide +kernel), (by decide +kernel), (by decide +kernel)⟩
set_option maxRecDepth 20000 in
theorem mp129 : MrP r129 := ⟨gm 745 rfl rfl, (gm 73 (by decide +kernel) rfl), Or.inr (gm 744 (by decide +kernel) rfl), (by decide +kernel), (by decide +kernel), (by decide +kernel), (by decide +kernel)⟩
set_option maxRecDepth 20000 in
theorem mp130 : MrP r130 := ⟨gm 646 rfl rfl, (gm 73 (by decide +kernel) rfl), Or.inr (gm 645 (by decide +kernel) rfl), (by decide +kernel), (by decide +kernel), (by decide +kernel), (by decide +kernel)⟩
set_option maxRecDepth 20000 in
theorem mp131 : MrP r131 := ⟨gm 358 rfl rfl, (gm 73 (by decide +kernel) rfl), Or.inr (gm 357 (by decide +kernel) rfl), (by decide +kernel), (by decide +kernel), (by decide +kernel), (by decide +kernel)⟩
set_option maxRecDepth 20000 in
theorem mp132 : MrP r132 := ⟨gm 361 rfl rfl, (gm 73 (by decide +kernel) rfl), Or.inr (gm 360 (by decide +kernel) rfl), (by decide +kernel), (by decide +kernel), (by decide +kernel), (by decide +kernel)⟩
set_option maxRecDepth 20000 in
theorem mp133 : MrP r133 := ⟨gm 373 rfl rfl, (gm 73 (by decide +kernel) rfl), Or.inl (gm 372 (by decide +kernel) rfl), (by decide +kernel), (by decide +kernel), (by decide +kernel), (by decide +kernel)⟩
set_option maxRecDepth 20000 in
theorem mp134 : MrP r134 := ⟨gm 365 rfl rfl, (gm 73 (by decide +kernel) rfl), Or.inl (gm 364 (by decide +kernel) rfl), (by decide +kernel), (by decide +kernel), (by decide +kernel), (by decide +kernel)⟩
set_option maxRecDepth 20000 in
theorem mp135 : MrP r135 := ⟨gm 355 rfl rfl, (gm 73 (by decide +kernel) rfl), Or.inl (gm 354 (by decide +kernel) rfl), (by decide +kernel), (by decide +kernel), (by decide +kernel), (by decide +kernel)⟩
set_option maxRecDepth 20000 in
theorem mp136 : MrP r136 := ⟨gm 606 rfl rfl, (gm 73 (by decide +kernel) rfl), Or.inl (gm 605 (by decide +kernel) rfl), (by decide +kernel), (by decide +kernel), (by decide +kernel), (by decide +kernel)⟩
set_option maxRecDepth 20000 in
theorem mp137 : MrP r137 := ⟨gm 639 rfl rfl, (gm 73 (by decide +kernel) rfl), Or.inr (gm 638 (by decide +kernel) rfl), (by decide +kernel), (by decide +kernel), (by decide +kernel), (by decide +kernel)⟩
set_option maxRecDepth 20000 in
theorem mp138 : MrP r138 := ⟨gm 1008 rfl rfl, (gm 81 (by decide +kernel) rfl), Or.inl (gm 1007 (by decide +kernel) rfl), (by decide +kernel), (by decide +kernel), (by decide +kernel), (by decide +kernel)⟩
set_option maxRecDepth 20000 in
theorem mp139 : MrP r139 := ⟨gm 1140 rfl rfl, (gm 81 (by decide +kernel) rfl), Or.inr (gm 1139 (by decide +kernel) rfl), (by decide +kernel), (by decide +kernel), (by decide +kernel), (by decide +kernel)⟩
set_option maxRecDepth 20000 in
theorem mp140 : MrP r140 := ⟨gm 1234 rfl rfl, (gm 81 (by decide +kernel) rfl), Or.inr (gm 1233 (by decide +kernel) rfl), (by decide +kernel), (by decide +kernel), (by decide +kernel), (by decide +kernel)⟩
set_option maxRecDepth 20000 in
theorem mp141 : MrP r141 := ⟨gm 1385 rfl rfl, (gm 81 (by decide +kernel) rfl), Or.inr (gm 1384 (by decide +kernel) rfl), (by decide +kernel), (by decide +kernel), (by decide +kernel), (by decide +kernel)⟩
set_option maxRecDepth 20000 in
theorem mp142 : MrP r142 := ⟨gm 1209 rfl rfl, (gm 81 (by decide +kernel) rfl), Or.inr (gm 1208 (by decide +kernel) rfl), (by decide +kernel), (by decide +kernel), (by decide +kernel), (by decide +kernel)⟩
set_option maxRecDepth 20000 in
theorem mp143 : MrP r143 := ⟨gm 1144 rfl rfl, (gm 81 (by decide +kernel) rfl), Or.inl (gm 1143 (by decide +kernel) rfl), (by decide +kernel), (by decide +kernel), (by decide +kernel), (by decide +kernel)⟩
set_option maxRecDepth 20000 in
theorem mp144 : MrP r144 := ⟨gm 1149 rfl rfl, (gm 81 (by decide +kernel) rfl), Or.inl (gm 1148 (by decide +kernel) rfl), (by decide +kernel), (by decide +kernel), (by decide +kernel), (by decide +kernel)⟩
set_option maxRecDepth 20000 in
theorem mp145 : MrP r145 := ⟨gm 1423 rfl rfl, (gm 81 (by decide +kernel) rfl), Or.inl (gm 1422 (by decide +kernel) rfl), (by decide +kernel), (by decide +kernel), (by decide +kernel), (by decide +kernel)⟩
set_option maxRecDepth 20000 in
theorem mp146 : MrP r146 := ⟨gm 1133 rfl rfl, (gm 81 (by decide +kernel) rfl), Or.inl (gm 1132 (by decide +kernel) rfl), (by decide +kernel), (by decide +kernel), (by decide +kernel), (by decide +kernel)⟩
set_option maxRecDepth 20000 in
theorem mp147 : MrP r147 := ⟨gm 1194 rfl rfl, (gm 81 (by decide +kernel) rfl), Or.inl (gm 1193 (by decide +kernel) rfl), (by decide +kernel), (by decide +kernel), (by decide +kernel), (by decide +kernel)⟩
set_option maxRecDepth 20000 in
theorem mp148 : MrP r148 := ⟨gm 1218 rfl rfl, (gm 81 (by decide +kernel) rfl), Or.inl (gm 1217 (by decide +kernel) rfl), (by decide +kernel), (by decide +kernel), (by decide +kernel), (by decide +kernel)⟩
set_option maxRecDepth 20000 in
theorem mp149 : MrP r149 := ⟨gm 1202 rfl rfl, (gm 81 (by decide +kernel) rfl), Or.inl (gm 1201 (by decide +kernel) rfl), (by decide +kernel), (by decide +kernel), (by decide +kernel), (by decide +kernel)⟩
set_option maxRecDepth 20000 in
theorem mp150 : MrP r150 := ⟨gm 1160 rfl rfl, (gm 81 (by decide +kernel) rfl), Or.inl (gm 1159 (by decide +kernel) rfl), (by decide +kernel), (by decide +kernel), (by decide +kernel), (by decide +kernel)⟩
set_option maxRecDepth 20000 in
theorem mp151 : MrP r151 := ⟨gm 1164 rfl rfl, (gm 81 (by decide +kernel) rfl), Or.inl (gm 1163 (by decide +kernel) rfl), (by decide +kernel), (by decide +kernel), (by decide +kernel), (by decide +kernel)⟩
set_option maxRecDepth 20000 in
theorem mp152 : MrP r152 := ⟨gm 1174 rfl rfl, (gm 81 (by decide +kernel) rfl), Or.inl (gm 1173 (by decide +kernel) rfl), (by decide +kernel), (by decide +kernel), (by decide +kernel), (by decide +kernel)⟩
set_option maxRecDepth 20000 in
theorem mp153 : MrP r153 := ⟨gm 1170 rfl rfl, (gm 81 (by decide +kernel) rfl), Or.inl (gm 1169 (by decide +kernel) rfl), (by decide +kernel), (by decide +kernel), (by decide +kernel), (by decide +kernel)⟩
set_option maxRecDepth 20000 in
theorem mp154 : MrP r154 := ⟨gm 1182 rfl rfl, (gm 81 (by decide +kernel) rfl), Or.inl (gm 1181 (by decide +kernel) rfl), (by decide +kernel), (by decide +kernel), (by decide +kernel), (by decide +kernel)⟩
set_option maxRecDepth 20000 in
theorem mp155 : MrP r155 := ⟨gm 1186 rfl rfl, (gm 81 (by decide +kernel) rfl), Or.inl (gm 1185 (by decide +kernel) rfl), (by decide +kernel), (by decide +kernel), (by decide +kernel), (by decide +kernel)⟩
set_option maxRecDepth 20000 in
theorem mp156 : MrP r156 := ⟨gm 1178 rfl rfl, (gm 81 (by decide +kernel) rfl), Or.inl (gm 1177 (by decide +kernel) rfl), (by decide +kernel), (by decide +kernel), (by decide +kernel), (by decide +kernel)⟩
set_option maxRecDepth 20000 in
theorem mp157 : MrP r157 := ⟨gm 1156 rfl rfl, (gm 81 (by decide +kernel) rfl), Or.inl (gm 1155 (by decide +kernel) rfl), (by decide +kernel), (by decide +kernel), (by decide +kernel), (by decide +kernel)⟩
set_option maxRecDepth 20000 in
theorem mp158 : MrP r158 := ⟨gm 1129 rfl rfl, (gm 81 (by decide +kernel) rfl), Or.inl (gm 1127 (by decide +kernel) rfl), (by decide +kernel), (by decide +kernel), (by decide +kernel), (by decide +kernel)⟩
set_option maxRecDepth 20000 in
theorem mp159 : MrP r159 := ⟨gm 1206 rfl rfl, (gm 81 (by decide +kernel) rfl), Or.inl (gm 1205 (by decide +kernel) rfl), (by decide +kernel), (by decide +kernel), (by decide +kernel), (by decide +kernel)⟩
set_option maxRecDepth 20000 in
theorem mp160 : MrP r160 := ⟨gm 1198 rfl rfl, (gm 81 (by decide +kernel) rfl), Or.inl (gm 1197 (by decide +kernel) rfl), (by decide +kernel), (by decide +kernel), (by decide +kernel), (by decide +kernel)⟩
set_option maxRecDepth 20000 in
theorem mp161 : MrP r161 := ⟨gm 1190 rfl rfl, (gm 81 (by decide +kernel) rfl), Or.inl (gm 1188 (by decide +kernel) rfl), (by decide +kernel), (by decide +kernel), (by decide +kernel), (by decide +kernel)⟩
set_option maxRecDepth 20000 in
theorem mp162 : MrP r162 := ⟨gm 1214 rfl rfl, (gm 81 (by decide +kernel) rfl), Or.inl (gm 1212 (by decide +kernel) rfl), (by decide +kernel), (by decide +kernel), (by decide +kernel), (by decide +kernel)⟩
set_option maxRecDepth 20000 in
theorem mp163 : MrP r163 := ⟨gm 1223 rfl rfl, (gm 81 (by decide +kernel) rfl), Or.inl (gm 1221 (by decide +kernel) rfl), (by decide +kernel), (by decide +kernel), (by decide +kernel), (by decide +kernel)⟩
set_option maxRecDepth 20000 in
theorem mp164 : MrP r164 := ⟨gm 1249 rfl rfl, (gm 81 (by decide +kernel) rfl), Or.inr (gm 1248 (by decide +kernel) rfl), (by decide +kernel), (by decide +kernel), (by decide +kernel), (by decide +kernel)⟩
set_option maxRecDepth 20000 in
theorem mp165 : MrP r165 := ⟨gm 1246 rfl rfl, (gm 81 (by decide +kernel) rfl), Or.inr (gm 1245 (by decide +kernel) rfl), (by decide +kernel), (by decide +kernel), (by decide +kernel), (by decide +kernel)⟩
set_option maxRecDepth 20000 in
theorem mp166 : MrP r166 := ⟨gm 1252 rfl rfl, (gm 81 (by decide +kernel) rfl), Or.inr (gm 1251 (by decide +kernel) rfl), (by decide +kernel), (by decide +kernel), (by decide +kernel), (by decide +kernel)⟩
set_option maxRecDepth 20000 in
theorem mp167 : MrP r167 := ⟨gm 1260 rfl rfl, (gm 81 (by decide +kernel) rfl), Or.inr (gm 1259 (by decide +kernel) rfl), (by decide +kernel), (by decide +kernel), (by decide +kernel), (by decide +kernel)⟩
set_option maxRecDepth 20000 in
theorem mp168 : MrP r168 := ⟨gm 1269 rfl rfl, (gm 81 (by decide +kernel) rfl), Or.inl (gm 1268 (by decide +kernel) rfl), (by decide +kernel), (by decide +kernel), (by decide +kernel), (by decide +kernel)⟩
set_option maxRecDepth 20000 in
theorem mp169 : MrP r169 := ⟨gm 1265 rfl rfl, (gm 81 (by decide +kernel) rfl), Or.inl (gm 1264 (by decide +kernel) rfl), (by decide +kernel), (by decide +kernel), (by decide +kernel), (by decide +kernel)⟩
set_option maxRecDepth 20000 in
theorem mp170 : MrP r170 := ⟨gm 1274 rfl rfl, (gm 81 (by decide +kernel) rfl), Or.inl (gm 1273 (by decide +kernel) rfl), (by decide +kernel), (by decide +kernel), (by decide +kernel), (by decide +kernel)⟩
set_option maxRecDepth 20000 in
theorem mp171 : MrP r171 := ⟨gm 1257 rfl rfl, (gm 81 (by decide +kernel) rfl), Or.inl (gm 1256 (by decide +kernel) rfl), (by decide +kernel), (by decide +kernel), (by decide +kernel), (by decide +kernel)⟩
set_option maxRecDepth 20000 in
theorem mp172 : MrP r172 := ⟨gm 1243 rfl rfl, (gm 81 (by decide +kernel) rfl), Or.inl (gm 1242 (by decide +kernel) rfl), (by decide +kernel), (by decide +kernel), (by decide +kernel), (by decide +kernel)⟩
set_option maxRecDepth 20000 in
theorem mp173 : MrP r173 := ⟨gm 1239 rfl rfl, (gm 81 (by decide +kernel) rfl), Or.inl (gm 1238 (by decide +kernel) rfl), (by decide +kernel), (by decide +kernel), (by decide +kernel), (by decide +kernel)⟩
set_option maxRecDepth 20000 in
theorem mp174 : MrP r174 := ⟨gm 1230 rfl rfl, (gm 81 (by decide +kernel) rfl), Or.inr (gm 1229 (by decide +kernel) rfl), (by decide +kernel), (by decide +kernel), (by decide +kernel), (by decide +kernel)⟩
set_option maxRecDepth 20000 in
theorem mp175 : MrP r175 := ⟨gm 1227 rfl rfl, (gm 81 (by decide +kernel) rfl), Or.inl (gm 1225 (by decide +kernel) rfl), (by decide +kernel), (by decide +kernel), (by decide +kernel), (by decide +kernel)⟩
set_option maxRecDepth 20000 in
theorem mp176 : MrP r176 := ⟨gm 1278 rfl rfl, (gm 81 (by decide +kernel) rfl), Or.inl (gm 1276 (by decide +kernel) rfl), (by decide +kernel), (by decide +kernel), (by decide +kernel), (by decide +kernel)⟩
set_option maxRecDepth 20000 in
theorem mp177 : MrP r177 := ⟨gm 1286 rfl rfl, (gm 81 (by decide +kernel) rfl), Or.inl (gm 1285 (by decide +kernel) rfl), (by decide +kernel), (by decide +kernel), (by decide +kernel), (by decide +kernel)⟩
set_option maxRecDepth 20000 in
theorem mp178 : MrP r178 := ⟨gm 1282 rfl rfl, (gm 81 (by decide +kernel) rfl), Or.inl (gm 1280 (by decide +kernel) rfl), (by decide +kernel), (by decide +kernel), (by decide +kernel), (by decide +kernel)⟩
set_option maxRecDepth 20000 in
theorem mp179 : MrP r179 := ⟨gm 1290 rfl rfl, (gm 81 (by decide +kernel) rfl), Or.inl (gm 1288 (by decide +kernel) rfl), (by decide +kernel), (by decide +kernel), (by decide +kernel), (by decide +kernel)⟩
set_option maxRecDepth 20000 in
theorem mp180 : MrP r180 := ⟨gm 1295 rfl rfl, (gm 81 (by decide +kernel) rfl), Or.inl (gm 1293 (by decide +kernel) rfl), (by decide +kernel), (by decide +kernel), (by decide +kernel), (by decide +kernel)⟩
set_option maxRecDepth 20000 in
theorem mp181 : MrP r181 := ⟨gm 1303 rfl rfl, (gm 81 (by decide +kernel) rfl), Or.inl (gm 1302 (by decide +kernel) rfl), (by decide +kernel), (by decide +kernel), (by decide +kernel), (by decide +kernel)⟩
set_option maxRecDepth 20000 in
theorem mp182 : MrP r182 := ⟨gm 1299 rfl rfl, (gm 81 (by decide +kernel) rfl), Or.inl (gm 1297 (by decide +kernel) rfl), (by decide +kernel), (by decide +kernel), (by decide +kernel), (by decide +kernel)⟩
set_option maxRecDepth 20000 in
theorem mp183 : MrP r183 := ⟨gm 1319 rfl rfl, (gm 81 (by decide +kernel) rfl), Or.inl (gm 1318 (by decide +kernel) rfl), (by decide +kernel), (by decide +kernel), (by decide +kernel), (by decide +kernel)⟩
set_option maxRecDepth 20000 in
theorem mp184 : MrP r184 := ⟨gm 1310 rfl rfl, (gm 81 (by decide +kernel) rfl), Or.inr (gm 1309 (by decide +kernel) rfl), (by decide +kernel), (by decide +kernel), (by decide +kernel), (by decide +kernel)⟩
set_option maxRecDepth 20000 in
theorem mp185 : MrP r185 := ⟨gm 1307 rfl rfl, (gm 81 (by decide +kernel) rfl), Or.inl (gm 1305 (by decide +kernel) rfl), (by decide +kernel), (by decide +kernel), (by decide +kernel), (by decide +kernel)⟩
set_option maxRecDepth 20000 in
theorem mp186 : MrP r186 := ⟨gm 1315 rfl rfl, (gm 81 (by decide +kernel) rfl), Or.inl (gm 1313 (by decide +kernel) rfl), (by decide +kernel), (by decide +kernel), (by decide +kernel), (by decide +kernel)⟩
set_option maxRecDepth 20000 in
theorem mp187 : MrP r187 := ⟨gm 1326 rfl rfl, (gm 81 (by decide +kernel) rfl), Or.inr (gm 1325 (by decide +kernel) rfl), (by decide +kernel), (by decide +kernel), (by decide +kernel), (by decide +kernel)⟩
set_option maxRecDepth 20000 in
theorem mp188 : MrP r188 := ⟨gm 1323 rfl rfl, (gm 81 (by decide +kernel) rfl), Or.inl (gm 1321 (by decide +kernel) rfl), (by decide +kernel), (by decide +kernel), (by decide +kernel), (by decide +kernel)⟩
set_option maxRecDepth 20000 in
theorem mp189 : MrP r189 := ⟨gm 1334 rfl rfl, (gm 81 (by decide +kernel) rfl), Or.inl (gm 1333 (by decide +kernel) rfl), (by decide +kernel), (by decide +kernel), (by decide +kernel), (by decide +kernel)⟩
set_option maxRecDepth 20000 in
theorem mp190 : MrP r190 := ⟨gm 1330 rfl rfl, (gm 81 (by decide +kernel) rfl), Or.inl (gm 1328 (by decide +kernel) rfl), (by decide +kernel), (by decide +kernel), (by decide +kernel), (by decide +kernel)⟩
set_option maxRecDepth 20000 in
theorem mp191 : MrP r191 := ⟨gm 1338 rfl rfl, (gm 81 (by decide +kernel) rfl), Or.inl (gm 1336 (by decide +kernel) rfl), (by decide +kernel), (by decide +kernel), (by decide +kernel), (by decide +kernel)⟩
set_option maxRecDepth 20000 in
theorem mp192 : MrP r192 := ⟨gm 1343 rfl rfl, (gm 81 (by decide +kernel) rfl), Or.inl (gm 1341 (by decide +kernel) rfl), (by decide +kernel), (by decide +kernel), (by decide +kernel), (by decide +kernel)⟩
set_option maxRecDepth 20000 in
theorem mp193 : MrP r193 := ⟨gm 1347 rfl rfl, (gm 81 (by decide +kernel) rfl), Or.inl (gm 1345 (by decide +kernel) rfl), (by decide +kernel), (by decide +kernel), (by decide +kernel), (by decide +kernel)⟩
set_option maxRecDepth 20000 in
theorem mp194 : MrP r194 := ⟨gm 1351 rfl rfl, (gm 81 (by decide +kernel) rfl), Or.inl (gm 1349 (by decide +kernel) rfl), (by decide +kernel), (by decide +kernel), (by decide +kernel), (by decide +kernel)⟩
set_option maxRecDepth 20000 in
theorem mp195 : MrP r195 := ⟨gm 1355 rfl rfl, (gm 81 (by decide +kernel) rfl), Or.inl (gm 1353 (by decide +kernel) rfl), (by decide +kernel), (by decide +kernel), (by decide +kernel), (by decide +kernel)⟩
set_option maxRecDepth 20000 in
theorem mp196 : MrP r196 := ⟨gm 1363 rfl rfl, (gm 81 (by decide +kernel) rfl), Or.inl (gm 1362 (by decide +kernel) rfl), (by decide +kernel), (by decide +kernel), (by decide +kernel), (by decide +kernel)⟩
set_option maxRecDepth 20000 in
theorem mp197 : MrP r197 := ⟨gm 1359 rfl rfl, (gm 81 (by decide +kernel) rfl), Or.inl (gm 1357 (by decide +kernel) rfl), (by decide +kernel), (by decide +kernel), (by decide +kernel), (by decide +kernel)⟩
set_option maxRecDepth 20000 in
theorem mp198 : MrP r198 := ⟨gm 1382 rfl rfl, (gm 81 (by decide +kernel) rfl), Or.inl (gm 1381 (by decide +kernel) rfl), (by decide +kernel), (by decide +kernel), (by decide +kernel), (by decide +kernel)⟩
set_option maxRecDepth 20000 in
theorem mp199 : MrP r199 := ⟨gm 1390 rfl rfl, (gm 81 (by decide +kernel) rfl), Or.inl (gm 1389 (by decide +kernel) rfl), (by decide +kernel), (by decide +kernel), (by decide +kernel), (by decide +kernel)⟩
set_option maxRecDepth 20000 in
theorem mp200 : MrP r200 := ⟨gm 1378 rfl rfl, (gm 81 (by decide +kernel) rfl), Or.inl (gm 1377 (by decide +kernel) rfl), (by decide +kernel), (by decide +kernel), (by decide +kernel), (by decide +kernel)⟩
set_option maxRecDepth 20000 in
theorem mp201 : MrP r201 := ⟨gm 1374 rfl rfl, (gm 81 (by decide +kernel) rfl), Or.inr (gm 1373 (by decide +kernel) rfl), (by decide +kernel), (by decide +kernel), (by decide +kernel), (by decide +kernel)⟩
set_option maxRecDepth 20000 in
theorem mp202 : MrP r202 := ⟨gm 1371 rfl rfl, (gm 81 (by decide +kernel) rfl), Or.inl (gm 1370 (by decide +kernel) rfl), (by decide +kernel), (by decide +kernel), (by decide +kernel), (by decide +kernel)⟩
set_option maxRecDepth 20000 in
theorem mp203 : MrP r203 := ⟨gm 1367 rfl rfl, (gm 81 (by decide +kernel) rfl), Or.inl (gm 1365 (by decide +kernel) rfl), (by decide +kernel), (by decide +kernel), (by decide +kernel), (by decide +kernel)⟩
set_option maxRecDepth 20000 in
theorem mp204 : MrP r204 := ⟨gm 1394 rfl rfl, (gm 81 (by decide +kernel) rfl), Or.inl (gm 1392 (by decide +kernel) rfl), (by decide +kernel), (by decide +kernel), (by decide +kernel), (by decide +kernel)⟩
set_option maxRecDepth 20000 in
theorem mp205 : MrP r205 := ⟨gm 1398 rfl rfl, (gm 81 (by decide +kernel) rfl), Or.inl (gm 1396 (by decide +kernel) rfl), (by decide +kernel), (by decide +kernel), (by decide +kernel), (by decide +kernel)⟩
set_option maxRecDepth 20000 in
theorem mp206 : MrP r206 := ⟨gm 1136 rfl rfl, (gm 81 (by decide +kernel) rfl), Or.inr (gm 1135 (by decide +kernel) rfl), (by decide +kernel), (by decide +kernel), (by decide +kernel), (by decide +kernel)⟩
set_option maxRecDepth 20000 in
theorem mp207 : MrP r207 := ⟨gm 1403 rfl rfl, (gm 81 (by decide +kernel) rfl), Or.inl (gm 1401 (by decide +kernel) rfl), (by decide +kernel), (by decide +kernel), (by decide +kernel), (by decide +kernel)⟩
set_option maxRecDepth 20000 in
theorem mp208 : MrP r208 := ⟨gm 1407 rfl rfl, (gm 81 (by decide +kernel) rfl), Or.inl (gm 1405 (by decide +kernel) rfl), (by decide +kernel), (by decide +kernel), (by decide +kernel), (by decide +kernel)⟩
set_option maxRecDepth 20000 in
theorem mp209 : MrP r209 := ⟨gm 1415 rfl rfl, (gm 81 (by decide +kernel) rfl), Or.inl (gm 1414 (by decide +kernel) rfl), (by decide +kernel), (by decide +kernel), (by decide +kernel), (by decide +kernel)⟩
set_option maxRecDepth 20000 in
theorem mp210 : MrP r210 := ⟨gm 1411 rfl rfl, (gm 81 (by decide +kernel) rfl), Or.inl (gm 1409 (by decide +kernel) rfl), (by decide +kernel), (by decide +kernel), (by decide +kernel), (by decide +kernel)⟩
set_option maxRecDepth 20000 in
theorem mp211 : MrP r211 := ⟨gm 1419 rfl rfl, (gm 81 (by decide +kernel) rfl), Or.inl (gm 1417 (by decide +kernel) rfl), (by decide +kernel), (by decide +kernel), (by decide +kernel), (by decide +kernel)⟩
set_option maxRecDepth 20000 in
theorem mp212 : MrP r212 := ⟨gm 1152 rfl rfl, (gm 81 (by decide +kernel) rfl), Or.inr (gm 1151 (by decide +kernel) rfl), (by decide +kernel), (by decide +kernel), (by decide +kernel), (by decide +kernel)⟩
set_option maxRecDepth 20000 in
theorem mp213 : MrP r213 := ⟨gm 1427 rfl rfl, (gm 81 (by decide +kernel) rfl), Or.inl (gm 1425 (by decide +kernel) rfl), (by decide +kernel), (by decide +kernel), (by decide +kernel), (by decide +kernel)⟩
set_option maxRecDepth 20000 in
theorem mp214 : MrP r214 := ⟨gm 1435 rfl rfl, (gm 81 (by decide +kernel) rfl), Or.inl (gm 1434 (by decide +kernel) rfl), (by decide +kernel), (by decide +kernel), (by decide +kernel), (by decide +kernel)⟩
set_option maxRecDepth 20000 in
theorem mp215 : MrP r215 := ⟨gm 1431 rfl rfl, (gm 81 (by decide +kernel) rfl), Or.inl (gm 1429 (by decide +kernel) rfl), (by decide +kernel), (by decide +kernel), (by decide +kernel), (by decide +kernel)⟩
set_option maxRecDepth 20000 in
theorem mp216 : MrP r216 := ⟨gm 1439 rfl rfl, (gm 81 (by decide +kernel) rfl), Or.inl (gm 1437 (by decide +kernel) rfl), (by decide +kernel), (by decide +kernel), (by decide +kernel), (by decide +kernel)⟩
set_option maxRecDepth 20000 in
theorem mp217 : MrP r217 := ⟨gm 1443 rfl rfl, (gm 81 (by decide +kernel) rfl), Or.inl (gm 1441 (by decide +kernel) rfl), (by decide +kernel), (by decide +kernel), (by decide +kernel), (by decide +kernel)⟩
set_option maxRecDepth 20000 in
theorem mp218 : MrP r218 := ⟨gm 1447 rfl rfl, (gm 81 (by decide +kernel) rfl), Or.inl (gm 1445 (by decide +kernel) rfl), (by decide +kernel), (by decide +kernel), (by decide +kernel), (by decide +kernel)⟩
set_option maxRecDepth 20000 in
theorem mp219 : MrP r219 := ⟨gm 1451 rfl rfl, (gm 81 (by decide +kernel) rfl), Or.inl (gm 1449 (by decide +kernel) rfl), (by decide +kernel), (by decide +kernel), (by decide +kernel), (by decide +kernel)⟩
set_option maxRecDepth 20000 in
theorem mp220 : MrP r220 := ⟨gm 1455 rfl rfl, (gm 81 (by decide +kernel) rfl), Or.inl (gm 1453 (by decide +kernel) rfl), (by decide +kernel), (by decide +kernel), (by decide +kernel), (by decide +kernel)⟩
end
section
theorem ck0 : CkP r0 ct0 := by decide +kernel
theorem ck1 : CkP r1 ct1 := by decide +kernel
theorem ck2 : CkP r2 ct2 := by decide +kernel
theorem ck3 : CkP r3 ct3 := by decide +kernel
theorem ck4 : CkP r4 ct4 := by decide +kernel
theorem ck5 : CkP r5 ct5 := by decide +kernel
theorem ck6 : CkP r6 ct6 := by decide +kernel
theorem ck7 : CkP r7 ct7 := by decide +kernel
theorem ck8 : CkP r8 ct8 := by decide +kernel
theorem ck9 : CkP r9 ct9 := by decide +kernel
theorem ck10 : CkP r10 ct10 := by decide +kernel
theorem ck11 : CkP r11 ct11 := by decide +kernel
theorem ck12 : CkP r12 ct12 := by decide +kernel
theorem ck13 : CkP r13 ct13 := by decide +kernel
theorem ck14 : CkP r14 ct14 := by decide +kernel
theorem ck15 : CkP r15 ct15 := by decide +kernel
theorem ck16 : CkP r16 ct16 := by decide +kernel
theorem ck17 : CkP r17 ct17 := by decide +kernel
theorem ck18 : CkP r18 ct18 := by decide +kernel
theorem ck19_0 : CkP r19 ct19_0 := by decide +kernel
theorem ck19_1 : CkP r19 ct19_1 := by decide +kernel
theorem ck19 : CkP r19 ct19 := by
  unfold CkP ct19
  rw [List.all_append]
  simp only [Bool.and_eq_true]
  exact ⟨ck19_0, ck19_1⟩
theorem ck20 : CkP r20 ct20 := by decide +kernel
theorem ck21 : CkP r21 ct21 := by decide +kernel
theorem ck22 : CkP r22 ct22 := by decide +kernel
theorem ck23_0 : CkP r23 ct23_0 := by decide +kernel
theorem ck23_1 : CkP r23 ct23_1 := by decide +kernel
theorem ck23 : CkP r23 ct23 := by
  unfold CkP ct23
  rw [List.all_append]
  simp only [Bool.and_eq_true]
  exact ⟨ck23_0, ck23_1⟩
theorem ck24 : CkP r24 ct24 := by decide +kernel
theorem ck25 : CkP r25 ct25 := by decide +kernel
theorem ck26 : CkP r26 ct26 := by decide +kernel
theorem ck27 : CkP r27 ct27 := by decide +kernel
theorem ck28_0 : CkP r28 ct28_0 := by decide +kernel
theorem ck28_1 : CkP r28 ct28_1 := by decide +kernel
theorem ck28 : CkP r28 ct28 := by
  unfold CkP ct28
  rw [List.all_append]
  simp only [Bool.and_eq_true]
  exact ⟨ck28_0, ck28_1⟩
theorem ck29 : CkP r29 ct29 := by decide +kernel
theorem ck30_0 : CkP r30 ct30_0 := by decide +kernel
theorem ck30_1 : CkP r30 ct30_1 := by decide +kernel
theorem ck30 : CkP r30 ct30 := by
  unfold CkP ct30
  rw [List.all_append]
  simp only [Bool.and_eq_true]
  exact ⟨ck30_0, ck30_1⟩
theorem ck31 : CkP r31 ct31 := by decide +kernel
theorem ck32 : CkP r32 ct32 := by decide +kernel
theorem ck33 : CkP r33 ct33 := by decide +kernel
theorem ck34_0 : CkP r34 ct34_0 := by decide +kernel
theorem ck34_1 : CkP r34 ct34_1 := by decide +kernel
theorem ck34 : CkP r34 ct34 := by
  unfold CkP ct34
  rw [List.all_append]
  simp only [Bool.and_eq_true]
  exact ⟨ck34_0, ck34_1⟩
theorem ck35 : CkP r35 ct35 := by decide +kernel
theorem ck36 : CkP r36 ct36 := by decide +kernel
theorem ck37 : CkP r37 ct37 := by decide +kernel
theorem ck38 : CkP r38 ct38 := by decide +kernel
theorem ck39 : CkP r39 ct39 := by decide +kernel
theorem ck40 : CkP r40 ct40 := by decide +kernel
theorem ck41 : CkP r41 ct41 := by decide +kernel
theorem ck42 : CkP r42 ct42 := by decide +kernel
theorem ck43 : CkP r43 ct43 := by decide +kernel
theorem ck44 : CkP r44 ct44 := by decide +kernel
theorem ck45 : CkP r45 ct45 := by decide +kernel
theorem ck46 : CkP r46 ct46 := by decide +kernel
theorem ck47 : CkP r47 ct47 := by decide +kernel
theorem ck48 : CkP r48 ct48 := by decide +kernel
theorem ck49 : CkP r49 ct49 := by decide +kernel
theorem ck50 : CkP r50 ct50 := by decide +kernel
theorem ck51 : CkP r51 ct51 := by decide +kernel
theorem ck52 : CkP r52 ct52 := by decide +kernel
theorem ck53 : CkP r53 ct53 := by decide +kernel
theorem ck54 : CkP r54 ct54 := by decide +kernel
theorem ck55 : CkP r55 ct55 := by decide +kernel
theorem ck56 : CkP r56 ct56 := by decide +kernel
theorem ck57_0 : CkP r57 ct57_0 := by decide +kernel
theorem ck57_1 : CkP r57 ct57_1 := by decide +kernel
theorem ck57 : CkP r57 ct57 := by
  unfold CkP ct57
  rw [List.all_append]
  simp only [Bool.and_eq_true]
  exact ⟨ck57_0, ck57_1⟩
theorem ck58 : CkP r58 ct58 := by decide +kernel
theorem ck59 : CkP r59 ct59 := by decide +kernel
theorem ck60 : CkP r60 ct60 := by decide +kernel
theorem ck61 : CkP r61 ct61 := by decide +kernel
theorem ck62 : CkP r62 ct62 := by decide +kernel
theorem ck63 : CkP r63 ct63 := by decide +kernel
theorem ck64 : CkP r64 ct64 := by decide +kernel
theorem ck65 : CkP r65 ct65 := by decide +kernel
theorem ck66 : CkP r66 ct66 := by decide +kernel
theorem ck67 : CkP r67 ct67 := by decide +kernel
theorem ck68 : CkP r68 ct68 := by decide +kernel
theorem ck69 : CkP r69 ct69 := by decide +kernel
theorem ck70_0 : CkP r70 ct70_0 := by decide +kernel
theorem ck70_1 : CkP r70 ct70_1 := by decide +kernel
theorem ck70 : CkP r70 ct70 := by
  unfold CkP ct70
  rw [List.all_append]
  simp only [Bool.and_eq_true]
  exact ⟨ck70_0, ck70_1⟩
theorem ck71_0 : CkP r71 ct71_0 := by decide +kernel
theorem ck71_1 : CkP r71 ct71_1 := by decide +kernel
theorem ck71 : CkP r71 ct71 := by
  unfold CkP ct71
  rw [List.all_append]
  simp only [Bool.and_eq_true]
  exact ⟨ck71_0, ck71_1⟩
theorem ck72 : CkP r72 ct72 := by decide +kernel
theorem ck73_0 : CkP r73 ct73_0 := by decide +kernel
theorem ck73_1 : CkP r73 ct73_1 := by decide +kernel
theorem ck73 : CkP r73 ct73 := by
  unfold CkP ct73
  rw [List.all_append]
  simp only [Bool.and_eq_true]
  exact ⟨ck73_0, ck73_1⟩
theorem ck74 : CkP r74 ct74 := by decide +kernel
theorem ck75 : CkP r75 ct75 := by decide +kernel
theorem ck76 : CkP r76 ct76 := by decide +kernel
theorem ck77 : CkP r77 ct77 := by decide +kernel
theorem ck78 : CkP r78 ct78 := by decide +kernel
theorem ck79_0 : CkP r79 ct79_0 := by decide +kernel
theorem ck79_1 : CkP r79 ct79_1 := by decide +kernel
theorem ck79 : CkP r79 ct79 := by
  unfold CkP ct79
  rw [List.all_append]
  simp only [Bool.and_eq_true]
  exact ⟨ck79_0, ck79_1⟩
theorem ck80 : CkP r80 ct80 := by decide +kernel
theorem ck81 : CkP r81 ct81 := by decide +kernel
theorem ck82 : CkP r82 ct82 := by decide +kernel
theorem ck83 : CkP r83 ct83 := by decide +kernel
theorem ck84 : CkP r84 ct84 := by decide +kernel
theorem ck85 : CkP r85 ct85 := by decide +kernel
theorem ck86 : CkP r86 ct86 := by decide +kernel
theorem ck87 : CkP r87 ct87 := by decide +kernel
theorem ck88 : CkP r88 ct88 := by decide +kernel
theorem ck89 : CkP r89 ct89 := by decide +kernel
theorem ck90 : CkP r90 ct90 := by decide +kernel
theorem ck91 : CkP r91 ct91 := by decide +kernel
theorem ck92 : CkP r92 ct92 := by decide +kernel
theorem ck93 : CkP r93 ct93 := by decide +kernel
theorem ck94 : CkP r94 ct94 := by decide +kernel
theorem ck95 : CkP r95 ct95 := by decide +kernel
theorem ck96 : CkP r96 ct96 := by decide +kernel
theorem ck97 : CkP r97 ct97 := by decide +kernel
theorem ck98 : CkP r98 ct98 := by decide +kernel
theorem ck99 : CkP r99 ct99 := by decide +kernel
theorem ck100_0 : CkP r100 ct100_0 := by decide +kernel
theorem ck100_1 : CkP r100 ct100_1 := by decide +kernel
theorem ck100 : CkP r100 ct100 := by
  unfold CkP ct100
  rw [List.all_append]
  simp only [Bool.and_eq_true]
  exact ⟨ck100_0, ck100_1⟩
theorem ck101 : CkP r101 ct101 := by decide +kernel
theorem ck102_0 : CkP r102 ct102_0 := by decide +kernel
theorem ck102_1 : CkP r102 ct102_1 := by decide +kernel
theorem ck102 : CkP r102 ct102 := by
  unfold CkP ct102
  rw [List.all_append]
  simp only [Bool.and_eq_true]
  exact ⟨ck102_0, ck102_1⟩
theorem ck103 : CkP r103 ct103 := by decide +kernel
theorem ck104 : CkP r104 ct104 := by decide +kernel
theorem ck105 : CkP r105 ct105 := by decide +kernel
theorem ck106 : CkP r106 ct106 := by decide +kernel
theorem ck107 : CkP r107 ct107 := by decide +kernel
theorem ck108 : CkP r108 ct108 := by decide +kernel
theorem ck109 : CkP r109 ct109 := by decide +kernel
theorem ck110 : CkP r110 ct110 := by decide +kernel
theorem ck111 : CkP r111 ct111 := by decide +kernel
theorem ck112 : CkP r112 ct112 := by decide +kernel
theorem ck113 : CkP r113 ct113 := by decide +kernel
theorem ck114 : CkP r114 ct114 := by decide +kernel
theorem ck115 : CkP r115 ct115 := by decide +kernel
theorem ck116 : CkP r116 ct116 := by decide +kernel
theorem ck117 : CkP r117 ct117 := by decide +kernel
theorem ck118_0 : CkP r118 ct118_0 := by decide +kernel
theorem ck118_1 : CkP r118 ct118_1 := by decide +kernel
theorem ck118 : CkP r118 ct118 := by
  unfold CkP ct118
  rw [List.all_append]
  simp only [Bool.and_eq_true]
  exact ⟨ck118_0, ck118_1⟩
theorem ck119 : CkP r119 ct119 := by decide +kernel
theorem ck120 : CkP r120 ct120 := by decide +kernel
theorem ck121 : CkP r121 ct121 := by decide +kernel
theorem ck122 : CkP r122 ct122 := by decide +kernel
theorem ck123 : CkP r123 ct123 := by decide +kernel
theorem ck124 : CkP r124 ct124 := by decide +kernel
theorem ck125 : CkP r125 ct125 := by decide +kernel
theorem ck126 : CkP r126 ct126 := by decide +kernel
theorem ck127 : CkP r127 ct127 := by decide +kernel
theorem ck128 : CkP r128 ct128 := by decide +kernel
theorem ck129 : CkP r129 ct129 := by decide +kernel
theorem ck130 : CkP r130 ct130 := by decide +kernel
theorem ck131 : CkP r131 ct131 := by decide +kernel
theorem ck132 : CkP r132 ct132 := by decide +kernel
theorem ck133 : CkP r133 ct133 := by decide +kernel
theorem ck134 : CkP r134 ct134 := by decide +kernel
theorem ck135 : CkP r135 ct135 := by decide +kernel
theorem ck136 : CkP r136 ct136 := by decide +kernel
theorem ck137 : CkP r137 ct137 := by decide +kernel
theorem ck138_0 : CkP r138 ct138_0 := by decide +kernel
theorem ck138_1 : CkP r138 ct138_1 := by decide +kernel
theorem ck138_2 : CkP r138 ct138_2 := by decide +kernel
theorem ck138 : CkP r138 ct138 := by
  unfold CkP ct138
  rw [List.all_append, List.all_append]
  simp only [Bool.and_eq_true]
  exact ⟨⟨ck138_0, ck138_1⟩, ck138_2⟩
theorem ck139 : CkP r139 ct139 := by decide +kernel
theorem ck140 : CkP r140 ct140 := by decide +kernel
theorem ck141 : CkP r141 ct141 := by decide +kernel
theorem ck142 : CkP r142 ct142 := by decide +kernel
theorem ck143 : CkP r143 ct143 := by decide +kernel
theorem ck144 : CkP r144 ct144 := by decide +kernel
theorem ck145 : CkP r145 ct145 := by decide +kernel
theorem ck146_0 : CkP r146 ct146_0 := by decide +kernel
theorem ck146_1 : CkP r146 ct146_1 := by decide +kernel
theorem ck146 : CkP r146 ct146 := by
  unfold CkP ct146
  rw [List.all_append]
  simp only [Bool.and_eq_true]
  exact ⟨ck146_0, ck146_1⟩
theorem ck147 : CkP r147 ct147 := by decide +kernel
theorem ck148 : CkP r148 ct148 := by decide +kernel
theorem ck149 : CkP r149 ct149 := by decide +kernel
theorem ck150 : CkP r150 ct150 := by decide +kernel
theorem ck151_0 : CkP r151 ct151_0 := by decide +kernel
theorem ck151_1 : CkP r151 ct151_1 := by decide +kernel
theorem ck151 : CkP r151 ct151 := by
  unfold CkP ct151
  rw [List.all_append]
  simp only [Bool.and_eq_true]
  exact ⟨ck151_0, ck151_1⟩
theorem ck152 : CkP r152 ct152 := by decide +kernel
theorem ck153_0 : CkP r153 ct153_0 := by decide +kernel
theorem ck153_1 : CkP r153 ct153_1 := by decide +kernel
theorem ck153 : CkP r153 ct153 := by
  unfold CkP ct153
  rw [List.all_append]
  simp only [Bool.and_eq_true]
  exact ⟨ck153_0, ck153_1⟩
theorem ck154 : CkP r154 ct154 := by decide +kernel
theorem ck155 : CkP r155 ct155 := by decide +kernel
theorem ck156 : CkP r156 ct156 := by decide +kernel
theorem ck157_0 : CkP r157 ct157_0 := by decide +kernel
theorem ck157_1 : CkP r157 ct157_1 := by decide +kernel
theorem ck157 : CkP r157 ct157 := by
  unfold CkP ct157
  rw [List.all_append]
  simp only [Bool.and_eq_true]
  exact ⟨ck157_0, ck157_1⟩
theorem ck158_0 : CkP r158 ct158_0 := by decide +kernel
theorem ck158_1 : CkP r158 ct158_1 := by decide +kernel
theorem ck158 : CkP r158 ct158 := by
  unfold CkP ct158
  rw [List.all_append]
  simp only [Bool.and_eq_true]
  exact ⟨ck158_0, ck158_1⟩
theorem ck159 : CkP r159 ct159 := by decide +kernel
theorem ck160 : CkP r160 ct160 := by decide +kernel
theorem ck161 : CkP r161 ct161 := by decide +kernel
theorem ck162 : CkP r162 ct162 := by decide +kernel
theorem ck163 : CkP r163 ct163 := by decide +kernel
theorem ck164 : CkP r164 ct164 := by decide +kernel
theorem ck165 : CkP r165 ct165 := by decide +kernel
theorem ck166 : CkP r166 ct166 := by decide +kernel
theorem ck167 : CkP r167 ct167 := by decide +kernel
theorem ck168 : CkP r168 ct168 := by decide +kernel
theorem ck169_0 : CkP r169 ct169_0 := by decide +kernel
theorem ck169_1 : CkP r169 ct169_1 := by decide +kernel
theorem ck169_2 : CkP r169 ct169_2 := by decide +kernel
theorem ck169 : CkP r169 ct169 := by
  unfold CkP ct169
  rw [List.all_append, List.all_append]
  simp only [Bool.and_eq_true]
  exact ⟨⟨ck169_0, ck169_1⟩, ck169_2⟩
theorem ck170 : CkP r170 ct170 := by decide +kernel
theorem ck171_0 : CkP r171 ct171_0 := by decide +kernel
theorem ck171_1 : CkP r171 ct171_1 := by decide +kernel
theorem ck171_2 : CkP r171 ct171_2 := by decide +kernel
theorem ck171 : CkP r171 ct171 := by
  unfold CkP ct171
  rw [List.all_append, List.all_append]
  simp only [Bool.and_eq_true]
  exact ⟨⟨ck171_0, ck171_1⟩, ck171_2⟩
theorem ck172_0 : CkP r172 ct172_0 := by decide +kernel
theorem ck172_1 : CkP r172 ct172_1 := by decide +kernel
theorem ck172 : CkP r172 ct172 := by
  unfold CkP ct172
  rw [List.all_append]
  simp only [Bool.and_eq_true]
  exact ⟨ck172_0, ck172_1⟩
theorem ck173 : CkP r173 ct173 := by decide +kernel
theorem ck174 : CkP r174 ct174 := by decide +kernel
theorem ck175 : CkP r175 ct175 := by decide +kernel
theorem ck176 : CkP r176 ct176 := by decide +kernel
theorem ck177 : CkP r177 ct177 := by decide +kernel
theorem ck178 : CkP r178 ct178 := by decide +kernel
theorem ck179_0 : CkP r179 ct179_0 := by decide +kernel
theorem ck179_1 : CkP r179 ct179_1 := by decide +kernel
theorem ck179_2 : CkP r179 ct179_2 := by decide +kernel
theorem ck179 : CkP r179 ct179 := by
  unfold CkP ct179
  rw [List.all_append, List.all_append]
  simp only [Bool.and_eq_true]
  exact ⟨⟨ck179_0, ck179_1⟩, ck179_2⟩
theorem ck180 : CkP r180 ct180 := by decide +kernel
theorem ck181 : CkP r181 ct181 := by decide +kernel
theorem ck182_0 : CkP r182 ct182_0 := by decide +kernel
theorem ck182_1 : CkP r182 ct182_1 := by decide +kernel
theorem ck182 : CkP r182 ct182 := by
  unfold CkP ct182
  rw [List.all_append]
  simp only [Bool.and_eq_true]
  exact ⟨ck182_0, ck182_1⟩
theorem ck183 : CkP r183 ct183 := by decide +kernel
theorem ck184 : CkP r184 ct184 := by decide +kernel
theorem ck185_0 : CkP r185 ct185_0 := by decide +kernel
theorem ck185_1 : CkP r185 ct185_1 := by decide +kernel
theorem ck185 : CkP r185 ct185 := by
  unfold CkP ct185
  rw [List.all_append]
  simp only [Bool.and_eq_true]
  exact ⟨ck185_0, ck185_1⟩
theorem ck186_0 : CkP r186 ct186_0 := by decide +kernel
theorem ck186_1 : CkP r186 ct186_1 := by decide +kernel
theorem ck186 : CkP r186 ct186 := by
  unfold CkP ct186
  rw [List.all_append]
  simp only [Bool.and_eq_true]
  exact ⟨ck186_0, ck186_1⟩
theorem ck187 : CkP r187 ct187 := by decide +kernel
theorem ck188 : CkP r188 ct188 := by decide +kernel
theorem ck189_0 : CkP r189 ct189_0 := by decide +kernel
theorem ck189_1 : CkP r189 ct189_1 := by decide +kernel
theorem ck189 : CkP r189 ct189 := by
  unfold CkP ct189
  rw [List.all_append]
  simp only [Bool.and_eq_true]
  exact ⟨ck189_0, ck189_1⟩
theorem ck190 : CkP r190 ct190 := by decide +kernel
theorem ck191_0 : CkP r191 ct191_0 := by decide +kernel
theorem ck191_1 : CkP r191 ct191_1 := by decide +kernel
theorem ck191 : CkP r191 ct191 := by
  unfold CkP ct191
  rw [List.all_append]
  simp only [Bool.and_eq_true]
  exact ⟨ck191_0, ck191_1⟩
theorem ck192 : CkP r192 ct192 := by decide +kernel
theorem ck193 : CkP r193 ct193 := by decide +kernel
theorem ck194 : CkP r194 ct194 := by decide +kernel
theorem ck195 : CkP r195 ct195 := by decide +kernel
theorem ck196 : CkP r196 ct196 := by decide +kernel
theorem ck197 : CkP r197 ct197 := by decide +kernel
theorem ck198 : CkP r198 ct198 := by decide +kernel
theorem ck199 : CkP r199 ct199 := by decide +kernel
theorem ck200_0 : CkP r200 ct200_0 := by decide +kernel
theorem ck200_1 : CkP r200 ct200_1 := by decide +kernel
theorem ck200 : CkP r200 ct200 := by
  unfold CkP ct200
  rw [List.all_append]
  simp only [Bool.and_eq_true]
  exact ⟨ck200_0, ck200_1⟩
theorem ck201 : CkP r201 ct201 := by decide +kernel
theorem ck202_0 : CkP r202 ct202_0 := by decide +kernel
theorem ck202_1 : CkP r202 ct202_1 := by decide +kernel
theorem ck202 : CkP r202 ct202 := by
  unfold CkP ct202
  rw [List.all_append]
  simp only [Bool.and_eq_true]
  exact ⟨ck202_0, ck202_1⟩
theorem ck203 : CkP r203 ct203 := by decide +kernel
theorem ck204_0 : CkP r204 ct204_0 := by decide +kernel
theorem ck204_1 : CkP r204 ct204_1 := by decide +kernel
theorem ck204 : CkP r204 ct204 := by
  unfold CkP ct204
  rw [List.all_append]
  simp only [Bool.and_eq_true]
  exact ⟨ck204_0, ck204_1⟩
theorem ck205_0 : CkP r205 ct205_0 := by decide +kernel
theorem ck205_1 : CkP r205 ct205_1 := by decide +kernel
theorem ck205_2 : CkP r205 ct205_2 := by decide +kernel
theorem ck205 : CkP r205 ct205 := by
  unfold CkP ct205
  rw [List.all_append, List.all_append]
  simp only [Bool.and_eq_true]
  exact ⟨⟨ck205_0, ck205_1⟩, ck205_2⟩
theorem ck206 : CkP r206 ct206 := by decide +kernel
theorem ck207 : CkP r207 ct207 := by decide +kernel
theorem ck208 : CkP r208 ct208 := by decide +kernel
theorem ck209 : CkP r209 ct209 := by decide +kernel
theorem ck210 : CkP r210 ct210 := by decide +kernel
theorem ck211 : CkP r211 ct211 := by decide +kernel
theorem ck212 : CkP r212 ct212 := by decide +kernel
theorem ck213_0 : CkP r213 ct213_0 := by decide +kernel
theorem ck213_1 : CkP r213 ct213_1 := by decide +kernel
theorem ck213 : CkP r213 ct213 := by
  unfold CkP ct213
  rw [List.all_append]
  simp only [Bool.and_eq_true]
  exact ⟨ck213_0, ck213_1⟩
theorem ck214 : CkP r214 ct214 := by decide +kernel
theorem ck215 : CkP r215 ct215 := by decide +kernel
theorem ck216 : CkP r216 ct216 := by decide +kernel
theorem ck217 : CkP r217 ct217 := by decide +kernel
theorem ck218 : CkP r218 ct218 := by decide +kernel
theorem ck219 : CkP r219 ct219 := by decide +kernel
theorem ck220 : CkP r220 ct220 := by decide +kernel
theorem ck221_0 : CkP lawR ct221_0 := by decide +kernel
theorem ck221_1 : CkP lawR ct221_1 := by decide +kernel
theorem ck221_2 : CkP lawR ct221_2 := by decide +kernel
theorem ck221_3 : CkP lawR ct221_3 := by decide +kernel
theorem ck221_4 : CkP lawR ct221_4 := by decide +kernel
theorem ck221_5 : CkP lawR ct221_5 := by decide +kernel
theorem ck221_6 : CkP lawR ct221_6 := by decide +kernel
theorem ck221_7 : CkP lawR ct221_7 := by decide +kernel
theorem ck221_8 : CkP lawR ct221_8 := by decide +kernel
theorem ck221_9 : CkP lawR ct221_9 := by decide +kernel
theorem ck221_10 : CkP lawR ct221_10 := by decide +kernel
theorem ck221_11 : CkP lawR ct221_11 := by decide +kernel
theorem ck221_12 : CkP lawR ct221_12 := by decide +kernel
theorem ck221_13 : CkP lawR ct221_13 := by decide +kernel
theorem ck221_14 : CkP lawR ct221_14 := by decide +kernel
theorem ck221_15 : CkP lawR ct221_15 := by decide +kernel
theorem ck221_16 : CkP lawR ct221_16 := by decide +kernel
theorem ck221_17 : CkP lawR ct221_17 := by decide +kernel
theorem ck221_18 : CkP lawR ct221_18 := by decide +kernel
theorem ck221 : CkP lawR ct221 := by
  unfold CkP ct221
  rw [List.all_append, List.all_append, List.all_append, List.all_append, List.all_append, List.all_append, List.all_append, List.all_append, List.all_append, List.all_append, List.all_append, List.all_append, List.all_append, List.all_append, List.all_append, List.all_append, List.all_append, List.all_append]
  simp only [Bool.and_eq_true]
  exact ⟨⟨⟨⟨⟨⟨⟨⟨⟨⟨⟨⟨⟨⟨⟨⟨⟨⟨ck221_0, ck221_1⟩, ck221_2⟩, ck221_3⟩, ck221_4⟩, ck221_5⟩, ck221_6⟩, ck221_7⟩, ck221_8⟩, ck221_9⟩, ck221_10⟩, ck221_11⟩, ck221_12⟩, ck221_13⟩, ck221_14⟩, ck221_15⟩, ck221_16⟩, ck221_17⟩, ck221_18⟩
end
section
def MtP (q : Mt) : Prop := MrP q.1 ∧ CkP q.1 q.2
theorem mts_0 : ∀ q ∈ Mts_0, MtP q := List.forall_mem_cons.mpr ⟨⟨mp0, ck0⟩, List.forall_mem_cons.mpr ⟨⟨mp1, ck1⟩, List.forall_mem_cons.mpr ⟨⟨mp2, ck2⟩, List.forall_mem_cons.mpr ⟨⟨mp3, ck3⟩, List.forall_mem_cons.mpr ⟨⟨mp4, ck4⟩, List.forall_mem_cons.mpr ⟨⟨mp5, ck5⟩, List.forall_mem_cons.mpr ⟨⟨mp6, ck6⟩, List.forall_mem_cons.mpr ⟨⟨mp7, ck7⟩, List.forall_mem_cons.mpr ⟨⟨mp8, ck8⟩, List.forall_mem_cons.mpr ⟨⟨mp9, ck9⟩, List.forall_mem_cons.mpr ⟨⟨mp10, ck10⟩, List.forall_mem_cons.mpr ⟨⟨mp11, ck11⟩, List.forall_mem_cons.mpr ⟨⟨mp12, ck12⟩, List.forall_mem_cons.mpr ⟨⟨mp13, ck13⟩, List.forall_mem_cons.mpr ⟨⟨mp14, ck14⟩, List.forall_mem_cons.mpr ⟨⟨mp15, ck15⟩, List.forall_mem_cons.mpr ⟨⟨mp16, ck16⟩, List.forall_mem_cons.mpr ⟨⟨mp17, ck17⟩, List.forall_mem_cons.mpr ⟨⟨mp18, ck18⟩, List.forall_mem_cons.mpr ⟨⟨mp19, ck19⟩, List.forall_mem_cons.mpr ⟨⟨mp20, ck20⟩, List.forall_mem_cons.mpr ⟨⟨mp21, ck21⟩, List.forall_mem_cons.mpr ⟨⟨mp22, ck22⟩, List.forall_mem_cons.mpr ⟨⟨mp23, ck23⟩, List.forall_mem_cons.mpr ⟨⟨mp24, ck24⟩, fun _ h => absurd h List.not_mem_nil⟩⟩⟩⟩⟩⟩⟩⟩⟩⟩⟩⟩⟩⟩⟩⟩⟩⟩⟩⟩⟩⟩⟩⟩⟩
theorem mts_1 : ∀ q ∈ Mts_1, MtP q := List.forall_mem_cons.mpr ⟨⟨mp25, ck25⟩, List.forall_mem_cons.mpr ⟨⟨mp26, ck26⟩, List.forall_mem_cons.mpr ⟨⟨mp27, ck27⟩, List.forall_mem_cons.mpr ⟨⟨mp28, ck28⟩, List.forall_mem_cons.mpr ⟨⟨mp29, ck29⟩, List.forall_mem_cons.mpr ⟨⟨mp30, ck30⟩, List.forall_mem_cons.mpr ⟨⟨mp31, ck31⟩, List.forall_mem_cons.mpr ⟨⟨mp32, ck32⟩, List.forall_mem_cons.mpr ⟨⟨mp33, ck33⟩, List.forall_mem_cons.mpr ⟨⟨mp34, ck34⟩, List.forall_mem_cons.mpr ⟨⟨mp35, ck35⟩, List.forall_mem_cons.mpr ⟨⟨mp36, ck36⟩, List.forall_mem_cons.mpr ⟨⟨mp37, ck37⟩, List.forall_mem_cons.mpr ⟨⟨mp38, ck38⟩, List.forall_mem_cons.mpr ⟨⟨mp39, ck39⟩, List.forall_mem_cons.mpr ⟨⟨mp40, ck40⟩, List.forall_mem_cons.mpr ⟨⟨mp41, ck41⟩, List.forall_mem_cons.mpr ⟨⟨mp42, ck42⟩, List.forall_mem_cons.mpr ⟨⟨mp43, ck43⟩, List.forall_mem_cons.mpr ⟨⟨mp44, ck44⟩, List.forall_mem_cons.mpr ⟨⟨mp45, ck45⟩, List.forall_mem_cons.mpr ⟨⟨mp46, ck46⟩, List.forall_mem_cons.mpr ⟨⟨mp47, ck47⟩, List.forall_mem_cons.mpr ⟨⟨mp48, ck48⟩, List.forall_mem_cons.mpr ⟨⟨mp49, ck49⟩, fun _ h => absurd h List.not_mem_nil⟩⟩⟩⟩⟩⟩⟩⟩⟩⟩⟩⟩⟩⟩⟩⟩⟩⟩⟩⟩⟩⟩⟩⟩⟩
theorem mts_2 : ∀ q ∈ Mts_2, MtP q := List.forall_mem_cons.mpr ⟨⟨mp50, ck50⟩, List.forall_mem_cons.mpr ⟨⟨mp51, ck51⟩, List.forall_mem_cons.mpr ⟨⟨mp52, ck52⟩, List.forall_mem_cons.mpr ⟨⟨mp53, ck53⟩, List.forall_mem_cons.mpr ⟨⟨mp54, ck54⟩, List.forall_mem_cons.mpr ⟨⟨mp55, ck55⟩, List.forall_mem_cons.mpr ⟨⟨mp56, ck56⟩, List.forall_mem_cons.mpr ⟨⟨mp57, ck57⟩, List.forall_mem_cons.mpr ⟨⟨mp58, ck58⟩, List.forall_mem_cons.mpr ⟨⟨mp59, ck59⟩, List.forall_mem_cons.mpr ⟨⟨mp60, ck60⟩, List.forall_mem_cons.mpr ⟨⟨mp61, ck61⟩, List.forall_mem_cons.mpr ⟨⟨mp62, ck62⟩, List.forall_mem_cons.mpr ⟨⟨mp63, ck63⟩, List.forall_mem_cons.mpr ⟨⟨mp64, ck64⟩, List.forall_mem_cons.mpr ⟨⟨mp65, ck65⟩, List.forall_mem_cons.mpr ⟨⟨mp66, ck66⟩, List.forall_mem_cons.mpr ⟨⟨mp67, ck67⟩, List.forall_mem_cons.mpr ⟨⟨mp68, ck68⟩, List.forall_mem_cons.mpr ⟨⟨mp69, ck69⟩, List.forall_mem_cons.mpr ⟨⟨mp70, ck70⟩, List.forall_mem_cons.mpr ⟨⟨mp71, ck71⟩, List.forall_mem_cons.mpr ⟨⟨mp72, ck72⟩, List.forall_mem_cons.mpr ⟨⟨mp73, ck73⟩, List.forall_mem_cons.mpr ⟨⟨mp74, ck74⟩, fun _ h => absurd h List.not_mem_nil⟩⟩⟩⟩⟩⟩⟩⟩⟩⟩⟩⟩⟩⟩⟩⟩⟩⟩⟩⟩⟩⟩⟩⟩⟩
theorem mts_3 : ∀ q ∈ Mts_3, MtP q := List.forall_mem_cons.mpr ⟨⟨mp75, ck75⟩, List.forall_mem_cons.mpr ⟨⟨mp76, ck76⟩, List.forall_mem_cons.mpr ⟨⟨mp77, ck77⟩, List.forall_mem_cons.mpr ⟨⟨mp78, ck78⟩, List.forall_mem_cons.mpr ⟨⟨mp79, ck79⟩, List.forall_mem_cons.mpr ⟨⟨mp80, ck80⟩, List.forall_mem_cons.mpr ⟨⟨mp81, ck81⟩, List.forall_mem_cons.mpr ⟨⟨mp82, ck82⟩, List.forall_mem_cons.mpr ⟨⟨mp83, ck83⟩, List.forall_mem_cons.mpr ⟨⟨mp84, ck84⟩, List.forall_mem_cons.mpr ⟨⟨mp85, ck85⟩, List.forall_mem_cons.mpr ⟨⟨mp86, ck86⟩, List.forall_mem_cons.mpr ⟨⟨mp87, ck87⟩, List.forall_mem_cons.mpr ⟨⟨mp88, ck88⟩, List.forall_mem_cons.mpr ⟨⟨mp89, ck89⟩, List.forall_mem_cons.mpr ⟨⟨mp90, ck90⟩, List.forall_mem_cons.mpr ⟨⟨mp91, ck91⟩, List.forall_mem_cons.mpr ⟨⟨mp92, ck92⟩, List.forall_mem_cons.mpr ⟨⟨mp93, ck93⟩, List.forall_mem_cons.mpr ⟨⟨mp94, ck94⟩, List.forall_mem_cons.mpr ⟨⟨mp95, ck95⟩, List.forall_mem_cons.mpr ⟨⟨mp96, ck96⟩, List.forall_mem_cons.mpr ⟨⟨mp97, ck97⟩, List.forall_mem_cons.mpr ⟨⟨mp98, ck98⟩, List.forall_mem_cons.mpr ⟨⟨mp99, ck99⟩, fun _ h => absurd h List.not_mem_nil⟩⟩⟩⟩⟩⟩⟩⟩⟩⟩⟩⟩⟩⟩⟩⟩⟩⟩⟩⟩⟩⟩⟩⟩⟩
theorem mts_4 : ∀ q ∈ Mts_4, MtP q := List.forall_mem_cons.mpr ⟨⟨mp100, ck100⟩, List.forall_mem_cons.mpr ⟨⟨mp101, ck101⟩, List.forall_mem_cons.mpr ⟨⟨mp102, ck102⟩, List.forall_mem_cons.mpr ⟨⟨mp103, ck103⟩, List.forall_mem_cons.mpr ⟨⟨mp104, ck104⟩, List.forall_mem_cons.mpr ⟨⟨mp105, ck105⟩, List.forall_mem_cons.mpr ⟨⟨mp106, ck106⟩, List.forall_mem_cons.mpr ⟨⟨mp107, ck107⟩, List.forall_mem_cons.mpr ⟨⟨mp108, ck108⟩, List.forall_mem_cons.mpr ⟨⟨mp109, ck109⟩, List.forall_mem_cons.mpr ⟨⟨mp110, ck110⟩, List.forall_mem_cons.mpr ⟨⟨mp111, ck111⟩, List.forall_mem_cons.mpr ⟨⟨mp112, ck112⟩, List.forall_mem_cons.mpr ⟨⟨mp113, ck113⟩, List.forall_mem_cons.mpr ⟨⟨mp114, ck114⟩, List.forall_mem_cons.mpr ⟨⟨mp115, ck115⟩, List.forall_mem_cons.mpr ⟨⟨mp116, ck116⟩, List.forall_mem_cons.mpr ⟨⟨mp117, ck117⟩, List.forall_mem_cons.mpr ⟨⟨mp118, ck118⟩, List.forall_mem_cons.mpr ⟨⟨mp119, ck119⟩, List.forall_mem_cons.mpr ⟨⟨mp120, ck120⟩, List.forall_mem_cons.mpr ⟨⟨mp121, ck121⟩, List.forall_mem_cons.mpr ⟨⟨mp122, ck122⟩, List.forall_mem_cons.mpr ⟨⟨mp123, ck123⟩, List.forall_mem_cons.mpr ⟨⟨mp124, ck124⟩, fun _ h => absurd h List.not_mem_nil⟩⟩⟩⟩⟩⟩⟩⟩⟩⟩⟩⟩⟩⟩⟩⟩⟩⟩⟩⟩⟩⟩⟩⟩⟩
theorem mts_5 : ∀ q ∈ Mts_5, MtP q := List.forall_mem_cons.mpr ⟨⟨mp125, ck125⟩, List.forall_mem_cons.mpr ⟨⟨mp126, ck126⟩, List.forall_mem_cons.mpr ⟨⟨mp127, ck127⟩, List.forall_mem_cons.mpr ⟨⟨mp128, ck128⟩, List.forall_mem_cons.mpr ⟨⟨mp129, ck129⟩, List.forall_mem_cons.mpr ⟨⟨mp130, ck130⟩, List.forall_mem_cons.mpr ⟨⟨mp131, ck131⟩, List.forall_mem_cons.mpr ⟨⟨mp132, ck132⟩, List.forall_mem_cons.mpr ⟨⟨mp133, ck133⟩, List.forall_mem_cons.mpr ⟨⟨mp134, ck134⟩, List.forall_mem_cons.mpr ⟨⟨mp135, ck135⟩, List.forall_mem_cons.mpr ⟨⟨mp136, ck136⟩, List.forall_mem_cons.mpr ⟨⟨mp137, ck137⟩, List.forall_mem_cons.mpr ⟨⟨mp138, ck138⟩, List.forall_mem_cons.mpr ⟨⟨mp139, ck139⟩, List.forall_mem_cons.mpr ⟨⟨mp140, ck140⟩, List.forall_mem_cons.mpr ⟨⟨mp141, ck141⟩, List.forall_mem_cons.mpr ⟨⟨mp142, ck142⟩, List.forall_mem_cons.mpr ⟨⟨mp143, ck143⟩, List.forall_mem_cons.mpr ⟨⟨mp144, ck144⟩, List.forall_mem_cons.mpr ⟨⟨mp145, ck145⟩, List.forall_mem_cons.mpr ⟨⟨mp146, ck146⟩, List.forall_mem_cons.mpr ⟨⟨mp147, ck147⟩, List.forall_mem_cons.mpr ⟨⟨mp148, ck148⟩, List.forall_mem_cons.mpr ⟨⟨mp149, ck149⟩, fun _ h => absurd h List.not_mem_nil⟩⟩⟩⟩⟩⟩⟩⟩⟩⟩⟩⟩⟩⟩⟩⟩⟩⟩⟩⟩⟩⟩⟩⟩⟩
theorem mts_6 : ∀ q ∈ Mts_6, MtP q := List.forall_mem_cons.mpr ⟨⟨mp150, ck150⟩, List.forall_mem_cons.mpr ⟨⟨mp151, ck151⟩, List.forall_mem_cons.mpr ⟨⟨mp152, ck152⟩, List.forall_mem_cons.mpr ⟨⟨mp153, ck153⟩, List.forall_mem_cons.mpr ⟨⟨mp154, ck154⟩, List.forall_mem_cons.mpr ⟨⟨mp155, ck155⟩, List.forall_mem_cons.mpr ⟨⟨mp156, ck156⟩, List.forall_mem_cons.mpr ⟨⟨mp157, ck157⟩, List.forall_mem_cons.mpr ⟨⟨mp158, ck158⟩, List.forall_mem_cons.mpr ⟨⟨mp159, ck159⟩, List.forall_mem_cons.mpr ⟨⟨mp160, ck160⟩, List.forall_mem_cons.mpr ⟨⟨mp161, ck161⟩, List.forall_mem_cons.mpr ⟨⟨mp162, ck162⟩, List.forall_mem_cons.mpr ⟨⟨mp163, ck163⟩, List.forall_mem_cons.mpr ⟨⟨mp164, ck164⟩, List.forall_mem_cons.mpr ⟨⟨mp165, ck165⟩, List.forall_mem_cons.mpr ⟨⟨mp166, ck166⟩, List.forall_mem_cons.mpr ⟨⟨mp167, ck167⟩, List.forall_mem_cons.mpr ⟨⟨mp168, ck168⟩, List.forall_mem_cons.mpr ⟨⟨mp169, ck169⟩, List.forall_mem_cons.mpr ⟨⟨mp170, ck170⟩, List.forall_mem_cons.mpr ⟨⟨mp171, ck171⟩, List.forall_mem_cons.mpr ⟨⟨mp172, ck172⟩, List.forall_mem_cons.mpr ⟨⟨mp173, ck173⟩, List.forall_mem_cons.mpr ⟨⟨mp174, ck174⟩, fun _ h => absurd h List.not_mem_nil⟩⟩⟩⟩⟩⟩⟩⟩⟩⟩⟩⟩⟩⟩⟩⟩⟩⟩⟩⟩⟩⟩⟩⟩⟩
theorem mts_7 : ∀ q ∈ Mts_7, MtP q := List.forall_mem_cons.mpr ⟨⟨mp175, ck175⟩, List.forall_mem_cons.mpr ⟨⟨mp176, ck176⟩, List.forall_mem_cons.mpr ⟨⟨mp177, ck177⟩, List.forall_mem_cons.mpr ⟨⟨mp178, ck178⟩, List.forall_mem_cons.mpr ⟨⟨mp179, ck179⟩, List.forall_mem_cons.mpr ⟨⟨mp180, ck180⟩, List.forall_mem_cons.mpr ⟨⟨mp181, ck181⟩, List.forall_mem_cons.mpr ⟨⟨mp182, ck182⟩, List.forall_mem_cons.mpr ⟨⟨mp183, ck183⟩, List.forall_mem_cons.mpr ⟨⟨mp184, ck184⟩, List.forall_mem_cons.mpr ⟨⟨mp185, ck185⟩, List.forall_mem_cons.mpr ⟨⟨mp186, ck186⟩, List.forall_mem_cons.mpr ⟨⟨mp187, ck187⟩, List.forall_mem_cons.mpr ⟨⟨mp188, ck188⟩, List.forall_mem_cons.mpr ⟨⟨mp189, ck189⟩, List.forall_mem_cons.mpr ⟨⟨mp190, ck190⟩, List.forall_mem_cons.mpr ⟨⟨mp191, ck191⟩, List.forall_mem_cons.mpr ⟨⟨mp192, ck192⟩, List.forall_mem_cons.mpr ⟨⟨mp193, ck193⟩, List.forall_mem_cons.mpr ⟨⟨mp194, ck194⟩, List.forall_mem_cons.mpr ⟨⟨mp195, ck195⟩, List.forall_mem_cons.mpr ⟨⟨mp196, ck196⟩, List.forall_mem_cons.mpr ⟨⟨mp197, ck197⟩, List.forall_mem_cons.mpr ⟨⟨mp198, ck198⟩, List.forall_mem_cons.mpr ⟨⟨mp199, ck199⟩, fun _ h => absurd h List.not_mem_nil⟩⟩⟩⟩⟩⟩⟩⟩⟩⟩⟩⟩⟩⟩⟩⟩⟩⟩⟩⟩⟩⟩⟩⟩⟩
theorem mts_8 : ∀ q ∈ Mts_8, MtP q := List.forall_mem_cons.mpr ⟨⟨mp200, ck200⟩, List.forall_mem_cons.mpr ⟨⟨mp201, ck201⟩, List.forall_mem_cons.mpr ⟨⟨mp202, ck202⟩, List.forall_mem_cons.mpr ⟨⟨mp203, ck203⟩, List.forall_mem_cons.mpr ⟨⟨mp204, ck204⟩, List.forall_mem_cons.mpr ⟨⟨mp205, ck205⟩, List.forall_mem_cons.mpr ⟨⟨mp206, ck206⟩, List.forall_mem_cons.mpr ⟨⟨mp207, ck207⟩, List.forall_mem_cons.mpr ⟨⟨mp208, ck208⟩, List.forall_mem_cons.mpr ⟨⟨mp209, ck209⟩, List.forall_mem_cons.mpr ⟨⟨mp210, ck210⟩, List.forall_mem_cons.mpr ⟨⟨mp211, ck211⟩, List.forall_mem_cons.mpr ⟨⟨mp212, ck212⟩, List.forall_mem_cons.mpr ⟨⟨mp213, ck213⟩, List.forall_mem_cons.mpr ⟨⟨mp214, ck214⟩, List.forall_mem_cons.mpr ⟨⟨mp215, ck215⟩, List.forall_mem_cons.mpr ⟨⟨mp216, ck216⟩, List.forall_mem_cons.mpr ⟨⟨mp217, ck217⟩, List.forall_mem_cons.mpr ⟨⟨mp218, ck218⟩, List.forall_mem_cons.mpr ⟨⟨mp219, ck219⟩, List.forall_mem_cons.mpr ⟨⟨mp220, ck220⟩, fun _ h => absurd h List.not_mem_nil⟩⟩⟩⟩⟩⟩⟩⟩⟩⟩⟩⟩⟩⟩⟩⟩⟩⟩⟩⟩⟩
theorem mts : ∀ q ∈ Mts, MtP q := List.forall_mem_append.mpr ⟨mts_0, List.forall_mem_append.mpr ⟨mts_1, List.forall_mem_append.mpr ⟨mts_2, List.forall_mem_append.mpr ⟨mts_3, List.forall_mem_append.mpr ⟨mts_4, List.forall_mem_append.mpr ⟨mts_5, List.forall_mem_append.mpr ⟨mts_6, List.forall_mem_append.mpr ⟨mts_7, mts_8⟩⟩⟩⟩⟩⟩⟩⟩
theorem mtk_in {k : Nat} (h : k < 221) : mtk k ∈ Mts := by
  have hl : Mts.length = 221 := by decide +kernel
  unfold mtk
  rw [List.getD_eq_getElem?_getD, List.getElem?_eq_getElem (by omega)]
  exact List.getElem_mem _
theorem mtk_ok {k : Nat} (h : k < 221) : MtP (mtk k) := mts _ (mtk_in h)
end
section
def PTs : List (Nat × Nat) := [(0, 15), (0, 21), (0, 25), (0, 36), (0, 40), (3, 9), (3, 15), (3, 19), (3, 22), (3, 25), (3, 28), (3, 31), (3, 35), (3, 38), (3, 41), (3, 45), (3, 48), (3, 51), (3, 54), (4, 9), (4, 15), (4, 18), (4, 22), (4, 25), (4, 28), (5, 9), (5, 15), (5, 18), (6, 9), (6, 15), (6, 19), (6, 22), (6, 25), (6, 28), (6, 31), (6, 34), (6, 37), (6, 41), (7, 7), (8, 9), (8, 15), (8, 18), (8, 21), (8, 24), (8, 28), (8, 32), (8, 35), (8, 38), (8, 41), (8, 45), (8, 48), (8, 51), (8, 54), (8, 57), (8, 60), (9, 11), (9, 17), (9, 21), (9, 25), (9, 28), (9, 34), (9, 38), (9, 57), (9, 60), (9, 74), (10, 13), (10, 17), (10, 24), (10, 31), (10, 38), (10, 44), (10, 51), (10, 55), (10, 205), (10, 260), (11, 7), (11, 13), (11, 16), (11, 19), (11, 22), (11, 25), (11, 28), (11, 31), (11, 35), (11, 38), (11, 41), (11, 44), (11, 47), (11, 50), (11, 53), (11, 57), (11, 60), (11, 63), (11, 66), (11, 70), (11, 73), (11, 76), (11, 79), (11, 82), (11, 85), (11, 88), (11, 94), (11, 122), (11, 128), (11, 135), (11, 146), (11, 153), (11, 156), (11, 259), (11, 281), (11, 295), (11, 298), (11, 321)]
def pok (c ix : Nat) : Bool := PTs.contains (c, ix)
def tyRef (t : FieldType) : Bool := match t with
  | .object _ => true
  | .array _ => true
  | _ => false
/-- a kind of objects -/
def KdP (ci : Nat) : Prop := ∃ (C : String) (T : u_T) (ty : Nat → FieldType), vwCl[ci]? = some (C, T, nf ci) ∧ (∀ w ∈ u_ws C T (nf ci), w ∈ gwl) ∧ (∀ k, k < nf ci → parseFieldDescriptor (T k).2.2.1 = some (ty k)) ∧ (∀ a, a < nf ci → ∀ b, b < nf ci → a ≠ b → (T a).2.1 ≠ (T b).2.1) ∧ (∀ j, j < nf ci → (ft ci j = 0 ∧ ty j = .int) ∨ (ft ci j = 1 ∧ ty j = .boolean) ∨ (ft ci j = 2 ∧ tyRef (ty j) = true)) ∧ Cond.instantiable C (nf ci) ∈ gwl ∧ Cond.initialized C ∈ gwl ∧ ownS ci = C
/-- a field's row, at a kind of objects -/
def FkP (c ix j b ci : Nat) : Prop := ∃ (C : String) (T : u_T), vwCl[ci]? = some (C, T, nf ci) ∧ j < nf ci ∧ ft ci j = ft b j ∧ (T j).2.2.2 = fin c ix ∧ ∃ ref : String, ((Cond.fieldLink (ownS c) ix ref (T j).2.1 (T j).2.2.1 ∈ gwl ∧ (pok c ix = true → (T j).2.2.2 = true → (T j).1 = ownS c)) ∨ (∃ host : String, Cond.fieldLinkNest (ownS c) ix ref (T j).2.1 (T j).2.2.1 host ∈ nwl ∧ (pok c ix = true → (T j).2.2.2 = false))) ∧ ((T j).1 = ref ∨ Cond.sameField ref (T j).1 (T j).2.1 (T j).2.2.1 ∈ gwl)
def FtP (r : Nat × Nat × Nat × Nat) : Prop := ∀ ci, kin r.2.2.2 ci = true → FkP r.1 r.2.1 r.2.2.1 r.2.2.2 ci
def stC (t : Nat) : String × String × String := [("FourLorries", "LEAST", "[I"), ("FourLorries", "GREATEST", "[I"), ("FourLorries$TextReader", "DIGITS", "[I"), ("FourLorries$TextReader", "LETTERS", "[C"), ("FourLorries$Outlook", "TWELVES", "[J")].getD t ("", "", "")
def StP (r : Nat × Nat × Nat) : Prop := r.2.2 < 5 ∧ (Cond.fieldLink (ownS r.1) r.2.1 (stC r.2.2).1 (stC r.2.2).2.1 (stC r.2.2).2.2 ∈ gwl ∨ ∃ host : String, Cond.fieldLinkNest (ownS r.1) r.2.1 (stC r.2.2).1 (stC r.2.2).2.1 (stC r.2.2).2.2 host ∈ nwl)
def LtP (r : Nat × Nat × Nat) : Prop := r.2.2 < 12 ∧ Cond.classLink (ownS r.1) r.2.1 (ownS r.2.2) ∈ gwl
def KtP (r : Nat × Nat × Value) : Prop := match r.2.2 with
  | .int x => Cond.constant (ownS r.1) r.2.1 x ∈ gwl
  | .long x => Cond.constantLong (ownS r.1) r.2.1 x ∈ gwl
  | _ => False
abbrev prm (d : String) (n : Nat) : Prop := (parseMethodDescriptor d).map (fun d => d.parameters.length) = some n
def DsP (c ix n ci k : Nat) : Prop := k < 999 → k < 221 ∧ ∃ x : MethodName, Cond.methodLink (ownS c) ix x ∈ gwl ∧ Cond.sameMethod x.cls RX4 x.name x.desc ∈ gwl ∧ Cond.selects (ownS ci) x (mY (mro k)) ∈ gwl ∧ Cond.instanceMethod (mY (mro k)) ∈ gwl ∧ Cond.instanceMethod ⟨RX4, x.name, x.desc⟩ ∈ gwl ∧ (∃ (b : ByteArray) (m : Nat) (r : Option FieldType), Cond.code ⟨RX4, x.name, x.desc⟩ b m r ∈ gwl) ∧ prm x.desc n
def MlP (r : Nat × Nat × Nat × Nat × Nat × Nat × Nat) : Prop := match r with
  | (c, ix, 0, n, a, _, _) => a < 221 ∧ Cond.methodLink (ownS c) ix (mY (mro a)) ∈ gwl ∧ Cond.instanceMethod (mY (mro a)) ∈ gwl ∧ Cond.selects (mY (mro a)).cls (mY (mro a)) (mY (mro a)) ∈ gwl ∧ prm (mY (mro a)).desc n ∧ mC (mro a) < 12
  | (c, ix, 2, n, a, _, _) => a < 221 ∧ Cond.methodLink (ownS c) ix (mY (mro a)) ∈ gwl ∧ Cond.static (mY (mro a)) ∈ gwl ∧ prm (mY (mro a)).desc n
  | (c, ix, 3, n, a, _, _) => a < 221 ∧ Cond.methodLink (ownS c) ix (mY (mro a)) ∈ gwl ∧ Cond.instanceMethod (mY (mro a)) ∈ gwl ∧ (mY (mro a)).name = "<init>" ∧ prm (mY (mro a)).desc n ∧ mR (mro a) = none
  | (c, ix, 4, n, a, _, _) => a < 221 ∧ (∃ host : String, Cond.methodLinkNest (ownS c) ix (mY (mro a)) host ∈ nwl) ∧ Cond.instanceMethod (mY (mro a)) ∈ gwl ∧ (mY (mro a)).name = "<init>" ∧ prm (mY (mro a)).desc n ∧ mR (mro a) = none
  | (c, ix, 5, n, a, b, d) => DsP c ix n 4 a ∧ DsP c ix n 2 b ∧ DsP c ix n 1 d
  | (c, ix, 6, n, a, _, _) => a < 221 ∧ Cond.methodLink (ownS c) ix (mY (mro a)) ∈ gwl ∧ Cond.sameMethod (mY (mro a)).cls (mY (mro a)).cls (mY (mro a)).name (mY (mro a)).desc ∈ gwl ∧ Cond.superclass (ownS c) (mY (mro a)).cls ∈ gwl ∧ Cond.instanceMethod (mY (mro a)) ∈ gwl ∧ (mY (mro a)).name ≠ "<init>" ∧ prm (mY (mro a)).desc n
  | (c, ix, 7, _, _, _, _) => Cond.methodLink (ownS c) ix objectInit ∈ gwl
  | (c, ix, 8, _, _, _, _) => Cond.methodLink (ownS c) ix arraycopyName ∈ gwl
  | (c, ix, 9, _, _, _, _) => Cond.methodLink (ownS c) ix ⟨"[I", "clone", "()Ljava/lang/Object;"⟩ ∈ gwl
  | (c, ix, 10, _, _, _, _) => Cond.methodLink (ownS c) ix Lib.Math.min.name ∈ gwl
  | _ => True
set_option maxRecDepth 20000 in
theorem kd0 : KdP 0 := ⟨RX0, TX0, tyX0, rfl, gm_ps [463, 465, 467, 469, 471] (by decide +kernel) (by decide +kernel), tyX0_ok, nmX0, (by decide +kernel), (gm 429 (by decide +kernel) rfl), (gm 82 (by decide +kernel) rfl), (by decide +kernel)⟩
set_option maxRecDepth 20000 in
theorem kd1 : KdP 1 := ⟨RX1, TX1, tyX1, rfl, gm_ps [688, 690, 692, 694, 696, 698] (by decide +kernel) (by decide +kernel), tyX1_ok, nmX1, (by decide +kernel), (gm 652 (by decide +kernel) rfl), (gm 87 (by decide +kernel) rfl), (by decide +kernel)⟩
set_option maxRecDepth 20000 in
theorem kd2 : KdP 2 := ⟨RX2, TX2, tyX2, rfl, gm_ps [704, 705, 706, 707, 708, 709] (by decide +kernel) (by decide +kernel), tyX2_ok, nmX2, (by decide +kernel), (gm 702 (by decide +kernel) rfl), (gm 86 (by decide +kernel) rfl), (by decide +kernel)⟩
set_option maxRecDepth 20000 in
theorem kd3 : KdP 3 := ⟨RX3, TX3, tyX3, rfl, gm_ps [162, 164, 166, 168, 170, 172, 174, 176, 178, 180, 182, 184, 186, 188] (by decide +kernel) (by decide +kernel), tyX3_ok, nmX3, (by decide +kernel), (gm 143 (by decide +kernel) rfl), (gm 75 (by decide +kernel) rfl), (by decide +kernel)⟩
set_option maxRecDepth 20000 in
theorem kd4 : KdP 4 := ⟨RX4, TX4, tyX4, rfl, gm_ps [713, 714, 715, 716, 717, 718] (by decide +kernel) (by decide +kernel), tyX4_ok, nmX4, (by decide +kernel), (gm 711 (by decide +kernel) rfl), (gm 85 (by decide +kernel) rfl), (by decide +kernel)⟩
set_option maxRecDepth 20000 in
theorem kd5 : KdP 5 := ⟨RX5, TX5, tyX5, rfl, gm_ps [316, 318, 320] (by decide +kernel) (by decide +kernel), tyX5_ok, nmX5, (by decide +kernel), (gm 304 (by decide +kernel) rfl), (gm 80 (by decide +kernel) rfl), (by decide +kernel)⟩
set_option maxRecDepth 20000 in
theorem kd6 : KdP 6 := ⟨RX6, TX6, tyX6, rfl, gm_ps [120, 122, 124, 126, 128, 130, 132, 134, 136, 138] (by decide +kernel) (by decide +kernel), tyX6_ok, nmX6, (by decide +kernel), (gm 100 (by decide +kernel) rfl), (gm 74 (by decide +kernel) rfl), (by decide +kernel)⟩
set_option maxRecDepth 20000 in
theorem kd7 : KdP 7 := ⟨RX7, TX7, tyX7, rfl, gm_ps [301] (by decide +kernel) (by decide +kernel), tyX7_ok, nmX7, (by decide +kernel), (gm 294 (by decide +kernel) rfl), (gm 79 (by decide +kernel) rfl), (by decide +kernel)⟩
set_option maxRecDepth 20000 in
theorem kd8 : KdP 8 := ⟨RX8, TX8, tyX8, rfl, gm_ps [227, 229, 231, 233, 235, 237, 239, 241, 243, 245, 247, 249, 251, 253, 255, 257] (by decide +kernel) (by decide +kernel), tyX8_ok, nmX8, (by decide +kernel), (gm 201 (by decide +kernel) rfl), (gm 77 (by decide +kernel) rfl), (by decide +kernel)⟩
set_option maxRecDepth 20000 in
theorem kd9 : KdP 9 := ⟨RX9, TX9, tyX9, rfl, gm_ps [276, 278, 280, 282, 284, 286, 288] (by decide +kernel) (by decide +kernel), tyX9_ok, nmX9, (by decide +kernel), (gm 193 (by decide +kernel) rfl), (gm 76 (by decide +kernel) rfl), (by decide +kernel)⟩
set_option maxRecDepth 20000 in
theorem kd10 : KdP 10 := ⟨RX10, TX10, tyX10, rfl, gm_ps [331, 333, 335, 337, 339, 341, 343, 345] (by decide +kernel) (by decide +kernel), tyX10_ok, nmX10, (by decide +kernel), (gm 90 (by decide +kernel) rfl), (gm 73 (by decide +kernel) rfl), (by decide +kernel)⟩
set_option maxRecDepth 20000 in
theorem kd11 : KdP 11 := ⟨RX11, TX11, tyX11, rfl, gm_ps [1049, 1051, 1053, 1055, 1057, 1059, 1061, 1063, 1065, 1067, 1069, 1071, 1073, 1075, 1077, 1079, 1081, 1083, 1085, 1087, 1089, 1091, 1093, 1095, 1097, 1099, 1101, 1103, 1105, 1107, 1109, 1111, 1113, 1115, 1117, 1119, 1121, 1123] (by decide +kernel) (by decide +kernel), tyX11_ok, nmX11, (by decide +kernel), (gm 1005 (by decide +kernel) rfl), (gm 81 (by decide +kernel) rfl), (by decide +kernel)⟩
theorem kds : ∀ ci, ci < 12 → KdP ci := by
  intro ci h
  match ci, h with
  | 0, _ => exact kd0
  | 1, _ => exact kd1
  | 2, _ => exact kd2
  | 3, _ => exact kd3
  | 4, _ => exact kd4
  | 5, _ => exact kd5
  | 6, _ => exact kd6
  | 7, _ => exact kd7
  | 8, _ => exact kd8
  | 9, _ => exact kd9
  | 10, _ => exact kd10
  | 11, _ => exact kd11
  | n + 12, h => exact absurd h (by omega)
theorem fk0_6 : FkP 0 9 5 6 6 := ⟨RX6, TX6, rfl, (by decide +kernel), (by decide +kernel), (by decide +kernel), "FourLorries$TextReader", Or.inr ⟨"FourLorries", nm 110 (by decide +kernel) rfl, (by decide +kernel)⟩, Or.inl (by decide +kernel)⟩
theorem ft0_ok : FtP (0, 9, 5, 6) := fun ci h => by
  rcases (show ci = 6 by unfold kin at h; simp at h; omega) with rfl
  · exact fk0_6
theorem fk1_0 : FkP 0 15 0 0 0 := ⟨RX0, TX0, rfl, (by decide +kernel), (by decide +kernel), (by decide +kernel), "FourLorries$Camp", Or.inl ⟨(gm 450 (by decide +kernel) rfl), (by decide +kernel)⟩, Or.inl (by decide +kernel)⟩
theorem ft1_ok : FtP (0, 15, 0, 0) := fun ci h => by
  rcases (show ci = 0 by unfold kin at h; simp at h; omega) with rfl
  · exact fk1_0
theorem fk2_6 : FkP 0 18 6 6 6 := ⟨RX6, TX6, rfl, (by decide +kernel), (by decide +kernel), (by decide +kernel), "FourLorries$TextReader", Or.inr ⟨"FourLorries", nm 112 (by decide +kernel) rfl, (by decide +kernel)⟩, Or.inl (by decide +kernel)⟩
theorem ft2_ok : FtP (0, 18, 6, 6) := fun ci h => by
  rcases (show ci = 6 by unfold kin at h; simp at h; omega) with rfl
  · exact fk2_6
theorem fk3_0 : FkP 0 21 1 0 0 := ⟨RX0, TX0, rfl, (by decide +kernel), (by decide +kernel), (by decide +kernel), "FourLorries$Camp", Or.inl ⟨(gm 453 (by decide +kernel) rfl), (by decide +kernel)⟩, Or.inl (by decide +kernel)⟩
theorem ft3_ok : FtP (0, 21, 1, 0) := fun ci h => by
  rcases (show ci = 0 by unfold kin at h; simp at h; omega) with rfl
  · exact fk3_0
theorem fk4_6 : FkP 0 22 7 6 6 := ⟨RX6, TX6, rfl, (by decide +kernel), (by decide +kernel), (by decide +kernel), "FourLorries$TextReader", Or.inr ⟨"FourLorries", nm 114 (by decide +kernel) rfl, (by decide +kernel)⟩, Or.inl (by decide +kernel)⟩
theorem ft4_ok : FtP (0, 22, 7, 6) := fun ci h => by
  rcases (show ci = 6 by unfold kin at h; simp at h; omega) with rfl
  · exact fk4_6
theorem fk5_0 : FkP 0 25 2 0 0 := ⟨RX0, TX0, rfl, (by decide +kernel), (by decide +kernel), (by decide +kernel), "FourLorries$Camp", Or.inl ⟨(gm 456 (by decide +kernel) rfl), (by decide +kernel)⟩, Or.inl (by decide +kernel)⟩
theorem ft5_ok : FtP (0, 25, 2, 0) := fun ci h => by
  rcases (show ci = 0 by unfold kin at h; simp at h; omega) with rfl
  · exact fk5_0
theorem fk6_6 : FkP 0 26 8 6 6 := ⟨RX6, TX6, rfl, (by decide +kernel), (by decide +kernel), (by decide +kernel), "FourLorries$TextReader", Or.inr ⟨"FourLorries", nm 116 (by decide +kernel) rfl, (by decide +kernel)⟩, Or.inl (by decide +kernel)⟩
theorem ft6_ok : FtP (0, 26, 8, 6) := fun ci h => by
  rcases (show ci = 6 by unfold kin at h; simp at h; omega) with rfl
  · exact fk6_6
theorem fk7_0 : FkP 0 36 3 0 0 := ⟨RX0, TX0, rfl, (by decide +kernel), (by decide +kernel), (by decide +kernel), "FourLorries$Camp", Or.inl ⟨(gm 459 (by decide +kernel) rfl), (by decide +kernel)⟩, Or.inl (by decide +kernel)⟩
theorem ft7_ok : FtP (0, 36, 3, 0) := fun ci h => by
  rcases (show ci = 0 by unfold kin at h; simp at h; omega) with rfl
  · exact fk7_0
theorem fk8_6 : FkP 0 37 9 6 6 := ⟨RX6, TX6, rfl, (by decide +kernel), (by decide +kernel), (by decide +kernel), "FourLorries$TextReader", Or.inr ⟨"FourLorries", nm 118 (by decide +kernel) rfl, (by decide +kernel)⟩, Or.inl (by decide +kernel)⟩
theorem ft8_ok : FtP (0, 37, 9, 6) := fun ci h => by
  rcases (show ci = 6 by unfold kin at h; simp at h; omega) with rfl
  · exact fk8_6
theorem fk9_0 : FkP 0 40 4 0 0 := ⟨RX0, TX0, rfl, (by decide +kernel), (by decide +kernel), (by decide +kernel), "FourLorries$Camp", Or.inl ⟨(gm 460 (by decide +kernel) rfl), (by decide +kernel)⟩, Or.inl (by decide +kernel)⟩
theorem ft9_ok : FtP (0, 40, 4, 0) := fun ci h => by
  rcases (show ci = 0 by unfold kin at h; simp at h; omega) with rfl
  · exact fk9_0
theorem fk10_1 : FkP 1 7 1 1 1 := ⟨RX1, TX1, rfl, (by decide +kernel), (by decide +kernel), (by decide +kernel), "FourLorries$Common", Or.inl ⟨(gm 666 (by decide +kernel) rfl), (by decide +kernel)⟩, Or.inr (gm 667 (by decide +kernel) rfl)⟩
theorem ft10_ok : FtP (1, 7, 1, 1) := fun ci h => by
  rcases (show ci = 1 by unfold kin at h; simp at h; omega) with rfl
  · exact fk10_1
theorem fk11_1 : FkP 1 13 2 1 1 := ⟨RX1, TX1, rfl, (by decide +kernel), (by decide +kernel), (by decide +kernel), "FourLorries$Common", Or.inl ⟨(gm 673 (by decide +kernel) rfl), (by decide +kernel)⟩, Or.inr (gm 674 (by decide +kernel) rfl)⟩
theorem ft11_ok : FtP (1, 13, 2, 1) := fun ci h => by
  rcases (show ci = 1 by unfold kin at h; simp at h; omega) with rfl
  · exact fk11_1
theorem fk12_2 : FkP 2 9 1 2 2 := ⟨RX2, TX2, rfl, (by decide +kernel), (by decide +kernel), (by decide +kernel), "FourLorries$Filed", Or.inl ⟨(gm 668 (by decide +kernel) rfl), (by decide +kernel)⟩, Or.inr (gm 669 (by decide +kernel) rfl)⟩
theorem fk12_1 : FkP 2 9 1 2 1 := ⟨RX1, TX1, rfl, (by decide +kernel), (by decide +kernel), (by decide +kernel), "FourLorries$Filed", Or.inl ⟨(gm 668 (by decide +kernel) rfl), (by decide +kernel)⟩, Or.inr (gm 669 (by decide +kernel) rfl)⟩
theorem ft12_ok : FtP (2, 9, 1, 2) := fun ci h => by
  rcases (show ci = 2 ∨ ci = 1 by unfold kin at h; simp at h; omega) with rfl | rfl
  · exact fk12_2
  · exact fk12_1
theorem fk13_2 : FkP 2 15 2 2 2 := ⟨RX2, TX2, rfl, (by decide +kernel), (by decide +kernel), (by decide +kernel), "FourLorries$Filed", Or.inl ⟨(gm 675 (by decide +kernel) rfl), (by decide +kernel)⟩, Or.inr (gm 676 (by decide +kernel) rfl)⟩
theorem fk13_1 : FkP 2 15 2 2 1 := ⟨RX1, TX1, rfl, (by decide +kernel), (by decide +kernel), (by decide +kernel), "FourLorries$Filed", Or.inl ⟨(gm 675 (by decide +kernel) rfl), (by decide +kernel)⟩, Or.inr (gm 676 (by decide +kernel) rfl)⟩
theorem ft13_ok : FtP (2, 15, 2, 2) := fun ci h => by
  rcases (show ci = 2 ∨ ci = 1 by unfold kin at h; simp at h; omega) with rfl | rfl
  · exact fk13_2
  · exact fk13_1
theorem fk14_3 : FkP 3 9 0 3 3 := ⟨RX3, TX3, rfl, (by decide +kernel), (by decide +kernel), (by decide +kernel), "FourLorries$Outlook", Or.inl ⟨(gm 148 (by decide +kernel) rfl), (by decide +kernel)⟩, Or.inl (by decide +kernel)⟩
theorem ft14_ok : FtP (3, 9, 0, 3) := fun ci h => by
  rcases (show ci = 3 by unfold kin at h; simp at h; omega) with rfl
  · exact fk14_3
theorem fk15_3 : FkP 3 15 1 3 3 := ⟨RX3, TX3, rfl, (by decide +kernel), (by decide +kernel), (by decide +kernel), "FourLorries$Outlook", Or.inl ⟨(gm 149 (by decide +kernel) rfl), (by decide +kernel)⟩, Or.inl (by decide +kernel)⟩
theorem ft15_ok : FtP (3, 15, 1, 3) := fun ci h => by
  rcases (show ci = 3 by unfold kin at h; simp at h; omega) with rfl
  · exact fk15_3
theorem fk16_3 : FkP 3 19 2 3 3 := ⟨RX3, TX3, rfl, (by decide +kernel), (by decide +kernel), (by decide +kernel), "FourLorries$Outlook", Or.inl ⟨(gm 150 (by decide +kernel) rfl), (by decide +kernel)⟩, Or.inl (by decide +kernel)⟩
theorem ft16_ok : FtP (3, 19, 2, 3) := fun ci h => by
  rcases (show ci = 3 by unfold kin at h; simp at h; omega) with rfl
  · exact fk16_3
theorem fk17_3 : FkP 3 22 3 3 3 := ⟨RX3, TX3, rfl, (by decide +kernel), (by decide +kernel), (by decide +kernel), "FourLorries$Outlook", Or.inl ⟨(gm 151 (by decide +kernel) rfl), (by decide +kernel)⟩, Or.inl (by decide +kernel)⟩
theorem ft17_ok : FtP (3, 22, 3, 3) := fun ci h => by
  rcases (show ci = 3 by unfold kin at h; simp at h; omega) with rfl
  · exact fk17_3
theorem fk18_3 : FkP 3 25 4 3 3 := ⟨RX3, TX3, rfl, (by decide +kernel), (by decide +kernel), (by decide +kernel), "FourLorries$Outlook", Or.inl ⟨(gm 152 (by decide +kernel) rfl), (by decide +kernel)⟩, Or.inl (by decide +kernel)⟩
theorem ft18_ok : FtP (3, 25, 4, 3) := fun ci h => by
  rcases (show ci = 3 by unfold kin at h; simp at h; omega) with rfl
  · exact fk18_3
theorem fk19_3 : FkP 3 28 5 3 3 := ⟨RX3, TX3, rfl, (by decide +kernel), (by decide +kernel), (by decide +kernel), "FourLorries$Outlook", Or.inl ⟨(gm 153 (by decide +kernel) rfl), (by decide +kernel)⟩, Or.inl (by decide +kernel)⟩
theorem ft19_ok : FtP (3, 28, 5, 3) := fun ci h => by
  rcases (show ci = 3 by unfold kin at h; simp at h; omega) with rfl
  · exact fk19_3
theorem fk20_3 : FkP 3 31 6 3 3 := ⟨RX3, TX3, rfl, (by decide +kernel), (by decide +kernel), (by decide +kernel), "FourLorries$Outlook", Or.inl ⟨(gm 154 (by decide +kernel) rfl), (by decide +kernel)⟩, Or.inl (by decide +kernel)⟩
theorem ft20_ok : FtP (3, 31, 6, 3) := fun ci h => by
  rcases (show ci = 3 by unfold kin at h; simp at h; omega) with rfl
  · exact fk20_3
theorem fk21_3 : FkP 3 35 7 3 3 := ⟨RX3, TX3, rfl, (by decide +kernel), (by decide +kernel), (by decide +kernel), "FourLorries$Outlook", Or.inl ⟨(gm 155 (by decide +kernel) rfl), (by decide +kernel)⟩, Or.inl (by decide +kernel)⟩
theorem ft21_ok : FtP (3, 35, 7, 3) := fun ci h => by
  rcases (show ci = 3 by unfold kin at h; simp at h; omega) with rfl
  · exact fk21_3
theorem fk22_3 : FkP 3 38 8 3 3 := ⟨RX3, TX3, rfl, (by decide +kernel), (by decide +kernel), (by decide +kernel), "FourLorries$Outlook", Or.inl ⟨(gm 156 (by decide +kernel) rfl), (by decide +kernel)⟩, Or.inl (by decide +kernel)⟩
theorem ft22_ok : FtP (3, 38, 8, 3) := fun ci h => by
  rcases (show ci = 3 by unfold kin at h; simp at h; omega) with rfl
  · exact fk22_3
theorem fk23_3 : FkP 3 41 9 3 3 := ⟨RX3, TX3, rfl, (by decide +kernel), (by decide +kernel), (by decide +kernel), "FourLorries$Outlook", Or.inl ⟨(gm 157 (by decide +kernel) rfl), (by decide +kernel)⟩, Or.inl (by decide +kernel)⟩
theorem ft23_ok : FtP (3, 41, 9, 3) := fun ci h => by
  rcases (show ci = 3 by unfold kin at h; simp at h; omega) with rfl
  · exact fk23_3
theorem fk24_3 : FkP 3 45 10 3 3 := ⟨RX3, TX3, rfl, (by decide +kernel), (by decide +kernel), (by decide +kernel), "FourLorries$Outlook", Or.inl ⟨(gm 158 (by decide +kernel) rfl), (by decide +kernel)⟩, Or.inl (by decide +kernel)⟩
theorem ft24_ok : FtP (3, 45, 10, 3) := fun ci h => by
  rcases (show ci = 3 by unfold kin at h; simp at h; omega) with rfl
  · exact fk24_3
theorem fk25_3 : FkP 3 48 11 3 3 := ⟨RX3, TX3, rfl, (by decide +kernel), (by decide +kernel), (by decide +kernel), "FourLorries$Outlook", Or.inl ⟨(gm 159 (by decide +kernel) rfl), (by decide +kernel)⟩, Or.inl (by decide +kernel)⟩
theorem ft25_ok : FtP (3, 48, 11, 3) := fun ci h => by
  rcases (show ci = 3 by unfold kin at h; simp at h; omega) with rfl
  · exact fk25_3
theorem fk26_3 : FkP 3 51 12 3 3 := ⟨RX3, TX3, rfl, (by decide +kernel), (by decide +kernel), (by decide +kernel), "FourLorries$Outlook", Or.inl ⟨(gm 160 (by decide +kernel) rfl), (by decide +kernel)⟩, Or.inl (by decide +kernel)⟩
theorem ft26_ok : FtP (3, 51, 12, 3) := fun ci h => by
  rcases (show ci = 3 by unfold kin at h; simp at h; omega) with rfl
  · exact fk26_3
theorem fk27_3 : FkP 3 54 13 3 3 := ⟨RX3, TX3, rfl, (by decide +kernel), (by decide +kernel), (by decide +kernel), "FourLorries$Outlook", Or.inl ⟨(gm 161 (by decide +kernel) rfl), (by decide +kernel)⟩, Or.inl (by decide +kernel)⟩
theorem ft27_ok : FtP (3, 54, 13, 3) := fun ci h => by
  rcases (show ci = 3 by unfold kin at h; simp at h; omega) with rfl
  · exact fk27_3
theorem fk28_0 : FkP 3 60 0 0 0 := ⟨RX0, TX0, rfl, (by decide +kernel), (by decide +kernel), (by decide +kernel), "FourLorries$Camp", Or.inr ⟨"FourLorries", nm 452 (by decide +kernel) rfl, (by decide +kernel)⟩, Or.inl (by decide +kernel)⟩
theorem ft28_ok : FtP (3, 60, 0, 0) := fun ci h => by
  rcases (show ci = 0 by unfold kin at h; simp at h; omega) with rfl
  · exact fk28_0
theorem fk29_0 : FkP 3 83 1 0 0 := ⟨RX0, TX0, rfl, (by decide +kernel), (by decide +kernel), (by decide +kernel), "FourLorries$Camp", Or.inr ⟨"FourLorries", nm 455 (by decide +kernel) rfl, (by decide +kernel)⟩, Or.inl (by decide +kernel)⟩
theorem ft29_ok : FtP (3, 83, 1, 0) := fun ci h => by
  rcases (show ci = 0 by unfold kin at h; simp at h; omega) with rfl
  · exact fk29_0
theorem fk30_0 : FkP 3 86 2 0 0 := ⟨RX0, TX0, rfl, (by decide +kernel), (by decide +kernel), (by decide +kernel), "FourLorries$Camp", Or.inr ⟨"FourLorries", nm 458 (by decide +kernel) rfl, (by decide +kernel)⟩, Or.inl (by decide +kernel)⟩
theorem ft30_ok : FtP (3, 86, 2, 0) := fun ci h => by
  rcases (show ci = 0 by unfold kin at h; simp at h; omega) with rfl
  · exact fk30_0
theorem fk31_0 : FkP 3 125 4 0 0 := ⟨RX0, TX0, rfl, (by decide +kernel), (by decide +kernel), (by decide +kernel), "FourLorries$Camp", Or.inr ⟨"FourLorries", nm 462 (by decide +kernel) rfl, (by decide +kernel)⟩, Or.inl (by decide +kernel)⟩
theorem ft31_ok : FtP (3, 125, 4, 0) := fun ci h => by
  rcases (show ci = 0 by unfold kin at h; simp at h; omega) with rfl
  · exact fk31_0
theorem fk32_4 : FkP 4 9 3 4 4 := ⟨RX4, TX4, rfl, (by decide +kernel), (by decide +kernel), (by decide +kernel), "FourLorries$Part", Or.inl ⟨(gm 678 (by decide +kernel) rfl), (by decide +kernel)⟩, Or.inl (by decide +kernel)⟩
theorem fk32_2 : FkP 4 9 3 4 2 := ⟨RX2, TX2, rfl, (by decide +kernel), (by decide +kernel), (by decide +kernel), "FourLorries$Part", Or.inl ⟨(gm 678 (by decide +kernel) rfl), (by decide +kernel)⟩, Or.inl (by decide +kernel)⟩
theorem fk32_1 : FkP 4 9 3 4 1 := ⟨RX1, TX1, rfl, (by decide +kernel), (by decide +kernel), (by decide +kernel), "FourLorries$Part", Or.inl ⟨(gm 678 (by decide +kernel) rfl), (by decide +kernel)⟩, Or.inl (by decide +kernel)⟩
theorem ft32_ok : FtP (4, 9, 3, 4) := fun ci h => by
  rcases (show ci = 4 ∨ ci = 2 ∨ ci = 1 by unfold kin at h; simp at h; omega) with rfl | rfl | rfl
  · exact fk32_4
  · exact fk32_2
  · exact fk32_1
theorem fk33_4 : FkP 4 15 4 4 4 := ⟨RX4, TX4, rfl, (by decide +kernel), (by decide +kernel), (by decide +kernel), "FourLorries$Part", Or.inl ⟨(gm 681 (by decide +kernel) rfl), (by decide +kernel)⟩, Or.inl (by decide +kernel)⟩
theorem fk33_2 : FkP 4 15 4 4 2 := ⟨RX2, TX2, rfl, (by decide +kernel), (by decide +kernel), (by decide +kernel), "FourLorries$Part", Or.inl ⟨(gm 681 (by decide +kernel) rfl), (by decide +kernel)⟩, Or.inl (by decide +kernel)⟩
theorem fk33_1 : FkP 4 15 4 4 1 := ⟨RX1, TX1, rfl, (by decide +kernel), (by decide +kernel), (by decide +kernel), "FourLorries$Part", Or.inl ⟨(gm 681 (by decide +kernel) rfl), (by decide +kernel)⟩, Or.inl (by decide +kernel)⟩
theorem ft33_ok : FtP (4, 15, 4, 4) := fun ci h => by
  rcases (show ci = 4 ∨ ci = 2 ∨ ci = 1 by unfold kin at h; simp at h; omega) with rfl | rfl | rfl
  · exact fk33_4
  · exact fk33_2
  · exact fk33_1
theorem fk34_4 : FkP 4 18 5 4 4 := ⟨RX4, TX4, rfl, (by decide +kernel), (by decide +kernel), (by decide +kernel), "FourLorries$Part", Or.inl ⟨(gm 684 (by decide +kernel) rfl), (by decide +kernel)⟩, Or.inl (by decide +kernel)⟩
theorem fk34_2 : FkP 4 18 5 4 2 := ⟨RX2, TX2, rfl, (by decide +kernel), (by decide +kernel), (by decide +kernel), "FourLorries$Part", Or.inl ⟨(gm 684 (by decide +kernel) rfl), (by decide +kernel)⟩, Or.inl (by decide +kernel)⟩
theorem fk34_1 : FkP 4 18 5 4 1 := ⟨RX1, TX1, rfl, (by decide +kernel), (by decide +kernel), (by decide +kernel), "FourLorries$Part", Or.inl ⟨(gm 684 (by decide +kernel) rfl), (by decide +kernel)⟩, Or.inl (by decide +kernel)⟩
theorem ft34_ok : FtP (4, 18, 5, 4) := fun ci h => by
  rcases (show ci = 4 ∨ ci = 2 ∨ ci = 1 by unfold kin at h; simp at h; omega) with rfl | rfl | rfl
  · exact fk34_4
  · exact fk34_2
  · exact fk34_1
theorem fk35_4 : FkP 4 22 0 4 4 := ⟨RX4, TX4, rfl, (by decide +kernel), (by decide +kernel), (by decide +kernel), "FourLorries$Part", Or.inl ⟨(gm 663 (by decide +kernel) rfl), (by decide +kernel)⟩, Or.inl (by decide +kernel)⟩
theorem fk35_2 : FkP 4 22 0 4 2 := ⟨RX2, TX2, rfl, (by decide +kernel), (by decide +kernel), (by decide +kernel), "FourLorries$Part", Or.inl ⟨(gm 663 (by decide +kernel) rfl), (by decide +kernel)⟩, Or.inl (by decide +kernel)⟩
theorem fk35_1 : FkP 4 22 0 4 1 := ⟨RX1, TX1, rfl, (by decide +kernel), (by decide +kernel), (by decide +kernel), "FourLorries$Part", Or.inl ⟨(gm 663 (by decide +kernel) rfl), (by decide +kernel)⟩, Or.inl (by decide +kernel)⟩
theorem ft35_ok : FtP (4, 22, 0, 4) := fun ci h => by
  rcases (show ci = 4 ∨ ci = 2 ∨ ci = 1 by unfold kin at h; simp at h; omega) with rfl | rfl | rfl
  · exact fk35_4
  · exact fk35_2
  · exact fk35_1
theorem fk36_4 : FkP 4 25 1 4 4 := ⟨RX4, TX4, rfl, (by decide +kernel), (by decide +kernel), (by decide +kernel), "FourLorries$Part", Or.inl ⟨(gm 665 (by decide +kernel) rfl), (by decide +kernel)⟩, Or.inl (by decide +kernel)⟩
theorem fk36_2 : FkP 4 25 1 4 2 := ⟨RX2, TX2, rfl, (by decide +kernel), (by decide +kernel), (by decide +kernel), "FourLorries$Part", Or.inl ⟨(gm 665 (by decide +kernel) rfl), (by decide +kernel)⟩, Or.inl (by decide +kernel)⟩
theorem fk36_1 : FkP 4 25 1 4 1 := ⟨RX1, TX1, rfl, (by decide +kernel), (by decide +kernel), (by decide +kernel), "FourLorries$Part", Or.inl ⟨(gm 665 (by decide +kernel) rfl), (by decide +kernel)⟩, Or.inl (by decide +kernel)⟩
theorem ft36_ok : FtP (4, 25, 1, 4) := fun ci h => by
  rcases (show ci = 4 ∨ ci = 2 ∨ ci = 1 by unfold kin at h; simp at h; omega) with rfl | rfl | rfl
  · exact fk36_4
  · exact fk36_2
  · exact fk36_1
theorem fk37_4 : FkP 4 28 2 4 4 := ⟨RX4, TX4, rfl, (by decide +kernel), (by decide +kernel), (by decide +kernel), "FourLorries$Part", Or.inl ⟨(gm 672 (by decide +kernel) rfl), (by decide +kernel)⟩, Or.inl (by decide +kernel)⟩
theorem fk37_2 : FkP 4 28 2 4 2 := ⟨RX2, TX2, rfl, (by decide +kernel), (by decide +kernel), (by decide +kernel), "FourLorries$Part", Or.inl ⟨(gm 672 (by decide +kernel) rfl), (by decide +kernel)⟩, Or.inl (by decide +kernel)⟩
theorem fk37_1 : FkP 4 28 2 4 1 := ⟨RX1, TX1, rfl, (by decide +kernel), (by decide +kernel), (by decide +kernel), "FourLorries$Part", Or.inl ⟨(gm 672 (by decide +kernel) rfl), (by decide +kernel)⟩, Or.inl (by decide +kernel)⟩
theorem ft37_ok : FtP (4, 28, 2, 4) := fun ci h => by
  rcases (show ci = 4 ∨ ci = 2 ∨ ci = 1 by unfold kin at h; simp at h; omega) with rfl | rfl | rfl
  · exact fk37_4
  · exact fk37_2
  · exact fk37_1
theorem fk38_5 : FkP 5 9 0 5 5 := ⟨RX5, TX5, rfl, (by decide +kernel), (by decide +kernel), (by decide +kernel), "FourLorries$Row", Or.inl ⟨(gm 309 (by decide +kernel) rfl), (by decide +kernel)⟩, Or.inl (by decide +kernel)⟩
theorem ft38_ok : FtP (5, 9, 0, 5) := fun ci h => by
  rcases (show ci = 5 by unfold kin at h; simp at h; omega) with rfl
  · exact fk38_5
theorem fk39_5 : FkP 5 15 1 5 5 := ⟨RX5, TX5, rfl, (by decide +kernel), (by decide +kernel), (by decide +kernel), "FourLorries$Row", Or.inl ⟨(gm 311 (by decide +kernel) rfl), (by decide +kernel)⟩, Or.inl (by decide +kernel)⟩
theorem ft39_ok : FtP (5, 15, 1, 5) := fun ci h => by
  rcases (show ci = 5 by unfold kin at h; simp at h; omega) with rfl
  · exact fk39_5
theorem fk40_5 : FkP 5 18 2 5 5 := ⟨RX5, TX5, rfl, (by decide +kernel), (by decide +kernel), (by decide +kernel), "FourLorries$Row", Or.inl ⟨(gm 312 (by decide +kernel) rfl), (by decide +kernel)⟩, Or.inl (by decide +kernel)⟩
theorem ft40_ok : FtP (5, 18, 2, 5) := fun ci h => by
  rcases (show ci = 5 by unfold kin at h; simp at h; omega) with rfl
  · exact fk40_5
theorem fk41_6 : FkP 6 9 0 6 6 := ⟨RX6, TX6, rfl, (by decide +kernel), (by decide +kernel), (by decide +kernel), "FourLorries$TextReader", Or.inl ⟨(gm 105 (by decide +kernel) rfl), (by decide +kernel)⟩, Or.inl (by decide +kernel)⟩
theorem ft41_ok : FtP (6, 9, 0, 6) := fun ci h => by
  rcases (show ci = 6 by unfold kin at h; simp at h; omega) with rfl
  · exact fk41_6
theorem fk42_6 : FkP 6 15 1 6 6 := ⟨RX6, TX6, rfl, (by decide +kernel), (by decide +kernel), (by decide +kernel), "FourLorries$TextReader", Or.inl ⟨(gm 106 (by decide +kernel) rfl), (by decide +kernel)⟩, Or.inl (by decide +kernel)⟩
theorem ft42_ok : FtP (6, 15, 1, 6) := fun ci h => by
  rcases (show ci = 6 by unfold kin at h; simp at h; omega) with rfl
  · exact fk42_6
theorem fk43_6 : FkP 6 19 2 6 6 := ⟨RX6, TX6, rfl, (by decide +kernel), (by decide +kernel), (by decide +kernel), "FourLorries$TextReader", Or.inl ⟨(gm 107 (by decide +kernel) rfl), (by decide +kernel)⟩, Or.inl (by decide +kernel)⟩
theorem ft43_ok : FtP (6, 19, 2, 6) := fun ci h => by
  rcases (show ci = 6 by unfold kin at h; simp at h; omega) with rfl
  · exact fk43_6
theorem fk44_6 : FkP 6 22 3 6 6 := ⟨RX6, TX6, rfl, (by decide +kernel), (by decide +kernel), (by decide +kernel), "FourLorries$TextReader", Or.inl ⟨(gm 108 (by decide +kernel) rfl), (by decide +kernel)⟩, Or.inl (by decide +kernel)⟩
theorem ft44_ok : FtP (6, 22, 3, 6) := fun ci h => by
  rcases (show ci = 6 by unfold kin at h; simp at h; omega) with rfl
  · exact fk44_6
theorem fk45_6 : FkP 6 25 4 6 6 := ⟨RX6, TX6, rfl, (by decide +kernel), (by decide +kernel), (by decide +kernel), "FourLorries$TextReader", Or.inl ⟨(gm 109 (by decide +kernel) rfl), (by decide +kernel)⟩, Or.inl (by decide +kernel)⟩
theorem ft45_ok : FtP (6, 25, 4, 6) := fun ci h => by
  rcases (show ci = 6 by unfold kin at h; simp at h; omega) with rfl
  · exact fk45_6
theorem fk46_6 : FkP 6 28 5 6 6 := ⟨RX6, TX6, rfl, (by decide +kernel), (by decide +kernel), (by decide +kernel), "FourLorries$TextReader", Or.inl ⟨(gm 111 (by decide +kernel) rfl), (by decide +kernel)⟩, Or.inl (by decide +kernel)⟩
theorem ft46_ok : FtP (6, 28, 5, 6) := fun ci h => by
  rcases (show ci = 6 by unfold kin at h; simp at h; omega) with rfl
  · exact fk46_6
theorem fk47_6 : FkP 6 31 6 6 6 := ⟨RX6, TX6, rfl, (by decide +kernel), (by decide +kernel), (by decide +kernel), "FourLorries$TextReader", Or.inl ⟨(gm 113 (by decide +kernel) rfl), (by decide +kernel)⟩, Or.inl (by decide +kernel)⟩
theorem ft47_ok : FtP (6, 31, 6, 6) := fun ci h => by
  rcases (show ci = 6 by unfold kin at h; simp at h; omega) with rfl
  · exact fk47_6
theorem fk48_6 : FkP 6 34 7 6 6 := ⟨RX6, TX6, rfl, (by decide +kernel), (by decide +kernel), (by decide +kernel), "FourLorries$TextReader", Or.inl ⟨(gm 115 (by decide +kernel) rfl), (by decide +kernel)⟩, Or.inl (by decide +kernel)⟩
theorem ft48_ok : FtP (6, 34, 7, 6) := fun ci h => by
  rcases (show ci = 6 by unfold kin at h; simp at h; omega) with rfl
  · exact fk48_6
theorem fk49_6 : FkP 6 37 8 6 6 := ⟨RX6, TX6, rfl, (by decide +kernel), (by decide +kernel), (by decide +kernel), "FourLorries$TextReader", Or.inl ⟨(gm 117 (by decide +kernel) rfl), (by decide +kernel)⟩, Or.inl (by decide +kernel)⟩
theorem ft49_ok : FtP (6, 37, 8, 6) := fun ci h => by
  rcases (show ci = 6 by unfold kin at h; simp at h; omega) with rfl
  · exact fk49_6
theorem fk50_6 : FkP 6 41 9 6 6 := ⟨RX6, TX6, rfl, (by decide +kernel), (by decide +kernel), (by decide +kernel), "FourLorries$TextReader", Or.inl ⟨(gm 119 (by decide +kernel) rfl), (by decide +kernel)⟩, Or.inl (by decide +kernel)⟩
theorem ft50_ok : FtP (6, 41, 9, 6) := fun ci h => by
  rcases (show ci = 6 by unfold kin at h; simp at h; omega) with rfl
  · exact fk50_6
theorem fk51_5 : FkP 6 89 2 5 5 := ⟨RX5, TX5, rfl, (by decide +kernel), (by decide +kernel), (by decide +kernel), "FourLorries$Row", Or.inr ⟨"FourLorries", nm 313 (by decide +kernel) rfl, (by decide +kernel)⟩, Or.inl (by decide +kernel)⟩
theorem ft51_ok : FtP (6, 89, 2, 5) := fun ci h => by
  rcases (show ci = 5 by unfold kin at h; simp at h; omega) with rfl
  · exact fk51_5
theorem fk52_7 : FkP 7 7 0 7 7 := ⟨RX7, TX7, rfl, (by decide +kernel), (by decide +kernel), (by decide +kernel), "FourLorries$Trace", Or.inl ⟨(gm 299 (by decide +kernel) rfl), (by decide +kernel)⟩, Or.inl (by decide +kernel)⟩
theorem ft52_ok : FtP (7, 7, 0, 7) := fun ci h => by
  rcases (show ci = 7 by unfold kin at h; simp at h; omega) with rfl
  · exact fk52_7
theorem fk53_8 : FkP 8 9 0 8 8 := ⟨RX8, TX8, rfl, (by decide +kernel), (by decide +kernel), (by decide +kernel), "FourLorries$Way", Or.inl ⟨(gm 206 (by decide +kernel) rfl), (by decide +kernel)⟩, Or.inl (by decide +kernel)⟩
theorem ft53_ok : FtP (8, 9, 0, 8) := fun ci h => by
  rcases (show ci = 8 by unfold kin at h; simp at h; omega) with rfl
  · exact fk53_8
theorem fk54_8 : FkP 8 15 1 8 8 := ⟨RX8, TX8, rfl, (by decide +kernel), (by decide +kernel), (by decide +kernel), "FourLorries$Way", Or.inl ⟨(gm 208 (by decide +kernel) rfl), (by decide +kernel)⟩, Or.inl (by decide +kernel)⟩
theorem ft54_ok : FtP (8, 15, 1, 8) := fun ci h => by
  rcases (show ci = 8 by unfold kin at h; simp at h; omega) with rfl
  · exact fk54_8
theorem fk55_8 : FkP 8 18 2 8 8 := ⟨RX8, TX8, rfl, (by decide +kernel), (by decide +kernel), (by decide +kernel), "FourLorries$Way", Or.inl ⟨(gm 210 (by decide +kernel) rfl), (by decide +kernel)⟩, Or.inl (by decide +kernel)⟩
theorem ft55_ok : FtP (8, 18, 2, 8) := fun ci h => by
  rcases (show ci = 8 by unfold kin at h; simp at h; omega) with rfl
  · exact fk55_8
theorem fk56_8 : FkP 8 21 3 8 8 := ⟨RX8, TX8, rfl, (by decide +kernel), (by decide +kernel), (by decide +kernel), "FourLorries$Way", Or.inl ⟨(gm 212 (by decide +kernel) rfl), (by decide +kernel)⟩, Or.inl (by decide +kernel)⟩
theorem ft56_ok : FtP (8, 21, 3, 8) := fun ci h => by
  rcases (show ci = 8 by unfold kin at h; simp at h; omega) with rfl
  · exact fk56_8
theorem fk57_8 : FkP 8 24 4 8 8 := ⟨RX8, TX8, rfl, (by decide +kernel), (by decide +kernel), (by decide +kernel), "FourLorries$Way", Or.inl ⟨(gm 214 (by decide +kernel) rfl), (by decide +kernel)⟩, Or.inl (by decide +kernel)⟩
theorem ft57_ok : FtP (8, 24, 4, 8) := fun ci h => by
  rcases (show ci = 8 by unfold kin at h; simp at h; omega) with rfl
  · exact fk57_8
theorem fk58_8 : FkP 8 28 5 8 8 := ⟨RX8, TX8, rfl, (by decide +kernel), (by decide +kernel), (by decide +kernel), "FourLorries$Way", Or.inl ⟨(gm 216 (by decide +kernel) rfl), (by decide +kernel)⟩, Or.inl (by decide +kernel)⟩
theorem ft58_ok : FtP (8, 28, 5, 8) := fun ci h => by
  rcases (show ci = 8 by unfold kin at h; simp at h; omega) with rfl
  · exact fk58_8
theorem fk59_8 : FkP 8 32 6 8 8 := ⟨RX8, TX8, rfl, (by decide +kernel), (by decide +kernel), (by decide +kernel), "FourLorries$Way", Or.inl ⟨(gm 217 (by decide +kernel) rfl), (by decide +kernel)⟩, Or.inl (by decide +kernel)⟩
theorem ft59_ok : FtP (8, 32, 6, 8) := fun ci h => by
  rcases (show ci = 8 by unfold kin at h; simp at h; omega) with rfl
  · exact fk59_8
theorem fk60_8 : FkP 8 35 7 8 8 := ⟨RX8, TX8, rfl, (by decide +kernel), (by decide +kernel), (by decide +kernel), "FourLorries$Way", Or.inl ⟨(gm 218 (by decide +kernel) rfl), (by decide +kernel)⟩, Or.inl (by decide +kernel)⟩
theorem ft60_ok : FtP (8, 35, 7, 8) := fun ci h => by
  rcases (show ci = 8 by unfold kin at h; simp at h; omega) with rfl
  · exact fk60_8
theorem fk61_8 : FkP 8 38 8 8 8 := ⟨RX8, TX8, rfl, (by decide +kernel), (by decide +kernel), (by decide +kernel), "FourLorries$Way", Or.inl ⟨(gm 219 (by decide +kernel) rfl), (by decide +kernel)⟩, Or.inl (by decide +kernel)⟩
theorem ft61_ok : FtP (8, 38, 8, 8) := fun ci h => by
  rcases (show ci = 8 by unfold kin at h; simp at h; omega) with rfl
  · exact fk61_8
theorem fk62_8 : FkP 8 41 9 8 8 := ⟨RX8, TX8, rfl, (by decide +kernel), (by decide +kernel), (by decide +kernel), "FourLorries$Way", Or.inl ⟨(gm 220 (by decide +kernel) rfl), (by decide +kernel)⟩, Or.inl (by decide +kernel)⟩
theorem ft62_ok : FtP (8, 41, 9, 8) := fun ci h => by
  rcases (show ci = 8 by unfold kin at h; simp at h; omega) with rfl
  · exact fk62_8
theorem fk63_8 : FkP 8 45 10 8 8 := ⟨RX8, TX8, rfl, (by decide +kernel), (by decide +kernel), (by decide +kernel), "FourLorries$Way", Or.inl ⟨(gm 221 (by decide +kernel) rfl), (by decide +kernel)⟩, Or.inl (by decide +kernel)⟩
theorem ft63_ok : FtP (8, 45, 10, 8) := fun ci h => by
  rcases (show ci = 8 by unfold kin at h; simp at h; omega) with rfl
  · exact fk63_8
theorem fk64_8 : FkP 8 48 11 8 8 := ⟨RX8, TX8, rfl, (by decide +kernel), (by decide +kernel), (by decide +kernel), "FourLorries$Way", Or.inl ⟨(gm 222 (by decide +kernel) rfl), (by decide +kernel)⟩, Or.inl (by decide +kernel)⟩
theorem ft64_ok : FtP (8, 48, 11, 8) := fun ci h => by
  rcases (show ci = 8 by unfold kin at h; simp at h; omega) with rfl
  · exact fk64_8
theorem fk65_8 : FkP 8 51 12 8 8 := ⟨RX8, TX8, rfl, (by decide +kernel), (by decide +kernel), (by decide +kernel), "FourLorries$Way", Or.inl ⟨(gm 223 (by decide +kernel) rfl), (by decide +kernel)⟩, Or.inl (by decide +kernel)⟩
theorem ft65_ok : FtP (8, 51, 12, 8) := fun ci h => by
  rcases (show ci = 8 by unfold kin at h; simp at h; omega) with rfl
  · exact fk65_8
theorem fk66_8 : FkP 8 54 13 8 8 := ⟨RX8, TX8, rfl, (by decide +kernel), (by decide +kernel), (by decide +kernel), "FourLorries$Way", Or.inl ⟨(gm 224 (by decide +kernel) rfl), (by decide +kernel)⟩, Or.inl (by decide +kernel)⟩
theorem ft66_ok : FtP (8, 54, 13, 8) := fun ci h => by
  rcases (show ci = 8 by unfold kin at h; simp at h; omega) with rfl
  · exact fk66_8
theorem fk67_8 : FkP 8 57 14 8 8 := ⟨RX8, TX8, rfl, (by decide +kernel), (by decide +kernel), (by decide +kernel), "FourLorries$Way", Or.inl ⟨(gm 225 (by decide +kernel) rfl), (by decide +kernel)⟩, Or.inl (by decide +kernel)⟩
theorem ft67_ok : FtP (8, 57, 14, 8) := fun ci h => by
  rcases (show ci = 8 by unfold kin at h; simp at h; omega) with rfl
  · exact fk67_8
theorem fk68_8 : FkP 8 60 15 8 8 := ⟨RX8, TX8, rfl, (by decide +kernel), (by decide +kernel), (by decide +kernel), "FourLorries$Way", Or.inl ⟨(gm 226 (by decide +kernel) rfl), (by decide +kernel)⟩, Or.inl (by decide +kernel)⟩
theorem ft68_ok : FtP (8, 60, 15, 8) := fun ci h => by
  rcases (show ci = 8 by unfold kin at h; simp at h; omega) with rfl
  · exact fk68_8
theorem fk69_4 : FkP 8 132 5 4 4 := ⟨RX4, TX4, rfl, (by decide +kernel), (by decide +kernel), (by decide +kernel), "FourLorries$Part", Or.inl ⟨(gm 686 (by decide +kernel) rfl), (by decide +kernel)⟩, Or.inl (by decide +kernel)⟩
theorem fk69_2 : FkP 8 132 5 4 2 := ⟨RX2, TX2, rfl, (by decide +kernel), (by decide +kernel), (by decide +kernel), "FourLorries$Part", Or.inl ⟨(gm 686 (by decide +kernel) rfl), (by decide +kernel)⟩, Or.inl (by decide +kernel)⟩
theorem fk69_1 : FkP 8 132 5 4 1 := ⟨RX1, TX1, rfl, (by decide +kernel), (by decide +kernel), (by decide +kernel), "FourLorries$Part", Or.inl ⟨(gm 686 (by decide +kernel) rfl), (by decide +kernel)⟩, Or.inl (by decide +kernel)⟩
theorem ft69_ok : FtP (8, 132, 5, 4) := fun ci h => by
  rcases (show ci = 4 ∨ ci = 2 ∨ ci = 1 by unfold kin at h; simp at h; omega) with rfl | rfl | rfl
  · exact fk69_4
  · exact fk69_2
  · exact fk69_1
theorem fk70_9 : FkP 9 11 0 9 9 := ⟨RX9, TX9, rfl, (by decide +kernel), (by decide +kernel), (by decide +kernel), "FourLorries$Yard", Or.inl ⟨(gm 264 (by decide +kernel) rfl), (by decide +kernel)⟩, Or.inl (by decide +kernel)⟩
theorem ft70_ok : FtP (9, 11, 0, 9) := fun ci h => by
  rcases (show ci = 9 by unfold kin at h; simp at h; omega) with rfl
  · exact fk70_9
theorem fk71_9 : FkP 9 17 1 9 9 := ⟨RX9, TX9, rfl, (by decide +kernel), (by decide +kernel), (by decide +kernel), "FourLorries$Yard", Or.inl ⟨(gm 266 (by decide +kernel) rfl), (by decide +kernel)⟩, Or.inl (by decide +kernel)⟩
theorem ft71_ok : FtP (9, 17, 1, 9) := fun ci h => by
  rcases (show ci = 9 by unfold kin at h; simp at h; omega) with rfl
  · exact fk71_9
theorem fk72_9 : FkP 9 21 2 9 9 := ⟨RX9, TX9, rfl, (by decide +kernel), (by decide +kernel), (by decide +kernel), "FourLorries$Yard", Or.inl ⟨(gm 268 (by decide +kernel) rfl), (by decide +kernel)⟩, Or.inl (by decide +kernel)⟩
theorem ft72_ok : FtP (9, 21, 2, 9) := fun ci h => by
  rcases (show ci = 9 by unfold kin at h; simp at h; omega) with rfl
  · exact fk72_9
theorem fk73_9 : FkP 9 25 3 9 9 := ⟨RX9, TX9, rfl, (by decide +kernel), (by decide +kernel), (by decide +kernel), "FourLorries$Yard", Or.inl ⟨(gm 270 (by decide +kernel) rfl), (by decide +kernel)⟩, Or.inl (by decide +kernel)⟩
theorem ft73_ok : FtP (9, 25, 3, 9) := fun ci h => by
  rcases (show ci = 9 by unfold kin at h; simp at h; omega) with rfl
  · exact fk73_9
theorem fk74_9 : FkP 9 28 4 9 9 := ⟨RX9, TX9, rfl, (by decide +kernel), (by decide +kernel), (by decide +kernel), "FourLorries$Yard", Or.inl ⟨(gm 272 (by decide +kernel) rfl), (by decide +kernel)⟩, Or.inl (by decide +kernel)⟩
theorem ft74_ok : FtP (9, 28, 4, 9) := fun ci h => by
  rcases (show ci = 9 by unfold kin at h; simp at h; omega) with rfl
  · exact fk74_9
theorem fk75_9 : FkP 9 34 5 9 9 := ⟨RX9, TX9, rfl, (by decide +kernel), (by decide +kernel), (by decide +kernel), "FourLorries$Yard", Or.inl ⟨(gm 274 (by decide +kernel) rfl), (by decide +kernel)⟩, Or.inl (by decide +kernel)⟩
theorem ft75_ok : FtP (9, 34, 5, 9) := fun ci h => by
  rcases (show ci = 9 by unfold kin at h; simp at h; omega) with rfl
  · exact fk75_9
theorem fk76_9 : FkP 9 38 6 9 9 := ⟨RX9, TX9, rfl, (by decide +kernel), (by decide +kernel), (by decide +kernel), "FourLorries$Yard", Or.inl ⟨(gm 275 (by decide +kernel) rfl), (by decide +kernel)⟩, Or.inl (by decide +kernel)⟩
theorem ft76_ok : FtP (9, 38, 6, 9) := fun ci h => by
  rcases (show ci = 9 by unfold kin at h; simp at h; omega) with rfl
  · exact fk76_9
theorem fk77_4 : FkP 9 57 4 4 4 := ⟨RX4, TX4, rfl, (by decide +kernel), (by decide +kernel), (by decide +kernel), "FourLorries$Part", Or.inl ⟨(gm 682 (by decide +kernel) rfl), (by decide +kernel)⟩, Or.inl (by decide +kernel)⟩
theorem fk77_2 : FkP 9 57 4 4 2 := ⟨RX2, TX2, rfl, (by decide +kernel), (by decide +kernel), (by decide +kernel), "FourLorries$Part", Or.inl ⟨(gm 682 (by decide +kernel) rfl), (by decide +kernel)⟩, Or.inl (by decide +kernel)⟩
theorem fk77_1 : FkP 9 57 4 4 1 := ⟨RX1, TX1, rfl, (by decide +kernel), (by decide +kernel), (by decide +kernel), "FourLorries$Part", Or.inl ⟨(gm 682 (by decide +kernel) rfl), (by decide +kernel)⟩, Or.inl (by decide +kernel)⟩
theorem ft77_ok : FtP (9, 57, 4, 4) := fun ci h => by
  rcases (show ci = 4 ∨ ci = 2 ∨ ci = 1 by unfold kin at h; simp at h; omega) with rfl | rfl | rfl
  · exact fk77_4
  · exact fk77_2
  · exact fk77_1
theorem fk78_4 : FkP 9 60 5 4 4 := ⟨RX4, TX4, rfl, (by decide +kernel), (by decide +kernel), (by decide +kernel), "FourLorries$Part", Or.inl ⟨(gm 685 (by decide +kernel) rfl), (by decide +kernel)⟩, Or.inl (by decide +kernel)⟩
theorem fk78_2 : FkP 9 60 5 4 2 := ⟨RX2, TX2, rfl, (by decide +kernel), (by decide +kernel), (by decide +kernel), "FourLorries$Part", Or.inl ⟨(gm 685 (by decide +kernel) rfl), (by decide +kernel)⟩, Or.inl (by decide +kernel)⟩
theorem fk78_1 : FkP 9 60 5 4 1 := ⟨RX1, TX1, rfl, (by decide +kernel), (by decide +kernel), (by decide +kernel), "FourLorries$Part", Or.inl ⟨(gm 685 (by decide +kernel) rfl), (by decide +kernel)⟩, Or.inl (by decide +kernel)⟩
theorem ft78_ok : FtP (9, 60, 5, 4) := fun ci h => by
  rcases (show ci = 4 ∨ ci = 2 ∨ ci = 1 by unfold kin at h; simp at h; omega) with rfl | rfl | rfl
  · exact fk78_4
  · exact fk78_2
  · exact fk78_1
theorem fk79_4 : FkP 9 71 0 4 4 := ⟨RX4, TX4, rfl, (by decide +kernel), (by decide +kernel), (by decide +kernel), "FourLorries$Part", Or.inl ⟨(gm 664 (by decide +kernel) rfl), (by decide +kernel)⟩, Or.inl (by decide +kernel)⟩
theorem fk79_2 : FkP 9 71 0 4 2 := ⟨RX2, TX2, rfl, (by decide +kernel), (by decide +kernel), (by decide +kernel), "FourLorries$Part", Or.inl ⟨(gm 664 (by decide +kernel) rfl), (by decide +kernel)⟩, Or.inl (by decide +kernel)⟩
theorem fk79_1 : FkP 9 71 0 4 1 := ⟨RX1, TX1, rfl, (by decide +kernel), (by decide +kernel), (by decide +kernel), "FourLorries$Part", Or.inl ⟨(gm 664 (by decide +kernel) rfl), (by decide +kernel)⟩, Or.inl (by decide +kernel)⟩
theorem ft79_ok : FtP (9, 71, 0, 4) := fun ci h => by
  rcases (show ci = 4 ∨ ci = 2 ∨ ci = 1 by unfold kin at h; simp at h; omega) with rfl | rfl | rfl
  · exact fk79_4
  · exact fk79_2
  · exact fk79_1
theorem fk80_4 : FkP 9 74 3 4 4 := ⟨RX4, TX4, rfl, (by decide +kernel), (by decide +kernel), (by decide +kernel), "FourLorries$Part", Or.inl ⟨(gm 679 (by decide +kernel) rfl), (by decide +kernel)⟩, Or.inl (by decide +kernel)⟩
theorem fk80_2 : FkP 9 74 3 4 2 := ⟨RX2, TX2, rfl, (by decide +kernel), (by decide +kernel), (by decide +kernel), "FourLorries$Part", Or.inl ⟨(gm 679 (by decide +kernel) rfl), (by decide +kernel)⟩, Or.inl (by decide +kernel)⟩
theorem fk80_1 : FkP 9 74 3 4 1 := ⟨RX1, TX1, rfl, (by decide +kernel), (by decide +kernel), (by decide +kernel), "FourLorries$Part", Or.inl ⟨(gm 679 (by decide +kernel) rfl), (by decide +kernel)⟩, Or.inl (by decide +kernel)⟩
theorem ft80_ok : FtP (9, 74, 3, 4) := fun ci h => by
  rcases (show ci = 4 ∨ ci = 2 ∨ ci = 1 by unfold kin at h; simp at h; omega) with rfl | rfl | rfl
  · exact fk80_4
  · exact fk80_2
  · exact fk80_1
theorem fk81_5 : FkP 9 85 2 5 5 := ⟨RX5, TX5, rfl, (by decide +kernel), (by decide +kernel), (by decide +kernel), "FourLorries$Row", Or.inr ⟨"FourLorries", nm 314 (by decide +kernel) rfl, (by decide +kernel)⟩, Or.inl (by decide +kernel)⟩
theorem ft81_ok : FtP (9, 85, 2, 5) := fun ci h => by
  rcases (show ci = 5 by unfold kin at h; simp at h; omega) with rfl
  · exact fk81_5
theorem fk82_4 : FkP 9 90 1 4 4 := ⟨RX4, TX4, rfl, (by decide +kernel), (by decide +kernel), (by decide +kernel), "FourLorries$Part", Or.inl ⟨(gm 670 (by decide +kernel) rfl), (by decide +kernel)⟩, Or.inl (by decide +kernel)⟩
theorem fk82_2 : FkP 9 90 1 4 2 := ⟨RX2, TX2, rfl, (by decide +kernel), (by decide +kernel), (by decide +kernel), "FourLorries$Part", Or.inl ⟨(gm 670 (by decide +kernel) rfl), (by decide +kernel)⟩, Or.inl (by decide +kernel)⟩
theorem fk82_1 : FkP 9 90 1 4 1 := ⟨RX1, TX1, rfl, (by decide +kernel), (by decide +kernel), (by decide +kernel), "FourLorries$Part", Or.inl ⟨(gm 670 (by decide +kernel) rfl), (by decide +kernel)⟩, Or.inl (by decide +kernel)⟩
theorem ft82_ok : FtP (9, 90, 1, 4) := fun ci h => by
  rcases (show ci = 4 ∨ ci = 2 ∨ ci = 1 by unfold kin at h; simp at h; omega) with rfl | rfl | rfl
  · exact fk82_4
  · exact fk82_2
  · exact fk82_1
theorem fk83_10 : FkP 10 13 0 10 10 := ⟨RX10, TX10, rfl, (by decide +kernel), (by decide +kernel), (by decide +kernel), "FourLorries", Or.inl ⟨(gm 323 (by decide +kernel) rfl), (by decide +kernel)⟩, Or.inl (by decide +kernel)⟩
theorem ft83_ok : FtP (10, 13, 0, 10) := fun ci h => by
  rcases (show ci = 10 by unfold kin at h; simp at h; omega) with rfl
  · exact fk83_10
theorem fk84_10 : FkP 10 17 1 10 10 := ⟨RX10, TX10, rfl, (by decide +kernel), (by decide +kernel), (by decide +kernel), "FourLorries", Or.inl ⟨(gm 324 (by decide +kernel) rfl), (by decide +kernel)⟩, Or.inl (by decide +kernel)⟩
theorem ft84_ok : FtP (10, 17, 1, 10) := fun ci h => by
  rcases (show ci = 10 by unfold kin at h; simp at h; omega) with rfl
  · exact fk84_10
theorem fk85_10 : FkP 10 24 2 10 10 := ⟨RX10, TX10, rfl, (by decide +kernel), (by decide +kernel), (by decide +kernel), "FourLorries", Or.inl ⟨(gm 325 (by decide +kernel) rfl), (by decide +kernel)⟩, Or.inl (by decide +kernel)⟩
theorem ft85_ok : FtP (10, 24, 2, 10) := fun ci h => by
  rcases (show ci = 10 by unfold kin at h; simp at h; omega) with rfl
  · exact fk85_10
theorem fk86_10 : FkP 10 31 3 10 10 := ⟨RX10, TX10, rfl, (by decide +kernel), (by decide +kernel), (by decide +kernel), "FourLorries", Or.inl ⟨(gm 326 (by decide +kernel) rfl), (by decide +kernel)⟩, Or.inl (by decide +kernel)⟩
theorem ft86_ok : FtP (10, 31, 3, 10) := fun ci h => by
  rcases (show ci = 10 by unfold kin at h; simp at h; omega) with rfl
  · exact fk86_10
theorem fk87_10 : FkP 10 38 4 10 10 := ⟨RX10, TX10, rfl, (by decide +kernel), (by decide +kernel), (by decide +kernel), "FourLorries", Or.inl ⟨(gm 327 (by decide +kernel) rfl), (by decide +kernel)⟩, Or.inl (by decide +kernel)⟩
theorem ft87_ok : FtP (10, 38, 4, 10) := fun ci h => by
  rcases (show ci = 10 by unfold kin at h; simp at h; omega) with rfl
  · exact fk87_10
theorem fk88_10 : FkP 10 44 5 10 10 := ⟨RX10, TX10, rfl, (by decide +kernel), (by decide +kernel), (by decide +kernel), "FourLorries", Or.inl ⟨(gm 328 (by decide +kernel) rfl), (by decide +kernel)⟩, Or.inl (by decide +kernel)⟩
theorem ft88_ok : FtP (10, 44, 5, 10) := fun ci h => by
  rcases (show ci = 10 by unfold kin at h; simp at h; omega) with rfl
  · exact fk88_10
theorem fk89_10 : FkP 10 51 6 10 10 := ⟨RX10, TX10, rfl, (by decide +kernel), (by decide +kernel), (by decide +kernel), "FourLorries", Or.inl ⟨(gm 329 (by decide +kernel) rfl), (by decide +kernel)⟩, Or.inl (by decide +kernel)⟩
theorem ft89_ok : FtP (10, 51, 6, 10) := fun ci h => by
  rcases (show ci = 10 by unfold kin at h; simp at h; omega) with rfl
  · exact fk89_10
theorem fk90_10 : FkP 10 55 7 10 10 := ⟨RX10, TX10, rfl, (by decide +kernel), (by decide +kernel), (by decide +kernel), "FourLorries", Or.inl ⟨(gm 330 (by decide +kernel) rfl), (by decide +kernel)⟩, Or.inl (by decide +kernel)⟩
theorem ft90_ok : FtP (10, 55, 7, 10) := fun ci h => by
  rcases (show ci = 10 by unfold kin at h; simp at h; omega) with rfl
  · exact fk90_10
theorem fk91_0 : FkP 10 74 0 0 0 := ⟨RX0, TX0, rfl, (by decide +kernel), (by decide +kernel), (by decide +kernel), "FourLorries$Camp", Or.inr ⟨"FourLorries", nm 451 (by decide +kernel) rfl, (by decide +kernel)⟩, Or.inl (by decide +kernel)⟩
theorem ft91_ok : FtP (10, 74, 0, 0) := fun ci h => by
  rcases (show ci = 0 by unfold kin at h; simp at h; omega) with rfl
  · exact fk91_0
theorem fk92_0 : FkP 10 77 4 0 0 := ⟨RX0, TX0, rfl, (by decide +kernel), (by decide +kernel), (by decide +kernel), "FourLorries$Camp", Or.inr ⟨"FourLorries", nm 461 (by decide +kernel) rfl, (by decide +kernel)⟩, Or.inl (by decide +kernel)⟩
theorem ft92_ok : FtP (10, 77, 4, 0) := fun ci h => by
  rcases (show ci = 0 by unfold kin at h; simp at h; omega) with rfl
  · exact fk92_0
theorem fk93_0 : FkP 10 81 1 0 0 := ⟨RX0, TX0, rfl, (by decide +kernel), (by decide +kernel), (by decide +kernel), "FourLorries$Camp", Or.inr ⟨"FourLorries", nm 454 (by decide +kernel) rfl, (by decide +kernel)⟩, Or.inl (by decide +kernel)⟩
theorem ft93_ok : FtP (10, 81, 1, 0) := fun ci h => by
  rcases (show ci = 0 by unfold kin at h; simp at h; omega) with rfl
  · exact fk93_0
theorem fk94_0 : FkP 10 84 2 0 0 := ⟨RX0, TX0, rfl, (by decide +kernel), (by decide +kernel), (by decide +kernel), "FourLorries$Camp", Or.inr ⟨"FourLorries", nm 457 (by decide +kernel) rfl, (by decide +kernel)⟩, Or.inl (by decide +kernel)⟩
theorem ft94_ok : FtP (10, 84, 2, 0) := fun ci h => by
  rcases (show ci = 0 by unfold kin at h; simp at h; omega) with rfl
  · exact fk94_0
theorem fk95_9 : FkP 10 160 0 9 9 := ⟨RX9, TX9, rfl, (by decide +kernel), (by decide +kernel), (by decide +kernel), "FourLorries$Yard", Or.inr ⟨"FourLorries", nm 265 (by decide +kernel) rfl, (by decide +kernel)⟩, Or.inl (by decide +kernel)⟩
theorem ft95_ok : FtP (10, 160, 0, 9) := fun ci h => by
  rcases (show ci = 9 by unfold kin at h; simp at h; omega) with rfl
  · exact fk95_9
theorem fk96_4 : FkP 10 169 1 4 4 := ⟨RX4, TX4, rfl, (by decide +kernel), (by decide +kernel), (by decide +kernel), "FourLorries$Part", Or.inl ⟨(gm 671 (by decide +kernel) rfl), (by decide +kernel)⟩, Or.inl (by decide +kernel)⟩
theorem fk96_2 : FkP 10 169 1 4 2 := ⟨RX2, TX2, rfl, (by decide +kernel), (by decide +kernel), (by decide +kernel), "FourLorries$Part", Or.inl ⟨(gm 671 (by decide +kernel) rfl), (by decide +kernel)⟩, Or.inl (by decide +kernel)⟩
theorem fk96_1 : FkP 10 169 1 4 1 := ⟨RX1, TX1, rfl, (by decide +kernel), (by decide +kernel), (by decide +kernel), "FourLorries$Part", Or.inl ⟨(gm 671 (by decide +kernel) rfl), (by decide +kernel)⟩, Or.inl (by decide +kernel)⟩
theorem ft96_ok : FtP (10, 169, 1, 4) := fun ci h => by
  rcases (show ci = 4 ∨ ci = 2 ∨ ci = 1 by unfold kin at h; simp at h; omega) with rfl | rfl | rfl
  · exact fk96_4
  · exact fk96_2
  · exact fk96_1
theorem fk97_4 : FkP 10 172 2 4 4 := ⟨RX4, TX4, rfl, (by decide +kernel), (by decide +kernel), (by decide +kernel), "FourLorries$Part", Or.inl ⟨(gm 677 (by decide +kernel) rfl), (by decide +kernel)⟩, Or.inl (by decide +kernel)⟩
theorem fk97_2 : FkP 10 172 2 4 2 := ⟨RX2, TX2, rfl, (by decide +kernel), (by decide +kernel), (by decide +kernel), "FourLorries$Part", Or.inl ⟨(gm 677 (by decide +kernel) rfl), (by decide +kernel)⟩, Or.inl (by decide +kernel)⟩
theorem fk97_1 : FkP 10 172 2 4 1 := ⟨RX1, TX1, rfl, (by decide +kernel), (by decide +kernel), (by decide +kernel), "FourLorries$Part", Or.inl ⟨(gm 677 (by decide +kernel) rfl), (by decide +kernel)⟩, Or.inl (by decide +kernel)⟩
theorem ft97_ok : FtP (10, 172, 2, 4) := fun ci h => by
  rcases (show ci = 4 ∨ ci = 2 ∨ ci = 1 by unfold kin at h; simp at h; omega) with rfl | rfl | rfl
  · exact fk97_4
  · exact fk97_2
  · exact fk97_1
theorem fk98_4 : FkP 10 175 3 4 4 := ⟨RX4, TX4, rfl, (by decide +kernel), (by decide +kernel), (by decide +kernel), "FourLorries$Part", Or.inl ⟨(gm 680 (by decide +kernel) rfl), (by decide +kernel)⟩, Or.inl (by decide +kernel)⟩
theorem fk98_2 : FkP 10 175 3 4 2 := ⟨RX2, TX2, rfl, (by decide +kernel), (by decide +kernel), (by decide +kernel), "FourLorries$Part", Or.inl ⟨(gm 680 (by decide +kernel) rfl), (by decide +kernel)⟩, Or.inl (by decide +kernel)⟩
theorem fk98_1 : FkP 10 175 3 4 1 := ⟨RX1, TX1, rfl, (by decide +kernel), (by decide +kernel), (by decide +kernel), "FourLorries$Part", Or.inl ⟨(gm 680 (by decide +kernel) rfl), (by decide +kernel)⟩, Or.inl (by decide +kernel)⟩
theorem ft98_ok : FtP (10, 175, 3, 4) := fun ci h => by
  rcases (show ci = 4 ∨ ci = 2 ∨ ci = 1 by unfold kin at h; simp at h; omega) with rfl | rfl | rfl
  · exact fk98_4
  · exact fk98_2
  · exact fk98_1
theorem fk99_4 : FkP 10 179 5 4 4 := ⟨RX4, TX4, rfl, (by decide +kernel), (by decide +kernel), (by decide +kernel), "FourLorries$Part", Or.inl ⟨(gm 687 (by decide +kernel) rfl), (by decide +kernel)⟩, Or.inl (by decide +kernel)⟩
theorem fk99_2 : FkP 10 179 5 4 2 := ⟨RX2, TX2, rfl, (by decide +kernel), (by decide +kernel), (by decide +kernel), "FourLorries$Part", Or.inl ⟨(gm 687 (by decide +kernel) rfl), (by decide +kernel)⟩, Or.inl (by decide +kernel)⟩
theorem fk99_1 : FkP 10 179 5 4 1 := ⟨RX1, TX1, rfl, (by decide +kernel), (by decide +kernel), (by decide +kernel), "FourLorries$Part", Or.inl ⟨(gm 687 (by decide +kernel) rfl), (by decide +kernel)⟩, Or.inl (by decide +kernel)⟩
theorem ft99_ok : FtP (10, 179, 5, 4) := fun ci h => by
  rcases (show ci = 4 ∨ ci = 2 ∨ ci = 1 by unfold kin at h; simp at h; omega) with rfl | rfl | rfl
  · exact fk99_4
  · exact fk99_2
  · exact fk99_1
theorem fk100_4 : FkP 10 182 4 4 4 := ⟨RX4, TX4, rfl, (by decide +kernel), (by decide +kernel), (by decide +kernel), "FourLorries$Part", Or.inl ⟨(gm 683 (by decide +kernel) rfl), (by decide +kernel)⟩, Or.inl (by decide +kernel)⟩
theorem fk100_2 : FkP 10 182 4 4 2 := ⟨RX2, TX2, rfl, (by decide +kernel), (by decide +kernel), (by decide +kernel), "FourLorries$Part", Or.inl ⟨(gm 683 (by decide +kernel) rfl), (by decide +kernel)⟩, Or.inl (by decide +kernel)⟩
theorem fk100_1 : FkP 10 182 4 4 1 := ⟨RX1, TX1, rfl, (by decide +kernel), (by decide +kernel), (by decide +kernel), "FourLorries$Part", Or.inl ⟨(gm 683 (by decide +kernel) rfl), (by decide +kernel)⟩, Or.inl (by decide +kernel)⟩
theorem ft100_ok : FtP (10, 182, 4, 4) := fun ci h => by
  rcases (show ci = 4 ∨ ci = 2 ∨ ci = 1 by unfold kin at h; simp at h; omega) with rfl | rfl | rfl
  · exact fk100_4
  · exact fk100_2
  · exact fk100_1
theorem fk101_9 : FkP 10 188 2 9 9 := ⟨RX9, TX9, rfl, (by decide +kernel), (by decide +kernel), (by decide +kernel), "FourLorries$Yard", Or.inr ⟨"FourLorries", nm 269 (by decide +kernel) rfl, (by decide +kernel)⟩, Or.inl (by decide +kernel)⟩
theorem ft101_ok : FtP (10, 188, 2, 9) := fun ci h => by
  rcases (show ci = 9 by unfold kin at h; simp at h; omega) with rfl
  · exact fk101_9
theorem fk102_9 : FkP 10 205 3 9 9 := ⟨RX9, TX9, rfl, (by decide +kernel), (by decide +kernel), (by decide +kernel), "FourLorries$Yard", Or.inr ⟨"FourLorries", nm 271 (by decide +kernel) rfl, (by decide +kernel)⟩, Or.inl (by decide +kernel)⟩
theorem ft102_ok : FtP (10, 205, 3, 9) := fun ci h => by
  rcases (show ci = 9 by unfold kin at h; simp at h; omega) with rfl
  · exact fk102_9
theorem fk103_9 : FkP 10 208 4 9 9 := ⟨RX9, TX9, rfl, (by decide +kernel), (by decide +kernel), (by decide +kernel), "FourLorries$Yard", Or.inr ⟨"FourLorries", nm 273 (by decide +kernel) rfl, (by decide +kernel)⟩, Or.inl (by decide +kernel)⟩
theorem ft103_ok : FtP (10, 208, 4, 9) := fun ci h => by
  rcases (show ci = 9 by unfold kin at h; simp at h; omega) with rfl
  · exact fk103_9
theorem fk104_8 : FkP 10 218 0 8 8 := ⟨RX8, TX8, rfl, (by decide +kernel), (by decide +kernel), (by decide +kernel), "FourLorries$Way", Or.inr ⟨"FourLorries", nm 207 (by decide +kernel) rfl, (by decide +kernel)⟩, Or.inl (by decide +kernel)⟩
theorem ft104_ok : FtP (10, 218, 0, 8) := fun ci h => by
  rcases (show ci = 8 by unfold kin at h; simp at h; omega) with rfl
  · exact fk104_8
theorem fk105_8 : FkP 10 223 1 8 8 := ⟨RX8, TX8, rfl, (by decide +kernel), (by decide +kernel), (by decide +kernel), "FourLorries$Way", Or.inr ⟨"FourLorries", nm 209 (by decide +kernel) rfl, (by decide +kernel)⟩, Or.inl (by decide +kernel)⟩
theorem ft105_ok : FtP (10, 223, 1, 8) := fun ci h => by
  rcases (show ci = 8 by unfold kin at h; simp at h; omega) with rfl
  · exact fk105_8
theorem fk106_8 : FkP 10 226 2 8 8 := ⟨RX8, TX8, rfl, (by decide +kernel), (by decide +kernel), (by decide +kernel), "FourLorries$Way", Or.inr ⟨"FourLorries", nm 211 (by decide +kernel) rfl, (by decide +kernel)⟩, Or.inl (by decide +kernel)⟩
theorem ft106_ok : FtP (10, 226, 2, 8) := fun ci h => by
  rcases (show ci = 8 by unfold kin at h; simp at h; omega) with rfl
  · exact fk106_8
theorem fk107_8 : FkP 10 227 3 8 8 := ⟨RX8, TX8, rfl, (by decide +kernel), (by decide +kernel), (by decide +kernel), "FourLorries$Way", Or.inr ⟨"FourLorries", nm 213 (by decide +kernel) rfl, (by decide +kernel)⟩, Or.inl (by decide +kernel)⟩
theorem ft107_ok : FtP (10, 227, 3, 8) := fun ci h => by
  rcases (show ci = 8 by unfold kin at h; simp at h; omega) with rfl
  · exact fk107_8
theorem fk108_8 : FkP 10 228 4 8 8 := ⟨RX8, TX8, rfl, (by decide +kernel), (by decide +kernel), (by decide +kernel), "FourLorries$Way", Or.inr ⟨"FourLorries", nm 215 (by decide +kernel) rfl, (by decide +kernel)⟩, Or.inl (by decide +kernel)⟩
theorem ft108_ok : FtP (10, 228, 4, 8) := fun ci h => by
  rcases (show ci = 8 by unfold kin at h; simp at h; omega) with rfl
  · exact fk108_8
theorem fk109_5 : FkP 10 260 0 5 5 := ⟨RX5, TX5, rfl, (by decide +kernel), (by decide +kernel), (by decide +kernel), "FourLorries$Row", Or.inr ⟨"FourLorries", nm 310 (by decide +kernel) rfl, (by decide +kernel)⟩, Or.inl (by decide +kernel)⟩
theorem ft109_ok : FtP (10, 260, 0, 5) := fun ci h => by
  rcases (show ci = 5 by unfold kin at h; simp at h; omega) with rfl
  · exact fk109_5
theorem fk110_5 : FkP 10 272 2 5 5 := ⟨RX5, TX5, rfl, (by decide +kernel), (by decide +kernel), (by decide +kernel), "FourLorries$Row", Or.inr ⟨"FourLorries", nm 315 (by decide +kernel) rfl, (by decide +kernel)⟩, Or.inl (by decide +kernel)⟩
theorem ft110_ok : FtP (10, 272, 2, 5) := fun ci h => by
  rcases (show ci = 5 by unfold kin at h; simp at h; omega) with rfl
  · exact fk110_5
theorem fk111_7 : FkP 10 292 0 7 7 := ⟨RX7, TX7, rfl, (by decide +kernel), (by decide +kernel), (by decide +kernel), "FourLorries$Trace", Or.inr ⟨"FourLorries", nm 300 (by decide +kernel) rfl, (by decide +kernel)⟩, Or.inl (by decide +kernel)⟩
theorem ft111_ok : FtP (10, 292, 0, 7) := fun ci h => by
  rcases (show ci = 7 by unfold kin at h; simp at h; omega) with rfl
  · exact fk111_7
theorem fk112_9 : FkP 10 295 1 9 9 := ⟨RX9, TX9, rfl, (by decide +kernel), (by decide +kernel), (by decide +kernel), "FourLorries$Yard", Or.inr ⟨"FourLorries", nm 267 (by decide +kernel) rfl, (by decide +kernel)⟩, Or.inl (by decide +kernel)⟩
theorem ft112_ok : FtP (10, 295, 1, 9) := fun ci h => by
  rcases (show ci = 9 by unfold kin at h; simp at h; omega) with rfl
  · exact fk112_9
theorem fk113_11 : FkP 11 7 2 11 11 := ⟨RX11, TX11, rfl, (by decide +kernel), (by decide +kernel), (by decide +kernel), "FourLorriesModel", Or.inl ⟨(gm 1013 (by decide +kernel) rfl), (by decide +kernel)⟩, Or.inl (by decide +kernel)⟩
theorem ft113_ok : FtP (11, 7, 2, 11) := fun ci h => by
  rcases (show ci = 11 by unfold kin at h; simp at h; omega) with rfl
  · exact fk113_11
theorem fk114_11 : FkP 11 13 3 11 11 := ⟨RX11, TX11, rfl, (by decide +kernel), (by decide +kernel), (by decide +kernel), "FourLorriesModel", Or.inl ⟨(gm 1014 (by decide +kernel) rfl), (by decide +kernel)⟩, Or.inl (by decide +kernel)⟩
theorem ft114_ok : FtP (11, 13, 3, 11) := fun ci h => by
  rcases (show ci = 11 by unfold kin at h; simp at h; omega) with rfl
  · exact fk114_11
theorem fk115_11 : FkP 11 16 4 11 11 := ⟨RX11, TX11, rfl, (by decide +kernel), (by decide +kernel), (by decide +kernel), "FourLorriesModel", Or.inl ⟨(gm 1015 (by decide +kernel) rfl), (by decide +kernel)⟩, Or.inl (by decide +kernel)⟩
theorem ft115_ok : FtP (11, 16, 4, 11) := fun ci h => by
  rcases (show ci = 11 by unfold kin at h; simp at h; omega) with rfl
  · exact fk115_11
theorem fk116_11 : FkP 11 19 5 11 11 := ⟨RX11, TX11, rfl, (by decide +kernel), (by decide +kernel), (by decide +kernel), "FourLorriesModel", Or.inl ⟨(gm 1016 (by decide +kernel) rfl), (by decide +kernel)⟩, Or.inl (by decide +kernel)⟩
theorem ft116_ok : FtP (11, 19, 5, 11) := fun ci h => by
  rcases (show ci = 11 by unfold kin at h; simp at h; omega) with rfl
  · exact fk116_11
theorem fk117_11 : FkP 11 22 6 11 11 := ⟨RX11, TX11, rfl, (by decide +kernel), (by decide +kernel), (by decide +kernel), "FourLorriesModel", Or.inl ⟨(gm 1017 (by decide +kernel) rfl), (by decide +kernel)⟩, Or.inl (by decide +kernel)⟩
theorem ft117_ok : FtP (11, 22, 6, 11) := fun ci h => by
  rcases (show ci = 11 by unfold kin at h; simp at h; omega) with rfl
  · exact fk117_11
theorem fk118_11 : FkP 11 25 12 11 11 := ⟨RX11, TX11, rfl, (by decide +kernel), (by decide +kernel), (by decide +kernel), "FourLorriesModel", Or.inl ⟨(gm 1023 (by decide +kernel) rfl), (by decide +kernel)⟩, Or.inl (by decide +kernel)⟩
theorem ft118_ok : FtP (11, 25, 12, 11) := fun ci h => by
  rcases (show ci = 11 by unfold kin at h; simp at h; omega) with rfl
  · exact fk118_11
theorem fk119_11 : FkP 11 28 13 11 11 := ⟨RX11, TX11, rfl, (by decide +kernel), (by decide +kernel), (by decide +kernel), "FourLorriesModel", Or.inl ⟨(gm 1024 (by decide +kernel) rfl), (by decide +kernel)⟩, Or.inl (by decide +kernel)⟩
theorem ft119_ok : FtP (11, 28, 13, 11) := fun ci h => by
  rcases (show ci = 11 by unfold kin at h; simp at h; omega) with rfl
  · exact fk119_11
theorem fk120_11 : FkP 11 31 14 11 11 := ⟨RX11, TX11, rfl, (by decide +kernel), (by decide +kernel), (by decide +kernel), "FourLorriesModel", Or.inl ⟨(gm 1025 (by decide +kernel) rfl), (by decide +kernel)⟩, Or.inl (by decide +kernel)⟩
theorem ft120_ok : FtP (11, 31, 14, 11) := fun ci h => by
  rcases (show ci = 11 by unfold kin at h; simp at h; omega) with rfl
  · exact fk120_11
theorem fk121_11 : FkP 11 35 15 11 11 := ⟨RX11, TX11, rfl, (by decide +kernel), (by decide +kernel), (by decide +kernel), "FourLorriesModel", Or.inl ⟨(gm 1026 (by decide +kernel) rfl), (by decide +kernel)⟩, Or.inl (by decide +kernel)⟩
theorem ft121_ok : FtP (11, 35, 15, 11) := fun ci h => by
  rcases (show ci = 11 by unfold kin at h; simp at h; omega) with rfl
  · exact fk121_11
theorem fk122_11 : FkP 11 38 16 11 11 := ⟨RX11, TX11, rfl, (by decide +kernel), (by decide +kernel), (by decide +kernel), "FourLorriesModel", Or.inl ⟨(gm 1027 (by decide +kernel) rfl), (by decide +kernel)⟩, Or.inl (by decide +kernel)⟩
theorem ft122_ok : FtP (11, 38, 16, 11) := fun ci h => by
  rcases (show ci = 11 by unfold kin at h; simp at h; omega) with rfl
  · exact fk122_11
theorem fk123_11 : FkP 11 41 17 11 11 := ⟨RX11, TX11, rfl, (by decide +kernel), (by decide +kernel), (by decide +kernel), "FourLorriesModel", Or.inl ⟨(gm 1028 (by decide +kernel) rfl), (by decide +kernel)⟩, Or.inl (by decide +kernel)⟩
theorem ft123_ok : FtP (11, 41, 17, 11) := fun ci h => by
  rcases (show ci = 11 by unfold kin at h; simp at h; omega) with rfl
  · exact fk123_11
theorem fk124_11 : FkP 11 44 19 11 11 := ⟨RX11, TX11, rfl, (by decide +kernel), (by decide +kernel), (by decide +kernel), "FourLorriesModel", Or.inl ⟨(gm 1030 (by decide +kernel) rfl), (by decide +kernel)⟩, Or.inl (by decide +kernel)⟩
theorem ft124_ok : FtP (11, 44, 19, 11) := fun ci h => by
  rcases (show ci = 11 by unfold kin at h; simp at h; omega) with rfl
  · exact fk124_11
theorem fk125_11 : FkP 11 47 20 11 11 := ⟨RX11, TX11, rfl, (by decide +kernel), (by decide +kernel), (by decide +kernel), "FourLorriesModel", Or.inl ⟨(gm 1031 (by decide +kernel) rfl), (by decide +kernel)⟩, Or.inl (by decide +kernel)⟩
theorem ft125_ok : FtP (11, 47, 20, 11) := fun ci h => by
  rcases (show ci = 11 by unfold kin at h; simp at h; omega) with rfl
  · exact fk125_11
theorem fk126_11 : FkP 11 50 21 11 11 := ⟨RX11, TX11, rfl, (by decide +kernel), (by decide +kernel), (by decide +kernel), "FourLorriesModel", Or.inl ⟨(gm 1032 (by decide +kernel) rfl), (by decide +kernel)⟩, Or.inl (by decide +kernel)⟩
theorem ft126_ok : FtP (11, 50, 21, 11) := fun ci h => by
  rcases (show ci = 11 by unfold kin at h; simp at h; omega) with rfl
  · exact fk126_11
theorem fk127_11 : FkP 11 53 22 11 11 := ⟨RX11, TX11, rfl, (by decide +kernel), (by decide +kernel), (by decide +kernel), "FourLorriesModel", Or.inl ⟨(gm 1033 (by decide +kernel) rfl), (by decide +kernel)⟩, Or.inl (by decide +kernel)⟩
theorem ft127_ok : FtP (11, 53, 22, 11) := fun ci h => by
  rcases (show ci = 11 by unfold kin at h; simp at h; omega) with rfl
  · exact fk127_11
theorem fk128_11 : FkP 11 57 23 11 11 := ⟨RX11, TX11, rfl, (by decide +kernel), (by decide +kernel), (by decide +kernel), "FourLorriesModel", Or.inl ⟨(gm 1034 (by decide +kernel) rfl), (by decide +kernel)⟩, Or.inl (by decide +kernel)⟩
theorem ft128_ok : FtP (11, 57, 23, 11) := fun ci h => by
  rcases (show ci = 11 by unfold kin at h; simp at h; omega) with rfl
  · exact fk128_11
theorem fk129_11 : FkP 11 60 24 11 11 := ⟨RX11, TX11, rfl, (by decide +kernel), (by decide +kernel), (by decide +kernel), "FourLorriesModel", Or.inl ⟨(gm 1035 (by decide +kernel) rfl), (by decide +kernel)⟩, Or.inl (by decide +kernel)⟩
theorem ft129_ok : FtP (11, 60, 24, 11) := fun ci h => by
  rcases (show ci = 11 by unfold kin at h; simp at h; omega) with rfl
  · exact fk129_11
theorem fk130_11 : FkP 11 63 25 11 11 := ⟨RX11, TX11, rfl, (by decide +kernel), (by decide +kernel), (by decide +kernel), "FourLorriesModel", Or.inl ⟨(gm 1036 (by decide +kernel) rfl), (by decide +kernel)⟩, Or.inl (by decide +kernel)⟩
theorem ft130_ok : FtP (11, 63, 25, 11) := fun ci h => by
  rcases (show ci = 11 by unfold kin at h; simp at h; omega) with rfl
  · exact fk130_11
theorem fk131_11 : FkP 11 66 27 11 11 := ⟨RX11, TX11, rfl, (by decide +kernel), (by decide +kernel), (by decide +kernel), "FourLorriesModel", Or.inl ⟨(gm 1038 (by decide +kernel) rfl), (by decide +kernel)⟩, Or.inl (by decide +kernel)⟩
theorem ft131_ok : FtP (11, 66, 27, 11) := fun ci h => by
  rcases (show ci = 11 by unfold kin at h; simp at h; omega) with rfl
  · exact fk131_11
theorem fk132_11 : FkP 11 70 28 11 11 := ⟨RX11, TX11, rfl, (by decide +kernel), (by decide +kernel), (by decide +kernel), "FourLorriesModel", Or.inl ⟨(gm 1039 (by decide +kernel) rfl), (by decide +kernel)⟩, Or.inl (by decide +kernel)⟩
theorem ft132_ok : FtP (11, 70, 28, 11) := fun ci h => by
  rcases (show ci = 11 by unfold kin at h; simp at h; omega) with rfl
  · exact fk132_11
theorem fk133_11 : FkP 11 73 30 11 11 := ⟨RX11, TX11, rfl, (by decide +kernel), (by decide +kernel), (by decide +kernel), "FourLorriesModel", Or.inl ⟨(gm 1041 (by decide +kernel) rfl), (by decide +kernel)⟩, Or.inl (by decide +kernel)⟩
theorem ft133_ok : FtP (11, 73, 30, 11) := fun ci h => by
  rcases (show ci = 11 by unfold kin at h; simp at h; omega) with rfl
  · exact fk133_11
theorem fk134_11 : FkP 11 76 33 11 11 := ⟨RX11, TX11, rfl, (by decide +kernel), (by decide +kernel), (by decide +kernel), "FourLorriesModel", Or.inl ⟨(gm 1044 (by decide +kernel) rfl), (by decide +kernel)⟩, Or.inl (by decide +kernel)⟩
theorem ft134_ok : FtP (11, 76, 33, 11) := fun ci h => by
  rcases (show ci = 11 by unfold kin at h; simp at h; omega) with rfl
  · exact fk134_11
theorem fk135_11 : FkP 11 79 34 11 11 := ⟨RX11, TX11, rfl, (by decide +kernel), (by decide +kernel), (by decide +kernel), "FourLorriesModel", Or.inl ⟨(gm 1045 (by decide +kernel) rfl), (by decide +kernel)⟩, Or.inl (by decide +kernel)⟩
theorem ft135_ok : FtP (11, 79, 34, 11) := fun ci h => by
  rcases (show ci = 11 by unfold kin at h; simp at h; omega) with rfl
  · exact fk135_11
theorem fk136_11 : FkP 11 82 35 11 11 := ⟨RX11, TX11, rfl, (by decide +kernel), (by decide +kernel), (by decide +kernel), "FourLorriesModel", Or.inl ⟨(gm 1046 (by decide +kernel) rfl), (by decide +kernel)⟩, Or.inl (by decide +kernel)⟩
theorem ft136_ok : FtP (11, 82, 35, 11) := fun ci h => by
  rcases (show ci = 11 by unfold kin at h; simp at h; omega) with rfl
  · exact fk136_11
theorem fk137_11 : FkP 11 85 36 11 11 := ⟨RX11, TX11, rfl, (by decide +kernel), (by decide +kernel), (by decide +kernel), "FourLorriesModel", Or.inl ⟨(gm 1047 (by decide +kernel) rfl), (by decide +kernel)⟩, Or.inl (by decide +kernel)⟩
theorem ft137_ok : FtP (11, 85, 36, 11) := fun ci h => by
  rcases (show ci = 11 by unfold kin at h; simp at h; omega) with rfl
  · exact fk137_11
theorem fk138_11 : FkP 11 88 26 11 11 := ⟨RX11, TX11, rfl, (by decide +kernel), (by decide +kernel), (by decide +kernel), "FourLorriesModel", Or.inl ⟨(gm 1037 (by decide +kernel) rfl), (by decide +kernel)⟩, Or.inl (by decide +kernel)⟩
theorem ft138_ok : FtP (11, 88, 26, 11) := fun ci h => by
  rcases (show ci = 11 by unfold kin at h; simp at h; omega) with rfl
  · exact fk138_11
theorem fk139_11 : FkP 11 94 0 11 11 := ⟨RX11, TX11, rfl, (by decide +kernel), (by decide +kernel), (by decide +kernel), "FourLorriesModel", Or.inl ⟨(gm 1011 (by decide +kernel) rfl), (by decide +kernel)⟩, Or.inl (by decide +kernel)⟩
theorem ft139_ok : FtP (11, 94, 0, 11) := fun ci h => by
  rcases (show ci = 11 by unfold kin at h; simp at h; omega) with rfl
  · exact fk139_11
theorem fk140_11 : FkP 11 122 1 11 11 := ⟨RX11, TX11, rfl, (by decide +kernel), (by decide +kernel), (by decide +kernel), "FourLorriesModel", Or.inl ⟨(gm 1012 (by decide +kernel) rfl), (by decide +kernel)⟩, Or.inl (by decide +kernel)⟩
theorem ft140_ok : FtP (11, 122, 1, 11) := fun ci h => by
  rcases (show ci = 11 by unfold kin at h; simp at h; omega) with rfl
  · exact fk140_11
theorem fk141_11 : FkP 11 128 7 11 11 := ⟨RX11, TX11, rfl, (by decide +kernel), (by decide +kernel), (by decide +kernel), "FourLorriesModel", Or.inl ⟨(gm 1018 (by decide +kernel) rfl), (by decide +kernel)⟩, Or.inl (by decide +kernel)⟩
theorem ft141_ok : FtP (11, 128, 7, 11) := fun ci h => by
  rcases (show ci = 11 by unfold kin at h; simp at h; omega) with rfl
  · exact fk141_11
theorem fk142_11 : FkP 11 135 8 11 11 := ⟨RX11, TX11, rfl, (by decide +kernel), (by decide +kernel), (by decide +kernel), "FourLorriesModel", Or.inl ⟨(gm 1019 (by decide +kernel) rfl), (by decide +kernel)⟩, Or.inl (by decide +kernel)⟩
theorem ft142_ok : FtP (11, 135, 8, 11) := fun ci h => by
  rcases (show ci = 11 by unfold kin at h; simp at h; omega) with rfl
  · exact fk142_11
theorem fk143_11 : FkP 11 146 10 11 11 := ⟨RX11, TX11, rfl, (by decide +kernel), (by decide +kernel), (by decide +kernel), "FourLorriesModel", Or.inl ⟨(gm 1021 (by decide +kernel) rfl), (by decide +kernel)⟩, Or.inl (by decide +kernel)⟩
theorem ft143_ok : FtP (11, 146, 10, 11) := fun ci h => by
  rcases (show ci = 11 by unfold kin at h; simp at h; omega) with rfl
  · exact fk143_11
theorem fk144_11 : FkP 11 153 9 11 11 := ⟨RX11, TX11, rfl, (by decide +kernel), (by decide +kernel), (by decide +kernel), "FourLorriesModel", Or.inl ⟨(gm 1020 (by decide +kernel) rfl), (by decide +kernel)⟩, Or.inl (by decide +kernel)⟩
theorem ft144_ok : FtP (11, 153, 9, 11) := fun ci h => by
  rcases (show ci = 11 by unfold kin at h; simp at h; omega) with rfl
  · exact fk144_11
theorem fk145_11 : FkP 11 156 11 11 11 := ⟨RX11, TX11, rfl, (by decide +kernel), (by decide +kernel), (by decide +kernel), "FourLorriesModel", Or.inl ⟨(gm 1022 (by decide +kernel) rfl), (by decide +kernel)⟩, Or.inl (by decide +kernel)⟩
theorem ft145_ok : FtP (11, 156, 11, 11) := fun ci h => by
  rcases (show ci = 11 by unfold kin at h; simp at h; omega) with rfl
  · exact fk145_11
theorem fk146_11 : FkP 11 259 18 11 11 := ⟨RX11, TX11, rfl, (by decide +kernel), (by decide +kernel), (by decide +kernel), "FourLorriesModel", Or.inl ⟨(gm 1029 (by decide +kernel) rfl), (by decide +kernel)⟩, Or.inl (by decide +kernel)⟩
theorem ft146_ok : FtP (11, 259, 18, 11) := fun ci h => by
  rcases (show ci = 11 by unfold kin at h; simp at h; omega) with rfl
  · exact fk146_11
theorem fk147_11 : FkP 11 281 29 11 11 := ⟨RX11, TX11, rfl, (by decide +kernel), (by decide +kernel), (by decide +kernel), "FourLorriesModel", Or.inl ⟨(gm 1040 (by decide +kernel) rfl), (by decide +kernel)⟩, Or.inl (by decide +kernel)⟩
theorem ft147_ok : FtP (11, 281, 29, 11) := fun ci h => by
  rcases (show ci = 11 by unfold kin at h; simp at h; omega) with rfl
  · exact fk147_11
theorem fk148_11 : FkP 11 295 31 11 11 := ⟨RX11, TX11, rfl, (by decide +kernel), (by decide +kernel), (by decide +kernel), "FourLorriesModel", Or.inl ⟨(gm 1042 (by decide +kernel) rfl), (by decide +kernel)⟩, Or.inl (by decide +kernel)⟩
theorem ft148_ok : FtP (11, 295, 31, 11) := fun ci h => by
  rcases (show ci = 11 by unfold kin at h; simp at h; omega) with rfl
  · exact fk148_11
theorem fk149_11 : FkP 11 298 32 11 11 := ⟨RX11, TX11, rfl, (by decide +kernel), (by decide +kernel), (by decide +kernel), "FourLorriesModel", Or.inl ⟨(gm 1043 (by decide +kernel) rfl), (by decide +kernel)⟩, Or.inl (by decide +kernel)⟩
theorem ft149_ok : FtP (11, 298, 32, 11) := fun ci h => by
  rcases (show ci = 11 by unfold kin at h; simp at h; omega) with rfl
  · exact fk149_11
theorem fk150_11 : FkP 11 321 37 11 11 := ⟨RX11, TX11, rfl, (by decide +kernel), (by decide +kernel), (by decide +kernel), "FourLorriesModel", Or.inl ⟨(gm 1048 (by decide +kernel) rfl), (by decide +kernel)⟩, Or.inl (by decide +kernel)⟩
theorem ft150_ok : FtP (11, 321, 37, 11) := fun ci h => by
  rcases (show ci = 11 by unfold kin at h; simp at h; omega) with rfl
  · exact fk150_11
def ptok (q : Mt) : Bool := q.2.all (fun r => match r.2.2.1 with | .putfield ix => pok (mC q.1) ix | _ => true)
theorem ptok_all : Mts.all ptok = true := by decide +kernel
theorem fts_0 : ∀ q ∈ FTs_0, FtP q := List.forall_mem_cons.mpr ⟨ft0_ok, List.forall_mem_cons.mpr ⟨ft1_ok, List.forall_mem_cons.mpr ⟨ft2_ok, List.forall_mem_cons.mpr ⟨ft3_ok, List.forall_mem_cons.mpr ⟨ft4_ok, List.forall_mem_cons.mpr ⟨ft5_ok, List.forall_mem_cons.mpr ⟨ft6_ok, List.forall_mem_cons.mpr ⟨ft7_ok, List.forall_mem_cons.mpr ⟨ft8_ok, List.forall_mem_cons.mpr ⟨ft9_ok, List.forall_mem_cons.mpr ⟨ft10_ok, List.forall_mem_cons.mpr ⟨ft11_ok, List.forall_mem_cons.mpr ⟨ft12_ok, List.forall_mem_cons.mpr ⟨ft13_ok, List.forall_mem_cons.mpr ⟨ft14_ok, List.forall_mem_cons.mpr ⟨ft15_ok, List.forall_mem_cons.mpr ⟨ft16_ok, List.forall_mem_cons.mpr ⟨ft17_ok, List.forall_mem_cons.mpr ⟨ft18_ok, List.forall_mem_cons.mpr ⟨ft19_ok, List.forall_mem_cons.mpr ⟨ft20_ok, List.forall_mem_cons.mpr ⟨ft21_ok, List.forall_mem_cons.mpr ⟨ft22_ok, List.forall_mem_cons.mpr ⟨ft23_ok, List.forall_mem_cons.mpr ⟨ft24_ok, List.forall_mem_cons.mpr ⟨ft25_ok, List.forall_mem_cons.mpr ⟨ft26_ok, List.forall_mem_cons.mpr ⟨ft27_ok, List.forall_mem_cons.mpr ⟨ft28_ok, List.forall_mem_cons.mpr ⟨ft29_ok, List.forall_mem_cons.mpr ⟨ft30_ok, List.forall_mem_cons.mpr ⟨ft31_ok, List.forall_mem_cons.mpr ⟨ft32_ok, List.forall_mem_cons.mpr ⟨ft33_ok, List.forall_mem_cons.mpr ⟨ft34_ok, List.forall_mem_cons.mpr ⟨ft35_ok, List.forall_mem_cons.mpr ⟨ft36_ok, List.forall_mem_cons.mpr ⟨ft37_ok, List.forall_mem_cons.mpr ⟨ft38_ok, List.forall_mem_cons.mpr ⟨ft39_ok, fun _ h => absurd h List.not_mem_nil⟩⟩⟩⟩⟩⟩⟩⟩⟩⟩⟩⟩⟩⟩⟩⟩⟩⟩⟩⟩⟩⟩⟩⟩⟩⟩⟩⟩⟩⟩⟩⟩⟩⟩⟩⟩⟩⟩⟩⟩
theorem fts_1 : ∀ q ∈ FTs_1, FtP q := List.forall_mem_cons.mpr ⟨ft40_ok, List.forall_mem_cons.mpr ⟨ft41_ok, List.forall_mem_cons.mpr ⟨ft42_ok, List.forall_mem_cons.mpr ⟨ft43_ok, List.forall_mem_cons.mpr ⟨ft44_ok, List.forall_mem_cons.mpr ⟨ft45_ok, List.forall_mem_cons.mpr ⟨ft46_ok, List.forall_mem_cons.mpr ⟨ft47_ok, List.forall_mem_cons.mpr ⟨ft48_ok, List.forall_mem_cons.mpr ⟨ft49_ok, List.forall_mem_cons.mpr ⟨ft50_ok, List.forall_mem_cons.mpr ⟨ft51_ok, List.forall_mem_cons.mpr ⟨ft52_ok, List.forall_mem_cons.mpr ⟨ft53_ok, List.forall_mem_cons.mpr ⟨ft54_ok, List.forall_mem_cons.mpr ⟨ft55_ok, List.forall_mem_cons.mpr ⟨ft56_ok, List.forall_mem_cons.mpr ⟨ft57_ok, List.forall_mem_cons.mpr ⟨ft58_ok, List.forall_mem_cons.mpr ⟨ft59_ok, List.forall_mem_cons.mpr ⟨ft60_ok, List.forall_mem_cons.mpr ⟨ft61_ok, List.forall_mem_cons.mpr ⟨ft62_ok, List.forall_mem_cons.mpr ⟨ft63_ok, List.forall_mem_cons.mpr ⟨ft64_ok, List.forall_mem_cons.mpr ⟨ft65_ok, List.forall_mem_cons.mpr ⟨ft66_ok, List.forall_mem_cons.mpr ⟨ft67_ok, List.forall_mem_cons.mpr ⟨ft68_ok, List.forall_mem_cons.mpr ⟨ft69_ok, List.forall_mem_cons.mpr ⟨ft70_ok, List.forall_mem_cons.mpr ⟨ft71_ok, List.forall_mem_cons.mpr ⟨ft72_ok, List.forall_mem_cons.mpr ⟨ft73_ok, List.forall_mem_cons.mpr ⟨ft74_ok, List.forall_mem_cons.mpr ⟨ft75_ok, List.forall_mem_cons.mpr ⟨ft76_ok, List.forall_mem_cons.mpr ⟨ft77_ok, List.forall_mem_cons.mpr ⟨ft78_ok, List.forall_mem_cons.mpr ⟨ft79_ok, fun _ h => absurd h List.not_mem_nil⟩⟩⟩⟩⟩⟩⟩⟩⟩⟩⟩⟩⟩⟩⟩⟩⟩⟩⟩⟩⟩⟩⟩⟩⟩⟩⟩⟩⟩⟩⟩⟩⟩⟩⟩⟩⟩⟩⟩⟩
theorem fts_2 : ∀ q ∈ FTs_2, FtP q := List.forall_mem_cons.mpr ⟨ft80_ok, List.forall_mem_cons.mpr ⟨ft81_ok, List.forall_mem_cons.mpr ⟨ft82_ok, List.forall_mem_cons.mpr ⟨ft83_ok, List.forall_mem_cons.mpr ⟨ft84_ok, List.forall_mem_cons.mpr ⟨ft85_ok, List.forall_mem_cons.mpr ⟨ft86_ok, List.forall_mem_cons.mpr ⟨ft87_ok, List.forall_mem_cons.mpr ⟨ft88_ok, List.forall_mem_cons.mpr ⟨ft89_ok, List.forall_mem_cons.mpr ⟨ft90_ok, List.forall_mem_cons.mpr ⟨ft91_ok, List.forall_mem_cons.mpr ⟨ft92_ok, List.forall_mem_cons.mpr ⟨ft93_ok, List.forall_mem_cons.mpr ⟨ft94_ok, List.forall_mem_cons.mpr ⟨ft95_ok, List.forall_mem_cons.mpr ⟨ft96_ok, List.forall_mem_cons.mpr ⟨ft97_ok, List.forall_mem_cons.mpr ⟨ft98_ok, List.forall_mem_cons.mpr ⟨ft99_ok, List.forall_mem_cons.mpr ⟨ft100_ok, List.forall_mem_cons.mpr ⟨ft101_ok, List.forall_mem_cons.mpr ⟨ft102_ok, List.forall_mem_cons.mpr ⟨ft103_ok, List.forall_mem_cons.mpr ⟨ft104_ok, List.forall_mem_cons.mpr ⟨ft105_ok, List.forall_mem_cons.mpr ⟨ft106_ok, List.forall_mem_cons.mpr ⟨ft107_ok, List.forall_mem_cons.mpr ⟨ft108_ok, List.forall_mem_cons.mpr ⟨ft109_ok, List.forall_mem_cons.mpr ⟨ft110_ok, List.forall_mem_cons.mpr ⟨ft111_ok, List.forall_mem_cons.mpr ⟨ft112_ok, List.forall_mem_cons.mpr ⟨ft113_ok, List.forall_mem_cons.mpr ⟨ft114_ok, List.forall_mem_cons.mpr ⟨ft115_ok, List.forall_mem_cons.mpr ⟨ft116_ok, List.forall_mem_cons.mpr ⟨ft117_ok, List.forall_mem_cons.mpr ⟨ft118_ok, List.forall_mem_cons.mpr ⟨ft119_ok, fun _ h => absurd h List.not_mem_nil⟩⟩⟩⟩⟩⟩⟩⟩⟩⟩⟩⟩⟩⟩⟩⟩⟩⟩⟩⟩⟩⟩⟩⟩⟩⟩⟩⟩⟩⟩⟩⟩⟩⟩⟩⟩⟩⟩⟩⟩
theorem fts_3 : ∀ q ∈ FTs_3, FtP q := List.forall_mem_cons.mpr ⟨ft120_ok, List.forall_mem_cons.mpr ⟨ft121_ok, List.forall_mem_cons.mpr ⟨ft122_ok, List.forall_mem_cons.mpr ⟨ft123_ok, List.forall_mem_cons.mpr ⟨ft124_ok, List.forall_mem_cons.mpr ⟨ft125_ok, List.forall_mem_cons.mpr ⟨ft126_ok, List.forall_mem_cons.mpr ⟨ft127_ok, List.forall_mem_cons.mpr ⟨ft128_ok, List.forall_mem_cons.mpr ⟨ft129_ok, List.forall_mem_cons.mpr ⟨ft130_ok, List.forall_mem_cons.mpr ⟨ft131_ok, List.forall_mem_cons.mpr ⟨ft132_ok, List.forall_mem_cons.mpr ⟨ft133_ok, List.forall_mem_cons.mpr ⟨ft134_ok, List.forall_mem_cons.mpr ⟨ft135_ok, List.forall_mem_cons.mpr ⟨ft136_ok, List.forall_mem_cons.mpr ⟨ft137_ok, List.forall_mem_cons.mpr ⟨ft138_ok, List.forall_mem_cons.mpr ⟨ft139_ok, List.forall_mem_cons.mpr ⟨ft140_ok, List.forall_mem_cons.mpr ⟨ft141_ok, List.forall_mem_cons.mpr ⟨ft142_ok, List.forall_mem_cons.mpr ⟨ft143_ok, List.forall_mem_cons.mpr ⟨ft144_ok, List.forall_mem_cons.mpr ⟨ft145_ok, List.forall_mem_cons.mpr ⟨ft146_ok, List.forall_mem_cons.mpr ⟨ft147_ok, List.forall_mem_cons.mpr ⟨ft148_ok, List.forall_mem_cons.mpr ⟨ft149_ok, List.forall_mem_cons.mpr ⟨ft150_ok, fun _ h => absurd h List.not_mem_nil⟩⟩⟩⟩⟩⟩⟩⟩⟩⟩⟩⟩⟩⟩⟩⟩⟩⟩⟩⟩⟩⟩⟩⟩⟩⟩⟩⟩⟩⟩⟩
theorem fts : ∀ q ∈ FTs, FtP q := List.forall_mem_append.mpr ⟨fts_0, List.forall_mem_append.mpr ⟨fts_1, List.forall_mem_append.mpr ⟨fts_2, fts_3⟩⟩⟩
theorem sk0 : StP (3, 135, 4) := ⟨(by decide +kernel), Or.inl (gm 540 (by decide +kernel) rfl)⟩
theorem sk1 : StP (6, 72, 3) := ⟨(by decide +kernel), Or.inl (gm 413 (by decide +kernel) rfl)⟩
theorem sk2 : StP (6, 76, 2) := ⟨(by decide +kernel), Or.inl (gm 415 (by decide +kernel) rfl)⟩
theorem sk3 : StP (6, 79, 0) := ⟨(by decide +kernel), Or.inr ⟨"FourLorries", nm 417 (by decide +kernel) rfl⟩⟩
theorem sk4 : StP (6, 82, 1) := ⟨(by decide +kernel), Or.inr ⟨"FourLorries", nm 419 (by decide +kernel) rfl⟩⟩
theorem sk5 : StP (10, 99, 0) := ⟨(by decide +kernel), Or.inl (gm 504 (by decide +kernel) rfl)⟩
theorem sk6 : StP (10, 102, 1) := ⟨(by decide +kernel), Or.inl (gm 505 (by decide +kernel) rfl)⟩
theorem sts : ∀ q ∈ STs, StP q := List.forall_mem_cons.mpr ⟨sk0, List.forall_mem_cons.mpr ⟨sk1, List.forall_mem_cons.mpr ⟨sk2, List.forall_mem_cons.mpr ⟨sk3, List.forall_mem_cons.mpr ⟨sk4, List.forall_mem_cons.mpr ⟨sk5, List.forall_mem_cons.mpr ⟨sk6, fun _ h => absurd h List.not_mem_nil⟩⟩⟩⟩⟩⟩⟩
theorem lk0 : LtP (9, 9, 4) := ⟨(by decide +kernel), (gm 198 (by decide +kernel) rfl)⟩
theorem lk1 : LtP (9, 31, 8) := ⟨(by decide +kernel), (gm 200 (by decide +kernel) rfl)⟩
theorem lk2 : LtP (9, 48, 1) := ⟨(by decide +kernel), (gm 651 (by decide +kernel) rfl)⟩
theorem lk3 : LtP (9, 53, 2) := ⟨(by decide +kernel), (gm 701 (by decide +kernel) rfl)⟩
theorem lk4 : LtP (10, 11, 0) := ⟨(by decide +kernel), (gm 97 (by decide +kernel) rfl)⟩
theorem lk5 : LtP (10, 21, 6) := ⟨(by decide +kernel), (gm 99 (by decide +kernel) rfl)⟩
theorem lk6 : LtP (10, 28, 3) := ⟨(by decide +kernel), (gm 142 (by decide +kernel) rfl)⟩
theorem lk7 : LtP (10, 35, 9) := ⟨(by decide +kernel), (gm 192 (by decide +kernel) rfl)⟩
theorem lk8 : LtP (10, 42, 5) := ⟨(by decide +kernel), (gm 291 (by decide +kernel) rfl)⟩
theorem lk9 : LtP (10, 48, 7) := ⟨(by decide +kernel), (gm 293 (by decide +kernel) rfl)⟩
theorem lk10 : LtP (10, 288, 2) := ⟨(by decide +kernel), (gm 982 (by decide +kernel) rfl)⟩
theorem lk11 : LtP (10, 290, 1) := ⟨(by decide +kernel), (gm 983 (by decide +kernel) rfl)⟩
theorem lk12 : LtP (12, 7, 10) := ⟨(by decide +kernel), (gm 89 (by decide +kernel) rfl)⟩
theorem lk13 : LtP (12, 10, 11) := ⟨(by decide +kernel), (gm 1004 (by decide +kernel) rfl)⟩
theorem lts : ∀ q ∈ LTs, LtP q := List.forall_mem_cons.mpr ⟨lk0, List.forall_mem_cons.mpr ⟨lk1, List.forall_mem_cons.mpr ⟨lk2, List.forall_mem_cons.mpr ⟨lk3, List.forall_mem_cons.mpr ⟨lk4, List.forall_mem_cons.mpr ⟨lk5, List.forall_mem_cons.mpr ⟨lk6, List.forall_mem_cons.mpr ⟨lk7, List.forall_mem_cons.mpr ⟨lk8, List.forall_mem_cons.mpr ⟨lk9, List.forall_mem_cons.mpr ⟨lk10, List.forall_mem_cons.mpr ⟨lk11, List.forall_mem_cons.mpr ⟨lk12, List.forall_mem_cons.mpr ⟨lk13, fun _ h => absurd h List.not_mem_nil⟩⟩⟩⟩⟩⟩⟩⟩⟩⟩⟩⟩⟩⟩
theorem kk0 : KtP (3, 98, .long (-1)) := (gm 568 (by decide +kernel) rfl)
theorem kk1 : KtP (3, 123, .long 1000000) := (gm 582 (by decide +kernel) rfl)
theorem kk2 : KtP (3, 144, .long 3000000) := (gm 542 (by decide +kernel) rfl)
theorem kk3 : KtP (8, 68, .long 4611686018427387904) := (gm 849 (by decide +kernel) rfl)
theorem kk4 : KtP (8, 80, .long 8916100448256) := (gm 862 (by decide +kernel) rfl)
theorem kk5 : KtP (8, 128, .long 12) := (gm 863 (by decide +kernel) rfl)
theorem kk6 : KtP (8, 130, .long 144115188075855872) := (gm 861 (by decide +kernel) rfl)
theorem kk7 : KtP (8, 145, .long 256) := (gm 886 (by decide +kernel) rfl)
theorem kk8 : KtP (10, 115, .long (-9223372036854775808)) := (gm 521 (by decide +kernel) rfl)
theorem kk9 : KtP (11, 69, .int 53248) := (gm 1010 (by decide +kernel) rfl)
theorem kk10 : KtP (11, 92, .long (-9223372036854775808)) := (gm 1235 (by decide +kernel) rfl)
theorem kk11 : KtP (11, 109, .long 2) := (gm 1145 (by decide +kernel) rfl)
theorem kk12 : KtP (11, 131, .long 48) := (gm 1165 (by decide +kernel) rfl)
theorem kk13 : KtP (11, 133, .long 57) := (gm 1166 (by decide +kernel) rfl)
theorem kk14 : KtP (11, 193, .long 10) := (gm 1210 (by decide +kernel) rfl)
theorem kk15 : KtP (11, 198, .long 4) := (gm 1219 (by decide +kernel) rfl)
theorem kk16 : KtP (11, 200, .long 3) := (gm 1137 (by decide +kernel) rfl)
theorem kk17 : KtP (11, 220, .long (-1)) := (gm 1261 (by decide +kernel) rfl)
theorem kk18 : KtP (11, 226, .long 3000000) := (gm 1253 (by decide +kernel) rfl)
theorem kk19 : KtP (11, 228, .long 2000000) := (gm 1270 (by decide +kernel) rfl)
theorem kk20 : KtP (11, 241, .long 12) := (gm 1231 (by decide +kernel) rfl)
theorem kk21 : KtP (11, 253, .long 30) := (gm 1291 (by decide +kernel) rfl)
theorem kk22 : KtP (11, 265, .long 9) := (gm 1311 (by decide +kernel) rfl)
theorem kk23 : KtP (11, 276, .long 11) := (gm 1339 (by decide +kernel) rfl)
theorem kk24 : KtP (11, 291, .int 1000000) := (gm 1386 (by decide +kernel) rfl)
theorem kk25 : KtP (15, 265, .int 1431655765) := (gm 845 (by decide +kernel) rfl)
theorem kk26 : KtP (15, 266, .int 858993459) := (gm 846 (by decide +kernel) rfl)
theorem kk27 : KtP (15, 267, .int 252645135) := (gm 847 (by decide +kernel) rfl)
theorem kts : ∀ q ∈ KTs, KtP q := List.forall_mem_cons.mpr ⟨kk0, List.forall_mem_cons.mpr ⟨kk1, List.forall_mem_cons.mpr ⟨kk2, List.forall_mem_cons.mpr ⟨kk3, List.forall_mem_cons.mpr ⟨kk4, List.forall_mem_cons.mpr ⟨kk5, List.forall_mem_cons.mpr ⟨kk6, List.forall_mem_cons.mpr ⟨kk7, List.forall_mem_cons.mpr ⟨kk8, List.forall_mem_cons.mpr ⟨kk9, List.forall_mem_cons.mpr ⟨kk10, List.forall_mem_cons.mpr ⟨kk11, List.forall_mem_cons.mpr ⟨kk12, List.forall_mem_cons.mpr ⟨kk13, List.forall_mem_cons.mpr ⟨kk14, List.forall_mem_cons.mpr ⟨kk15, List.forall_mem_cons.mpr ⟨kk16, List.forall_mem_cons.mpr ⟨kk17, List.forall_mem_cons.mpr ⟨kk18, List.forall_mem_cons.mpr ⟨kk19, List.forall_mem_cons.mpr ⟨kk20, List.forall_mem_cons.mpr ⟨kk21, List.forall_mem_cons.mpr ⟨kk22, List.forall_mem_cons.mpr ⟨kk23, List.forall_mem_cons.mpr ⟨kk24, List.forall_mem_cons.mpr ⟨kk25, List.forall_mem_cons.mpr ⟨kk26, List.forall_mem_cons.mpr ⟨kk27, fun _ h => absurd h List.not_mem_nil⟩⟩⟩⟩⟩⟩⟩⟩⟩⟩⟩⟩⟩⟩⟩⟩⟩⟩⟩⟩⟩⟩⟩⟩⟩⟩⟩⟩
end
section
theorem cc0 : MlP (0, 3, 7, 0, 0, 0, 0) := (gm 433 (by decide +kernel) rfl)
theorem cc1 : MlP (0, 30, 2, 2, 3, 0, 0) := ⟨(by decide +kernel), (gm 434 (by decide +kernel) rfl), (gm 435 (by decide +kernel) rfl), (by decide +kernel)⟩
theorem cc2 : MlP (0, 41, 0, 2, 5, 0, 0) := ⟨(by decide +kernel), (gm 486 (by decide +kernel) rfl), (gm 487 (by decide +kernel) rfl), (gm 488 (by decide +kernel) rfl), (by decide +kernel), (by decide +kernel)⟩
theorem cc3 : MlP (0, 45, 10, 2, 0, 0, 0) := (gm 490 (by decide +kernel) rfl)
theorem cc4 : MlP (1, 1, 3, 3, 13, 0, 0) := ⟨(by decide +kernel), (gm 656 (by decide +kernel) rfl), (gm 657 (by decide +kernel) rfl), (by decide +kernel), (by decide +kernel), rfl⟩
theorem cc5 : MlP (1, 16, 0, 1, 64, 0, 0) := ⟨(by decide +kernel), (gm 946 (by decide +kernel) rfl), (gm 947 (by decide +kernel) rfl), (gm 948 (by decide +kernel) rfl), (by decide +kernel), (by decide +kernel)⟩
theorem cc6 : MlP (1, 22, 6, 1, 16, 0, 0) := ⟨(by decide +kernel), (gm 950 (by decide +kernel) rfl), (gm 1456 (by decide +kernel) rfl), (gm 700 (by decide +kernel) rfl), (gm 951 (by decide +kernel) rfl), (by decide +kernel), (by decide +kernel)⟩
set_option maxRecDepth 20000 in
theorem cc7 : MlP (1, 26, 5, 1, 999, 999, 43) := ⟨(fun h => absurd h (by decide)), (fun h => absurd h (by decide)), (fun _ => ⟨(by decide +kernel), ⟨"FourLorries$Common", "firstTelling", "(LFourLorries$Trace;)I"⟩, (gm 955 (by decide +kernel) rfl), (gm 956 (by decide +kernel) rfl), (gm 958 (by decide +kernel) rfl), (gm 959 (by decide +kernel) rfl), (gm 959 (by decide +kernel) rfl), ⟨_, _, _, gm 960 rfl rfl⟩, (by decide +kernel)⟩)⟩
theorem cc8 : MlP (2, 3, 3, 3, 38, 0, 0) := ⟨(by decide +kernel), (gm 659 (by decide +kernel) rfl), (gm 660 (by decide +kernel) rfl), (by decide +kernel), (by decide +kernel), rfl⟩
theorem cc9 : MlP (2, 18, 6, 1, 40, 0, 0) := ⟨(by decide +kernel), (gm 760 (by decide +kernel) rfl), (gm 753 (by decide +kernel) rfl), (gm 710 (by decide +kernel) rfl), (gm 751 (by decide +kernel) rfl), (by decide +kernel), (by decide +kernel)⟩
theorem cc10 : MlP (2, 22, 0, 1, 64, 0, 0) := ⟨(by decide +kernel), (gm 953 (by decide +kernel) rfl), (gm 947 (by decide +kernel) rfl), (gm 948 (by decide +kernel) rfl), (by decide +kernel), (by decide +kernel)⟩
theorem cc11 : MlP (2, 28, 6, 1, 42, 0, 0) := ⟨(by decide +kernel), (gm 954 (by decide +kernel) rfl), (gm 942 (by decide +kernel) rfl), (gm 710 (by decide +kernel) rfl), (gm 940 (by decide +kernel) rfl), (by decide +kernel), (by decide +kernel)⟩
theorem cc12 : MlP (3, 3, 7, 0, 0, 0, 0) := (gm 147 (by decide +kernel) rfl)
theorem cc13 : MlP (3, 57, 0, 0, 23, 0, 0) := ⟨(by decide +kernel), (gm 547 (by decide +kernel) rfl), (gm 549 (by decide +kernel) rfl), (gm 16 (by decide +kernel) rfl), (by decide +kernel), (by decide +kernel)⟩
theorem cc14 : MlP (3, 65, 0, 1, 26, 0, 0) := ⟨(by decide +kernel), (gm 552 (by decide +kernel) rfl), (gm 554 (by decide +kernel) rfl), (gm 17 (by decide +kernel) rfl), (by decide +kernel), (by decide +kernel)⟩
theorem cc15 : MlP (3, 69, 10, 2, 0, 0, 0) := (gm 551 (by decide +kernel) rfl)
theorem cc16 : MlP (3, 75, 0, 2, 28, 0, 0) := ⟨(by decide +kernel), (gm 560 (by decide +kernel) rfl), (gm 562 (by decide +kernel) rfl), (gm 19 (by decide +kernel) rfl), (by decide +kernel), (by decide +kernel)⟩
theorem cc17 : MlP (3, 79, 0, 0, 25, 0, 0) := ⟨(by decide +kernel), (gm 587 (by decide +kernel) rfl), (gm 589 (by decide +kernel) rfl), (gm 24 (by decide +kernel) rfl), (by decide +kernel), (by decide +kernel)⟩
theorem cc18 : MlP (3, 89, 0, 2, 5, 0, 0) := ⟨(by decide +kernel), (gm 531 (by decide +kernel) rfl), (gm 487 (by decide +kernel) rfl), (gm 488 (by decide +kernel) rfl), (by decide +kernel), (by decide +kernel)⟩
theorem cc19 : MlP (3, 92, 0, 2, 24, 0, 0) := ⟨(by decide +kernel), (gm 556 (by decide +kernel) rfl), (gm 558 (by decide +kernel) rfl), (gm 18 (by decide +kernel) rfl), (by decide +kernel), (by decide +kernel)⟩
theorem cc20 : MlP (3, 95, 0, 1, 27, 0, 0) := ⟨(by decide +kernel), (gm 564 (by decide +kernel) rfl), (gm 566 (by decide +kernel) rfl), (gm 20 (by decide +kernel) rfl), (by decide +kernel), (by decide +kernel)⟩
theorem cc21 : MlP (3, 100, 2, 2, 1, 0, 0) := ⟨(by decide +kernel), (gm 528 (by decide +kernel) rfl), (gm 529 (by decide +kernel) rfl), (by decide +kernel)⟩
theorem cc22 : MlP (3, 106, 0, 2, 29, 0, 0) := ⟨(by decide +kernel), (gm 569 (by decide +kernel) rfl), (gm 571 (by decide +kernel) rfl), (gm 21 (by decide +kernel) rfl), (by decide +kernel), (by decide +kernel)⟩
theorem cc23 : MlP (3, 110, 0, 2, 30, 0, 0) := ⟨(by decide +kernel), (gm 573 (by decide +kernel) rfl), (gm 575 (by decide +kernel) rfl), (gm 22 (by decide +kernel) rfl), (by decide +kernel), (by decide +kernel)⟩
theorem cc24 : MlP (3, 113, 8, 5, 0, 0, 0) := (gm 577 (by decide +kernel) rfl)
theorem cc25 : MlP (3, 119, 0, 3, 31, 0, 0) := ⟨(by decide +kernel), (gm 578 (by decide +kernel) rfl), (gm 580 (by decide +kernel) rfl), (gm 23 (by decide +kernel) rfl), (by decide +kernel), (by decide +kernel)⟩
theorem cc26 : MlP (3, 128, 0, 2, 33, 0, 0) := ⟨(by decide +kernel), (gm 532 (by decide +kernel) rfl), (gm 534 (by decide +kernel) rfl), (gm 14 (by decide +kernel) rfl), (by decide +kernel), (by decide +kernel)⟩
theorem cc27 : MlP (3, 131, 0, 3, 32, 0, 0) := ⟨(by decide +kernel), (gm 536 (by decide +kernel) rfl), (gm 538 (by decide +kernel) rfl), (gm 15 (by decide +kernel) rfl), (by decide +kernel), (by decide +kernel)⟩
theorem cc28 : MlP (3, 138, 0, 0, 18, 0, 0) := ⟨(by decide +kernel), (gm 526 (by decide +kernel) rfl), (gm 511 (by decide +kernel) rfl), (gm 512 (by decide +kernel) rfl), (by decide +kernel), (by decide +kernel)⟩
theorem cc29 : MlP (3, 141, 0, 0, 7, 0, 0) := ⟨(by decide +kernel), (gm 527 (by decide +kernel) rfl), (gm 483 (by decide +kernel) rfl), (gm 484 (by decide +kernel) rfl), (by decide +kernel), (by decide +kernel)⟩
theorem cc30 : MlP (3, 146, 0, 2, 35, 0, 0) := ⟨(by decide +kernel), (gm 623 (by decide +kernel) rfl), (gm 624 (by decide +kernel) rfl), (gm 625 (by decide +kernel) rfl), (by decide +kernel), (by decide +kernel)⟩
theorem cc31 : MlP (3, 149, 0, 1, 36, 0, 0) := ⟨(by decide +kernel), (gm 619 (by decide +kernel) rfl), (gm 620 (by decide +kernel) rfl), (gm 621 (by decide +kernel) rfl), (by decide +kernel), (by decide +kernel)⟩
theorem cc32 : MlP (4, 3, 7, 0, 0, 0, 0) := (gm 662 (by decide +kernel) rfl)
set_option maxRecDepth 20000 in
theorem cc33 : MlP (4, 31, 5, 1, 43, 43, 43) := ⟨(fun _ => ⟨(by decide +kernel), ⟨"FourLorries$Part", "firstTelling", "(LFourLorries$Trace;)I"⟩, (gm 964 (by decide +kernel) rfl), (gm 1457 (by decide +kernel) rfl), (gm 1460 (by decide +kernel) rfl), (gm 959 (by decide +kernel) rfl), (gm 959 (by decide +kernel) rfl), ⟨_, _, _, gm 960 rfl rfl⟩, (by decide +kernel)⟩), (fun _ => ⟨(by decide +kernel), ⟨"FourLorries$Part", "firstTelling", "(LFourLorries$Trace;)I"⟩, (gm 964 (by decide +kernel) rfl), (gm 1457 (by decide +kernel) rfl), (gm 1459 (by decide +kernel) rfl), (gm 959 (by decide +kernel) rfl), (gm 959 (by decide +kernel) rfl), ⟨_, _, _, gm 960 rfl rfl⟩, (by decide +kernel)⟩), (fun _ => ⟨(by decide +kernel), ⟨"FourLorries$Part", "firstTelling", "(LFourLorries$Trace;)I"⟩, (gm 964 (by decide +kernel) rfl), (gm 1457 (by decide +kernel) rfl), (gm 1458 (by decide +kernel) rfl), (gm 959 (by decide +kernel) rfl), (gm 959 (by decide +kernel) rfl), ⟨_, _, _, gm 960 rfl rfl⟩, (by decide +kernel)⟩)⟩
theorem cc34 : MlP (4, 35, 0, 1, 64, 0, 0) := ⟨(by decide +kernel), (gm 961 (by decide +kernel) rfl), (gm 947 (by decide +kernel) rfl), (gm 948 (by decide +kernel) rfl), (by decide +kernel), (by decide +kernel)⟩
theorem cc35 : MlP (5, 3, 7, 0, 0, 0, 0) := (gm 308 (by decide +kernel) rfl)
theorem cc36 : MlP (5, 22, 2, 2, 2, 0, 0) := ⟨(by decide +kernel), (gm 913 (by decide +kernel) rfl), (gm 262 (by decide +kernel) rfl), (by decide +kernel)⟩
theorem cc37 : MlP (6, 3, 7, 0, 0, 0, 0) := (gm 104 (by decide +kernel) rfl)
theorem cc38 : MlP (6, 44, 0, 0, 53, 0, 0) := ⟨(by decide +kernel), (gm 382 (by decide +kernel) rfl), (gm 384 (by decide +kernel) rfl), (gm 3 (by decide +kernel) rfl), (by decide +kernel), (by decide +kernel)⟩
theorem cc39 : MlP (6, 48, 0, 0, 54, 0, 0) := ⟨(by decide +kernel), (gm 405 (by decide +kernel) rfl), (gm 407 (by decide +kernel) rfl), (gm 8 (by decide +kernel) rfl), (by decide +kernel), (by decide +kernel)⟩
theorem cc40 : MlP (6, 51, 0, 0, 56, 0, 0) := ⟨(by decide +kernel), (gm 421 (by decide +kernel) rfl), (gm 423 (by decide +kernel) rfl), (gm 10 (by decide +kernel) rfl), (by decide +kernel), (by decide +kernel)⟩
theorem cc41 : MlP (6, 54, 0, 0, 57, 0, 0) := ⟨(by decide +kernel), (gm 425 (by decide +kernel) rfl), (gm 427 (by decide +kernel) rfl), (gm 11 (by decide +kernel) rfl), (by decide +kernel), (by decide +kernel)⟩
theorem cc42 : MlP (6, 57, 0, 1, 60, 0, 0) := ⟨(by decide +kernel), (gm 386 (by decide +kernel) rfl), (gm 388 (by decide +kernel) rfl), (gm 4 (by decide +kernel) rfl), (by decide +kernel), (by decide +kernel)⟩
theorem cc43 : MlP (6, 61, 0, 3, 61, 0, 0) := ⟨(by decide +kernel), (gm 398 (by decide +kernel) rfl), (gm 400 (by decide +kernel) rfl), (gm 7 (by decide +kernel) rfl), (by decide +kernel), (by decide +kernel)⟩
theorem cc44 : MlP (6, 65, 0, 0, 58, 0, 0) := ⟨(by decide +kernel), (gm 390 (by decide +kernel) rfl), (gm 392 (by decide +kernel) rfl), (gm 5 (by decide +kernel) rfl), (by decide +kernel), (by decide +kernel)⟩
theorem cc45 : MlP (6, 69, 0, 1, 55, 0, 0) := ⟨(by decide +kernel), (gm 409 (by decide +kernel) rfl), (gm 411 (by decide +kernel) rfl), (gm 9 (by decide +kernel) rfl), (by decide +kernel), (by decide +kernel)⟩
theorem cc46 : MlP (6, 85, 0, 1, 59, 0, 0) := ⟨(by decide +kernel), (gm 394 (by decide +kernel) rfl), (gm 396 (by decide +kernel) rfl), (gm 6 (by decide +kernel) rfl), (by decide +kernel), (by decide +kernel)⟩
theorem cc47 : MlP (6, 94, 2, 1, 62, 0, 0) := ⟨(by decide +kernel), (gm 402 (by decide +kernel) rfl), (gm 403 (by decide +kernel) rfl), (by decide +kernel)⟩
theorem cc48 : MlP (7, 1, 7, 0, 0, 0, 0) := (gm 298 (by decide +kernel) rfl)
theorem cc49 : MlP (8, 3, 7, 0, 0, 0, 0) := (gm 205 (by decide +kernel) rfl)
theorem cc50 : MlP (8, 64, 0, 0, 67, 0, 0) := ⟨(by decide +kernel), (gm 823 (by decide +kernel) rfl), (gm 825 (by decide +kernel) rfl), (gm 29 (by decide +kernel) rfl), (by decide +kernel), (by decide +kernel)⟩
theorem cc51 : MlP (8, 70, 2, 1, 0, 0, 0) := ⟨(by decide +kernel), (gm 842 (by decide +kernel) rfl), (gm 843 (by decide +kernel) rfl), (by decide +kernel)⟩
theorem cc52 : MlP (8, 76, 0, 1, 70, 0, 0) := ⟨(by decide +kernel), (gm 850 (by decide +kernel) rfl), (gm 852 (by decide +kernel) rfl), (gm 31 (by decide +kernel) rfl), (by decide +kernel), (by decide +kernel)⟩
theorem cc53 : MlP (8, 82, 0, 2, 77, 0, 0) := ⟨(by decide +kernel), (gm 882 (by decide +kernel) rfl), (gm 884 (by decide +kernel) rfl), (gm 37 (by decide +kernel) rfl), (by decide +kernel), (by decide +kernel)⟩
theorem cc54 : MlP (8, 86, 0, 1, 68, 0, 0) := ⟨(by decide +kernel), (gm 827 (by decide +kernel) rfl), (gm 829 (by decide +kernel) rfl), (gm 30 (by decide +kernel) rfl), (by decide +kernel), (by decide +kernel)⟩
theorem cc55 : MlP (8, 89, 10, 2, 0, 0, 0) := (gm 848 (by decide +kernel) rfl)
set_option maxRecDepth 20000 in
theorem cc56 : MlP (8, 95, 5, 0, 41, 41, 41) := ⟨(fun _ => ⟨(by decide +kernel), ⟨"FourLorries$Part", "isUsable", "()Z"⟩, (gm 831 (by decide +kernel) rfl), (gm 834 (by decide +kernel) rfl), (gm 833 (by decide +kernel) rfl), (gm 832 (by decide +kernel) rfl), (gm 832 (by decide +kernel) rfl), ⟨_, _, _, gm 837 rfl rfl⟩, (by decide +kernel)⟩), (fun _ => ⟨(by decide +kernel), ⟨"FourLorries$Part", "isUsable", "()Z"⟩, (gm 831 (by decide +kernel) rfl), (gm 834 (by decide +kernel) rfl), (gm 836 (by decide +kernel) rfl), (gm 832 (by decide +kernel) rfl), (gm 832 (by decide +kernel) rfl), ⟨_, _, _, gm 837 rfl rfl⟩, (by decide +kernel)⟩), (fun _ => ⟨(by decide +kernel), ⟨"FourLorries$Part", "isUsable", "()Z"⟩, (gm 831 (by decide +kernel) rfl), (gm 834 (by decide +kernel) rfl), (gm 835 (by decide +kernel) rfl), (gm 832 (by decide +kernel) rfl), (gm 832 (by decide +kernel) rfl), ⟨_, _, _, gm 837 rfl rfl⟩, (by decide +kernel)⟩)⟩
theorem cc57 : MlP (8, 101, 2, 2, 69, 0, 0) := ⟨(by decide +kernel), (gm 838 (by decide +kernel) rfl), (gm 839 (by decide +kernel) rfl), (by decide +kernel)⟩
set_option maxRecDepth 20000 in
theorem cc58 : MlP (8, 105, 5, 1, 40, 15, 10) := ⟨(fun _ => ⟨(by decide +kernel), ⟨"FourLorries$Part", "hoursFor", "(I)I"⟩, (gm 841 (by decide +kernel) rfl), (gm 753 (by decide +kernel) rfl), (gm 752 (by decide +kernel) rfl), (gm 751 (by decide +kernel) rfl), (gm 751 (by decide +kernel) rfl), ⟨_, _, _, gm 761 rfl rfl⟩, (by decide +kernel)⟩), (fun _ => ⟨(by decide +kernel), ⟨"FourLorries$Part", "hoursFor", "(I)I"⟩, (gm 841 (by decide +kernel) rfl), (gm 753 (by decide +kernel) rfl), (gm 757 (by decide +kernel) rfl), (gm 758 (by decide +kernel) rfl), (gm 751 (by decide +kernel) rfl), ⟨_, _, _, gm 761 rfl rfl⟩, (by decide +kernel)⟩), (fun _ => ⟨(by decide +kernel), ⟨"FourLorries$Part", "hoursFor", "(I)I"⟩, (gm 841 (by decide +kernel) rfl), (gm 753 (by decide +kernel) rfl), (gm 754 (by decide +kernel) rfl), (gm 755 (by decide +kernel) rfl), (gm 751 (by decide +kernel) rfl), ⟨_, _, _, gm 761 rfl rfl⟩, (by decide +kernel)⟩)⟩
theorem cc59 : MlP (8, 108, 0, 1, 71, 0, 0) := ⟨(by decide +kernel), (gm 854 (by decide +kernel) rfl), (gm 856 (by decide +kernel) rfl), (gm 32 (by decide +kernel) rfl), (by decide +kernel), (by decide +kernel)⟩
theorem cc60 : MlP (8, 112, 2, 2, 1, 0, 0) := ⟨(by decide +kernel), (gm 864 (by decide +kernel) rfl), (gm 529 (by decide +kernel) rfl), (by decide +kernel)⟩
theorem cc61 : MlP (8, 118, 2, 2, 2, 0, 0) := ⟨(by decide +kernel), (gm 865 (by decide +kernel) rfl), (gm 262 (by decide +kernel) rfl), (by decide +kernel)⟩
theorem cc62 : MlP (8, 121, 0, 1, 73, 0, 0) := ⟨(by decide +kernel), (gm 866 (by decide +kernel) rfl), (gm 868 (by decide +kernel) rfl), (gm 33 (by decide +kernel) rfl), (by decide +kernel), (by decide +kernel)⟩
theorem cc63 : MlP (8, 124, 2, 2, 72, 0, 0) := ⟨(by decide +kernel), (gm 858 (by decide +kernel) rfl), (gm 859 (by decide +kernel) rfl), (by decide +kernel)⟩
theorem cc64 : MlP (8, 135, 0, 1, 74, 0, 0) := ⟨(by decide +kernel), (gm 870 (by decide +kernel) rfl), (gm 872 (by decide +kernel) rfl), (gm 34 (by decide +kernel) rfl), (by decide +kernel), (by decide +kernel)⟩
theorem cc65 : MlP (8, 138, 0, 0, 75, 0, 0) := ⟨(by decide +kernel), (gm 874 (by decide +kernel) rfl), (gm 876 (by decide +kernel) rfl), (gm 35 (by decide +kernel) rfl), (by decide +kernel), (by decide +kernel)⟩
theorem cc66 : MlP (8, 141, 0, 1, 76, 0, 0) := ⟨(by decide +kernel), (gm 878 (by decide +kernel) rfl), (gm 880 (by decide +kernel) rfl), (gm 36 (by decide +kernel) rfl), (by decide +kernel), (by decide +kernel)⟩
theorem cc67 : MlP (9, 3, 7, 0, 0, 0, 0) := (gm 197 (by decide +kernel) rfl)
theorem cc68 : MlP (9, 33, 4, 0, 65, 0, 0) := ⟨(by decide +kernel), ⟨"FourLorries", nm 202 (by decide +kernel) rfl⟩, (gm 203 (by decide +kernel) rfl), (by decide +kernel), (by decide +kernel), rfl⟩
theorem cc69 : MlP (9, 42, 2, 2, 2, 0, 0) := ⟨(by decide +kernel), (gm 261 (by decide +kernel) rfl), (gm 262 (by decide +kernel) rfl), (by decide +kernel)⟩
theorem cc70 : MlP (9, 50, 3, 3, 8, 0, 0) := ⟨(by decide +kernel), (gm 653 (by decide +kernel) rfl), (gm 654 (by decide +kernel) rfl), (by decide +kernel), (by decide +kernel), rfl⟩
theorem cc71 : MlP (9, 55, 3, 3, 13, 0, 0) := ⟨(by decide +kernel), (gm 703 (by decide +kernel) rfl), (gm 657 (by decide +kernel) rfl), (by decide +kernel), (by decide +kernel), rfl⟩
theorem cc72 : MlP (9, 56, 3, 3, 38, 0, 0) := ⟨(by decide +kernel), (gm 712 (by decide +kernel) rfl), (gm 660 (by decide +kernel) rfl), (by decide +kernel), (by decide +kernel), rfl⟩
set_option maxRecDepth 20000 in
theorem cc73 : MlP (9, 63, 5, 1, 40, 15, 10) := ⟨(fun _ => ⟨(by decide +kernel), ⟨"FourLorries$Part", "hoursFor", "(I)I"⟩, (gm 770 (by decide +kernel) rfl), (gm 753 (by decide +kernel) rfl), (gm 752 (by decide +kernel) rfl), (gm 751 (by decide +kernel) rfl), (gm 751 (by decide +kernel) rfl), ⟨_, _, _, gm 761 rfl rfl⟩, (by decide +kernel)⟩), (fun _ => ⟨(by decide +kernel), ⟨"FourLorries$Part", "hoursFor", "(I)I"⟩, (gm 770 (by decide +kernel) rfl), (gm 753 (by decide +kernel) rfl), (gm 757 (by decide +kernel) rfl), (gm 758 (by decide +kernel) rfl), (gm 751 (by decide +kernel) rfl), ⟨_, _, _, gm 761 rfl rfl⟩, (by decide +kernel)⟩), (fun _ => ⟨(by decide +kernel), ⟨"FourLorries$Part", "hoursFor", "(I)I"⟩, (gm 770 (by decide +kernel) rfl), (gm 753 (by decide +kernel) rfl), (gm 754 (by decide +kernel) rfl), (gm 755 (by decide +kernel) rfl), (gm 751 (by decide +kernel) rfl), ⟨_, _, _, gm 761 rfl rfl⟩, (by decide +kernel)⟩)⟩
theorem cc74 : MlP (9, 67, 0, 2, 81, 0, 0) := ⟨(by decide +kernel), (gm 771 (by decide +kernel) rfl), (gm 773 (by decide +kernel) rfl), (gm 27 (by decide +kernel) rfl), (by decide +kernel), (by decide +kernel)⟩
theorem cc75 : MlP (9, 77, 0, 1, 85, 0, 0) := ⟨(by decide +kernel), (gm 807 (by decide +kernel) rfl), (gm 809 (by decide +kernel) rfl), (gm 28 (by decide +kernel) rfl), (by decide +kernel), (by decide +kernel)⟩
theorem cc76 : MlP (9, 81, 0, 0, 84, 0, 0) := ⟨(by decide +kernel), (gm 904 (by decide +kernel) rfl), (gm 804 (by decide +kernel) rfl), (gm 805 (by decide +kernel) rfl), (by decide +kernel), (by decide +kernel)⟩
theorem cc77 : MlP (9, 93, 0, 2, 66, 0, 0) := ⟨(by decide +kernel), (gm 819 (by decide +kernel) rfl), (gm 820 (by decide +kernel) rfl), (gm 821 (by decide +kernel) rfl), (by decide +kernel), (by decide +kernel)⟩
theorem cc78 : MlP (10, 3, 7, 0, 0, 0, 0) := (gm 94 (by decide +kernel) rfl)
theorem cc79 : MlP (10, 23, 4, 0, 51, 0, 0) := ⟨(by decide +kernel), ⟨"FourLorries", nm 101 (by decide +kernel) rfl⟩, (gm 102 (by decide +kernel) rfl), (by decide +kernel), (by decide +kernel), rfl⟩
theorem cc80 : MlP (10, 30, 4, 0, 17, 0, 0) := ⟨(by decide +kernel), ⟨"FourLorries", nm 144 (by decide +kernel) rfl⟩, (gm 145 (by decide +kernel) rfl), (by decide +kernel), (by decide +kernel), rfl⟩
theorem cc81 : MlP (10, 37, 3, 0, 78, 0, 0) := ⟨(by decide +kernel), (gm 194 (by decide +kernel) rfl), (gm 195 (by decide +kernel) rfl), (by decide +kernel), (by decide +kernel), rfl⟩
theorem cc82 : MlP (10, 50, 4, 0, 63, 0, 0) := ⟨(by decide +kernel), ⟨"FourLorries", nm 295 (by decide +kernel) rfl⟩, (gm 296 (by decide +kernel) rfl), (by decide +kernel), (by decide +kernel), rfl⟩
theorem cc83 : MlP (10, 58, 4, 0, 45, 0, 0) := ⟨(by decide +kernel), ⟨"FourLorries", nm 305 (by decide +kernel) rfl⟩, (gm 306 (by decide +kernel) rfl), (by decide +kernel), (by decide +kernel), rfl⟩
theorem cc84 : MlP (10, 59, 0, 4, 135, 0, 0) := ⟨(by decide +kernel), (gm 352 (by decide +kernel) rfl), (gm 354 (by decide +kernel) rfl), (gm 0 (by decide +kernel) rfl), (by decide +kernel), (by decide +kernel)⟩
theorem cc85 : MlP (10, 63, 0, 3, 52, 0, 0) := ⟨(by decide +kernel), (gm 378 (by decide +kernel) rfl), (gm 379 (by decide +kernel) rfl), (gm 380 (by decide +kernel) rfl), (by decide +kernel), (by decide +kernel)⟩
theorem cc86 : MlP (10, 67, 3, 1, 4, 0, 0) := ⟨(by decide +kernel), (gm 430 (by decide +kernel) rfl), (gm 431 (by decide +kernel) rfl), (by decide +kernel), (by decide +kernel), rfl⟩
theorem cc87 : MlP (10, 70, 0, 1, 125, 0, 0) := ⟨(by decide +kernel), (gm 478 (by decide +kernel) rfl), (gm 480 (by decide +kernel) rfl), (gm 12 (by decide +kernel) rfl), (by decide +kernel), (by decide +kernel)⟩
theorem cc88 : MlP (10, 87, 0, 0, 7, 0, 0) := ⟨(by decide +kernel), (gm 482 (by decide +kernel) rfl), (gm 483 (by decide +kernel) rfl), (gm 484 (by decide +kernel) rfl), (by decide +kernel), (by decide +kernel)⟩
theorem cc89 : MlP (10, 91, 0, 2, 126, 0, 0) := ⟨(by decide +kernel), (gm 495 (by decide +kernel) rfl), (gm 497 (by decide +kernel) rfl), (gm 13 (by decide +kernel) rfl), (by decide +kernel), (by decide +kernel)⟩
theorem cc90 : MlP (10, 95, 0, 2, 5, 0, 0) := ⟨(by decide +kernel), (gm 499 (by decide +kernel) rfl), (gm 487 (by decide +kernel) rfl), (gm 488 (by decide +kernel) rfl), (by decide +kernel), (by decide +kernel)⟩
theorem cc91 : MlP (10, 105, 0, 3, 6, 0, 0) := ⟨(by decide +kernel), (gm 506 (by decide +kernel) rfl), (gm 507 (by decide +kernel) rfl), (gm 508 (by decide +kernel) rfl), (by decide +kernel), (by decide +kernel)⟩
theorem cc92 : MlP (10, 109, 0, 0, 18, 0, 0) := ⟨(by decide +kernel), (gm 510 (by decide +kernel) rfl), (gm 511 (by decide +kernel) rfl), (gm 512 (by decide +kernel) rfl), (by decide +kernel), (by decide +kernel)⟩
theorem cc93 : MlP (10, 112, 2, 1, 128, 0, 0) := ⟨(by decide +kernel), (gm 518 (by decide +kernel) rfl), (gm 519 (by decide +kernel) rfl), (by decide +kernel)⟩
theorem cc94 : MlP (10, 117, 0, 3, 34, 0, 0) := ⟨(by decide +kernel), (gm 522 (by decide +kernel) rfl), (gm 523 (by decide +kernel) rfl), (gm 524 (by decide +kernel) rfl), (by decide +kernel), (by decide +kernel)⟩
theorem cc95 : MlP (10, 121, 0, 5, 19, 0, 0) := ⟨(by decide +kernel), (gm 543 (by decide +kernel) rfl), (gm 544 (by decide +kernel) rfl), (gm 545 (by decide +kernel) rfl), (by decide +kernel), (by decide +kernel)⟩
theorem cc96 : MlP (10, 125, 0, 0, 20, 0, 0) := ⟨(by decide +kernel), (gm 583 (by decide +kernel) rfl), (gm 584 (by decide +kernel) rfl), (gm 585 (by decide +kernel) rfl), (by decide +kernel), (by decide +kernel)⟩
theorem cc97 : MlP (10, 129, 0, 0, 21, 0, 0) := ⟨(by decide +kernel), (gm 595 (by decide +kernel) rfl), (gm 596 (by decide +kernel) rfl), (gm 597 (by decide +kernel) rfl), (by decide +kernel), (by decide +kernel)⟩
theorem cc98 : MlP (10, 132, 0, 4, 136, 0, 0) := ⟨(by decide +kernel), (gm 603 (by decide +kernel) rfl), (gm 605 (by decide +kernel) rfl), (gm 25 (by decide +kernel) rfl), (by decide +kernel), (by decide +kernel)⟩
theorem cc99 : MlP (10, 136, 0, 1, 37, 0, 0) := ⟨(by decide +kernel), (gm 615 (by decide +kernel) rfl), (gm 616 (by decide +kernel) rfl), (gm 617 (by decide +kernel) rfl), (by decide +kernel), (by decide +kernel)⟩
theorem cc100 : MlP (10, 140, 0, 1, 36, 0, 0) := ⟨(by decide +kernel), (gm 627 (by decide +kernel) rfl), (gm 620 (by decide +kernel) rfl), (gm 621 (by decide +kernel) rfl), (by decide +kernel), (by decide +kernel)⟩
theorem cc101 : MlP (10, 143, 0, 2, 35, 0, 0) := ⟨(by decide +kernel), (gm 628 (by decide +kernel) rfl), (gm 624 (by decide +kernel) rfl), (gm 625 (by decide +kernel) rfl), (by decide +kernel), (by decide +kernel)⟩
theorem cc102 : MlP (10, 146, 2, 3, 137, 0, 0) := ⟨(by decide +kernel), (gm 637 (by decide +kernel) rfl), (gm 638 (by decide +kernel) rfl), (by decide +kernel)⟩
theorem cc103 : MlP (10, 150, 2, 1, 130, 0, 0) := ⟨(by decide +kernel), (gm 644 (by decide +kernel) rfl), (gm 645 (by decide +kernel) rfl), (by decide +kernel)⟩
theorem cc104 : MlP (10, 153, 0, 3, 79, 0, 0) := ⟨(by decide +kernel), (gm 647 (by decide +kernel) rfl), (gm 648 (by decide +kernel) rfl), (gm 649 (by decide +kernel) rfl), (by decide +kernel), (by decide +kernel)⟩
theorem cc105 : MlP (10, 157, 0, 1, 127, 0, 0) := ⟨(by decide +kernel), (gm 724 (by decide +kernel) rfl), (gm 726 (by decide +kernel) rfl), (gm 26 (by decide +kernel) rfl), (by decide +kernel), (by decide +kernel)⟩
set_option maxRecDepth 20000 in
theorem cc106 : MlP (10, 164, 5, 0, 39, 14, 9) := ⟨(fun _ => ⟨(by decide +kernel), ⟨"FourLorries$Part", "kind", "()I"⟩, (gm 728 (by decide +kernel) rfl), (gm 731 (by decide +kernel) rfl), (gm 730 (by decide +kernel) rfl), (gm 729 (by decide +kernel) rfl), (gm 729 (by decide +kernel) rfl), ⟨_, _, _, gm 738 rfl rfl⟩, (by decide +kernel)⟩), (fun _ => ⟨(by decide +kernel), ⟨"FourLorries$Part", "kind", "()I"⟩, (gm 728 (by decide +kernel) rfl), (gm 731 (by decide +kernel) rfl), (gm 735 (by decide +kernel) rfl), (gm 736 (by decide +kernel) rfl), (gm 729 (by decide +kernel) rfl), ⟨_, _, _, gm 738 rfl rfl⟩, (by decide +kernel)⟩), (fun _ => ⟨(by decide +kernel), ⟨"FourLorries$Part", "kind", "()I"⟩, (gm 728 (by decide +kernel) rfl), (gm 731 (by decide +kernel) rfl), (gm 732 (by decide +kernel) rfl), (gm 733 (by decide +kernel) rfl), (gm 729 (by decide +kernel) rfl), ⟨_, _, _, gm 738 rfl rfl⟩, (by decide +kernel)⟩)⟩
theorem cc107 : MlP (10, 185, 2, 1, 129, 0, 0) := ⟨(by decide +kernel), (gm 743 (by decide +kernel) rfl), (gm 744 (by decide +kernel) rfl), (by decide +kernel)⟩
set_option maxRecDepth 20000 in
theorem cc108 : MlP (10, 191, 5, 1, 40, 15, 10) := ⟨(fun _ => ⟨(by decide +kernel), ⟨"FourLorries$Part", "hoursFor", "(I)I"⟩, (gm 750 (by decide +kernel) rfl), (gm 753 (by decide +kernel) rfl), (gm 752 (by decide +kernel) rfl), (gm 751 (by decide +kernel) rfl), (gm 751 (by decide +kernel) rfl), ⟨_, _, _, gm 761 rfl rfl⟩, (by decide +kernel)⟩), (fun _ => ⟨(by decide +kernel), ⟨"FourLorries$Part", "hoursFor", "(I)I"⟩, (gm 750 (by decide +kernel) rfl), (gm 753 (by decide +kernel) rfl), (gm 757 (by decide +kernel) rfl), (gm 758 (by decide +kernel) rfl), (gm 751 (by decide +kernel) rfl), ⟨_, _, _, gm 761 rfl rfl⟩, (by decide +kernel)⟩), (fun _ => ⟨(by decide +kernel), ⟨"FourLorries$Part", "hoursFor", "(I)I"⟩, (gm 750 (by decide +kernel) rfl), (gm 753 (by decide +kernel) rfl), (gm 754 (by decide +kernel) rfl), (gm 755 (by decide +kernel) rfl), (gm 751 (by decide +kernel) rfl), ⟨_, _, _, gm 761 rfl rfl⟩, (by decide +kernel)⟩)⟩
theorem cc109 : MlP (10, 194, 0, 3, 80, 0, 0) := ⟨(by decide +kernel), (gm 766 (by decide +kernel) rfl), (gm 767 (by decide +kernel) rfl), (gm 768 (by decide +kernel) rfl), (by decide +kernel), (by decide +kernel)⟩
theorem cc110 : MlP (10, 198, 0, 2, 82, 0, 0) := ⟨(by decide +kernel), (gm 779 (by decide +kernel) rfl), (gm 780 (by decide +kernel) rfl), (gm 781 (by decide +kernel) rfl), (by decide +kernel), (by decide +kernel)⟩
theorem cc111 : MlP (10, 202, 0, 2, 83, 0, 0) := ⟨(by decide +kernel), (gm 787 (by decide +kernel) rfl), (gm 788 (by decide +kernel) rfl), (gm 789 (by decide +kernel) rfl), (by decide +kernel), (by decide +kernel)⟩
theorem cc112 : MlP (10, 211, 0, 0, 84, 0, 0) := ⟨(by decide +kernel), (gm 803 (by decide +kernel) rfl), (gm 804 (by decide +kernel) rfl), (gm 805 (by decide +kernel) rfl), (by decide +kernel), (by decide +kernel)⟩
theorem cc113 : MlP (10, 214, 0, 0, 87, 0, 0) := ⟨(by decide +kernel), (gm 815 (by decide +kernel) rfl), (gm 816 (by decide +kernel) rfl), (gm 817 (by decide +kernel) rfl), (by decide +kernel), (by decide +kernel)⟩
theorem cc114 : MlP (10, 231, 2, 1, 0, 0, 0) := ⟨(by decide +kernel), (gm 895 (by decide +kernel) rfl), (gm 843 (by decide +kernel) rfl), (by decide +kernel)⟩
theorem cc115 : MlP (10, 236, 0, 2, 50, 0, 0) := ⟨(by decide +kernel), (gm 896 (by decide +kernel) rfl), (gm 897 (by decide +kernel) rfl), (gm 898 (by decide +kernel) rfl), (by decide +kernel), (by decide +kernel)⟩
theorem cc116 : MlP (10, 239, 0, 2, 86, 0, 0) := ⟨(by decide +kernel), (gm 900 (by decide +kernel) rfl), (gm 901 (by decide +kernel) rfl), (gm 902 (by decide +kernel) rfl), (by decide +kernel), (by decide +kernel)⟩
theorem cc117 : MlP (10, 243, 2, 1, 131, 0, 0) := ⟨(by decide +kernel), (gm 356 (by decide +kernel) rfl), (gm 357 (by decide +kernel) rfl), (by decide +kernel)⟩
theorem cc118 : MlP (10, 246, 2, 1, 132, 0, 0) := ⟨(by decide +kernel), (gm 359 (by decide +kernel) rfl), (gm 360 (by decide +kernel) rfl), (by decide +kernel)⟩
theorem cc119 : MlP (10, 249, 0, 1, 133, 0, 0) := ⟨(by decide +kernel), (gm 370 (by decide +kernel) rfl), (gm 372 (by decide +kernel) rfl), (gm 2 (by decide +kernel) rfl), (by decide +kernel), (by decide +kernel)⟩
theorem cc120 : MlP (10, 252, 0, 2, 47, 0, 0) := ⟨(by decide +kernel), (gm 909 (by decide +kernel) rfl), (gm 910 (by decide +kernel) rfl), (gm 911 (by decide +kernel) rfl), (by decide +kernel), (by decide +kernel)⟩
theorem cc121 : MlP (10, 256, 0, 0, 46, 0, 0) := ⟨(by decide +kernel), (gm 366 (by decide +kernel) rfl), (gm 367 (by decide +kernel) rfl), (gm 368 (by decide +kernel) rfl), (by decide +kernel), (by decide +kernel)⟩
theorem cc122 : MlP (10, 263, 0, 2, 48, 0, 0) := ⟨(by decide +kernel), (gm 374 (by decide +kernel) rfl), (gm 375 (by decide +kernel) rfl), (gm 376 (by decide +kernel) rfl), (by decide +kernel), (by decide +kernel)⟩
theorem cc123 : MlP (10, 266, 0, 2, 49, 0, 0) := ⟨(by decide +kernel), (gm 922 (by decide +kernel) rfl), (gm 923 (by decide +kernel) rfl), (gm 924 (by decide +kernel) rfl), (by decide +kernel), (by decide +kernel)⟩
theorem cc124 : MlP (10, 269, 0, 2, 134, 0, 0) := ⟨(by decide +kernel), (gm 362 (by decide +kernel) rfl), (gm 364 (by decide +kernel) rfl), (gm 1 (by decide +kernel) rfl), (by decide +kernel), (by decide +kernel)⟩
theorem cc125 : MlP (10, 275, 8, 5, 0, 0, 0) := (gm 934 (by decide +kernel) rfl)
set_option maxRecDepth 20000 in
theorem cc126 : MlP (10, 281, 5, 1, 42, 16, 11) := ⟨(fun _ => ⟨(by decide +kernel), ⟨"FourLorries$Part", "telling", "(LFourLorries$Trace;)I"⟩, (gm 939 (by decide +kernel) rfl), (gm 942 (by decide +kernel) rfl), (gm 941 (by decide +kernel) rfl), (gm 940 (by decide +kernel) rfl), (gm 940 (by decide +kernel) rfl), ⟨_, _, _, gm 963 rfl rfl⟩, (by decide +kernel)⟩), (fun _ => ⟨(by decide +kernel), ⟨"FourLorries$Part", "telling", "(LFourLorries$Trace;)I"⟩, (gm 939 (by decide +kernel) rfl), (gm 942 (by decide +kernel) rfl), (gm 962 (by decide +kernel) rfl), (gm 951 (by decide +kernel) rfl), (gm 940 (by decide +kernel) rfl), ⟨_, _, _, gm 963 rfl rfl⟩, (by decide +kernel)⟩), (fun _ => ⟨(by decide +kernel), ⟨"FourLorries$Part", "telling", "(LFourLorries$Trace;)I"⟩, (gm 939 (by decide +kernel) rfl), (gm 942 (by decide +kernel) rfl), (gm 943 (by decide +kernel) rfl), (gm 944 (by decide +kernel) rfl), (gm 940 (by decide +kernel) rfl), ⟨_, _, _, gm 963 rfl rfl⟩, (by decide +kernel)⟩)⟩
set_option maxRecDepth 20000 in
theorem cc127 : MlP (10, 285, 5, 1, 44, 44, 12) := ⟨(fun _ => ⟨(by decide +kernel), ⟨"FourLorries$Part", "listed", "(LFourLorries$Trace;)I"⟩, (gm 969 (by decide +kernel) rfl), (gm 972 (by decide +kernel) rfl), (gm 971 (by decide +kernel) rfl), (gm 970 (by decide +kernel) rfl), (gm 970 (by decide +kernel) rfl), ⟨_, _, _, gm 977 rfl rfl⟩, (by decide +kernel)⟩), (fun _ => ⟨(by decide +kernel), ⟨"FourLorries$Part", "listed", "(LFourLorries$Trace;)I"⟩, (gm 969 (by decide +kernel) rfl), (gm 972 (by decide +kernel) rfl), (gm 976 (by decide +kernel) rfl), (gm 970 (by decide +kernel) rfl), (gm 970 (by decide +kernel) rfl), ⟨_, _, _, gm 977 rfl rfl⟩, (by decide +kernel)⟩), (fun _ => ⟨(by decide +kernel), ⟨"FourLorries$Part", "listed", "(LFourLorries$Trace;)I"⟩, (gm 969 (by decide +kernel) rfl), (gm 972 (by decide +kernel) rfl), (gm 973 (by decide +kernel) rfl), (gm 974 (by decide +kernel) rfl), (gm 970 (by decide +kernel) rfl), ⟨_, _, _, gm 977 rfl rfl⟩, (by decide +kernel)⟩)⟩
theorem cc128 : MlP (10, 296, 0, 0, 88, 0, 0) := ⟨(by decide +kernel), (gm 996 (by decide +kernel) rfl), (gm 997 (by decide +kernel) rfl), (gm 998 (by decide +kernel) rfl), (by decide +kernel), (by decide +kernel)⟩
theorem cc129 : MlP (10, 299, 0, 0, 89, 0, 0) := ⟨(by decide +kernel), (gm 1000 (by decide +kernel) rfl), (gm 1001 (by decide +kernel) rfl), (gm 1002 (by decide +kernel) rfl), (by decide +kernel), (by decide +kernel)⟩
theorem cc130 : MlP (10, 302, 0, 2, 22, 0, 0) := ⟨(by decide +kernel), (gm 607 (by decide +kernel) rfl), (gm 608 (by decide +kernel) rfl), (gm 609 (by decide +kernel) rfl), (by decide +kernel), (by decide +kernel)⟩
theorem cc131 : MlP (11, 1, 7, 0, 0, 0, 0) := (gm 1009 (by decide +kernel) rfl)
theorem cc132 : MlP (11, 97, 2, 0, 140, 0, 0) := ⟨(by decide +kernel), (gm 1232 (by decide +kernel) rfl), (gm 1233 (by decide +kernel) rfl), (by decide +kernel)⟩
theorem cc133 : MlP (11, 101, 2, 1, 206, 0, 0) := ⟨(by decide +kernel), (gm 1134 (by decide +kernel) rfl), (gm 1135 (by decide +kernel) rfl), (by decide +kernel)⟩
theorem cc134 : MlP (11, 105, 0, 1, 143, 0, 0) := ⟨(by decide +kernel), (gm 1141 (by decide +kernel) rfl), (gm 1143 (by decide +kernel) rfl), (gm 39 (by decide +kernel) rfl), (by decide +kernel), (by decide +kernel)⟩
theorem cc135 : MlP (11, 111, 2, 3, 139, 0, 0) := ⟨(by decide +kernel), (gm 1138 (by decide +kernel) rfl), (gm 1139 (by decide +kernel) rfl), (by decide +kernel)⟩
theorem cc136 : MlP (11, 115, 0, 1, 144, 0, 0) := ⟨(by decide +kernel), (gm 1146 (by decide +kernel) rfl), (gm 1148 (by decide +kernel) rfl), (gm 40 (by decide +kernel) rfl), (by decide +kernel), (by decide +kernel)⟩
theorem cc137 : MlP (11, 118, 2, 3, 212, 0, 0) := ⟨(by decide +kernel), (gm 1150 (by decide +kernel) rfl), (gm 1151 (by decide +kernel) rfl), (by decide +kernel)⟩
theorem cc138 : MlP (11, 125, 0, 1, 147, 0, 0) := ⟨(by decide +kernel), (gm 1191 (by decide +kernel) rfl), (gm 1193 (by decide +kernel) rfl), (gm 49 (by decide +kernel) rfl), (by decide +kernel), (by decide +kernel)⟩
theorem cc139 : MlP (11, 138, 0, 3, 150, 0, 0) := ⟨(by decide +kernel), (gm 1157 (by decide +kernel) rfl), (gm 1159 (by decide +kernel) rfl), (gm 42 (by decide +kernel) rfl), (by decide +kernel), (by decide +kernel)⟩
theorem cc140 : MlP (11, 142, 0, 5, 151, 0, 0) := ⟨(by decide +kernel), (gm 1161 (by decide +kernel) rfl), (gm 1163 (by decide +kernel) rfl), (gm 43 (by decide +kernel) rfl), (by decide +kernel), (by decide +kernel)⟩
theorem cc141 : MlP (11, 149, 0, 7, 152, 0, 0) := ⟨(by decide +kernel), (gm 1171 (by decide +kernel) rfl), (gm 1173 (by decide +kernel) rfl), (gm 45 (by decide +kernel) rfl), (by decide +kernel), (by decide +kernel)⟩
theorem cc142 : MlP (11, 159, 0, 2, 153, 0, 0) := ⟨(by decide +kernel), (gm 1167 (by decide +kernel) rfl), (gm 1169 (by decide +kernel) rfl), (gm 44 (by decide +kernel) rfl), (by decide +kernel), (by decide +kernel)⟩
theorem cc143 : MlP (11, 163, 0, 3, 156, 0, 0) := ⟨(by decide +kernel), (gm 1175 (by decide +kernel) rfl), (gm 1177 (by decide +kernel) rfl), (gm 46 (by decide +kernel) rfl), (by decide +kernel), (by decide +kernel)⟩
theorem cc144 : MlP (11, 166, 0, 2, 154, 0, 0) := ⟨(by decide +kernel), (gm 1179 (by decide +kernel) rfl), (gm 1181 (by decide +kernel) rfl), (gm 47 (by decide +kernel) rfl), (by decide +kernel), (by decide +kernel)⟩
theorem cc145 : MlP (11, 169, 0, 2, 155, 0, 0) := ⟨(by decide +kernel), (gm 1183 (by decide +kernel) rfl), (gm 1185 (by decide +kernel) rfl), (gm 48 (by decide +kernel) rfl), (by decide +kernel), (by decide +kernel)⟩
theorem cc146 : MlP (11, 172, 0, 4, 146, 0, 0) := ⟨(by decide +kernel), (gm 1130 (by decide +kernel) rfl), (gm 1132 (by decide +kernel) rfl), (gm 38 (by decide +kernel) rfl), (by decide +kernel), (by decide +kernel)⟩
theorem cc147 : MlP (11, 176, 0, 2, 157, 0, 0) := ⟨(by decide +kernel), (gm 1153 (by decide +kernel) rfl), (gm 1155 (by decide +kernel) rfl), (gm 41 (by decide +kernel) rfl), (by decide +kernel), (by decide +kernel)⟩
theorem cc148 : MlP (11, 179, 2, 2, 142, 0, 0) := ⟨(by decide +kernel), (gm 1207 (by decide +kernel) rfl), (gm 1208 (by decide +kernel) rfl), (by decide +kernel)⟩
theorem cc149 : MlP (11, 183, 0, 3, 149, 0, 0) := ⟨(by decide +kernel), (gm 1199 (by decide +kernel) rfl), (gm 1201 (by decide +kernel) rfl), (gm 51 (by decide +kernel) rfl), (by decide +kernel), (by decide +kernel)⟩
theorem cc150 : MlP (11, 187, 0, 1, 160, 0, 0) := ⟨(by decide +kernel), (gm 1195 (by decide +kernel) rfl), (gm 1197 (by decide +kernel) rfl), (gm 50 (by decide +kernel) rfl), (by decide +kernel), (by decide +kernel)⟩
theorem cc151 : MlP (11, 190, 0, 3, 159, 0, 0) := ⟨(by decide +kernel), (gm 1203 (by decide +kernel) rfl), (gm 1205 (by decide +kernel) rfl), (gm 52 (by decide +kernel) rfl), (by decide +kernel), (by decide +kernel)⟩
theorem cc152 : MlP (11, 195, 0, 2, 148, 0, 0) := ⟨(by decide +kernel), (gm 1215 (by decide +kernel) rfl), (gm 1217 (by decide +kernel) rfl), (gm 53 (by decide +kernel) rfl), (by decide +kernel), (by decide +kernel)⟩
theorem cc153 : MlP (11, 202, 2, 2, 164, 0, 0) := ⟨(by decide +kernel), (gm 1247 (by decide +kernel) rfl), (gm 1248 (by decide +kernel) rfl), (by decide +kernel)⟩
theorem cc154 : MlP (11, 206, 2, 1, 167, 0, 0) := ⟨(by decide +kernel), (gm 1258 (by decide +kernel) rfl), (gm 1259 (by decide +kernel) rfl), (by decide +kernel)⟩
theorem cc155 : MlP (11, 209, 0, 2, 168, 0, 0) := ⟨(by decide +kernel), (gm 1266 (by decide +kernel) rfl), (gm 1268 (by decide +kernel) rfl), (gm 58 (by decide +kernel) rfl), (by decide +kernel), (by decide +kernel)⟩
theorem cc156 : MlP (11, 212, 2, 3, 165, 0, 0) := ⟨(by decide +kernel), (gm 1244 (by decide +kernel) rfl), (gm 1245 (by decide +kernel) rfl), (by decide +kernel)⟩
theorem cc157 : MlP (11, 216, 2, 3, 166, 0, 0) := ⟨(by decide +kernel), (gm 1250 (by decide +kernel) rfl), (gm 1251 (by decide +kernel) rfl), (by decide +kernel)⟩
theorem cc158 : MlP (11, 222, 0, 6, 169, 0, 0) := ⟨(by decide +kernel), (gm 1262 (by decide +kernel) rfl), (gm 1264 (by decide +kernel) rfl), (gm 57 (by decide +kernel) rfl), (by decide +kernel), (by decide +kernel)⟩
theorem cc159 : MlP (11, 230, 0, 3, 170, 0, 0) := ⟨(by decide +kernel), (gm 1271 (by decide +kernel) rfl), (gm 1273 (by decide +kernel) rfl), (gm 59 (by decide +kernel) rfl), (by decide +kernel), (by decide +kernel)⟩
theorem cc160 : MlP (11, 233, 0, 2, 172, 0, 0) := ⟨(by decide +kernel), (gm 1240 (by decide +kernel) rfl), (gm 1242 (by decide +kernel) rfl), (gm 55 (by decide +kernel) rfl), (by decide +kernel), (by decide +kernel)⟩
theorem cc161 : MlP (11, 237, 0, 4, 171, 0, 0) := ⟨(by decide +kernel), (gm 1254 (by decide +kernel) rfl), (gm 1256 (by decide +kernel) rfl), (gm 56 (by decide +kernel) rfl), (by decide +kernel), (by decide +kernel)⟩
theorem cc162 : MlP (11, 243, 2, 1, 174, 0, 0) := ⟨(by decide +kernel), (gm 1228 (by decide +kernel) rfl), (gm 1229 (by decide +kernel) rfl), (by decide +kernel)⟩
theorem cc163 : MlP (11, 246, 0, 4, 173, 0, 0) := ⟨(by decide +kernel), (gm 1236 (by decide +kernel) rfl), (gm 1238 (by decide +kernel) rfl), (gm 54 (by decide +kernel) rfl), (by decide +kernel), (by decide +kernel)⟩
theorem cc164 : MlP (11, 249, 0, 4, 177, 0, 0) := ⟨(by decide +kernel), (gm 1283 (by decide +kernel) rfl), (gm 1285 (by decide +kernel) rfl), (gm 60 (by decide +kernel) rfl), (by decide +kernel), (by decide +kernel)⟩
theorem cc165 : MlP (11, 255, 0, 4, 181, 0, 0) := ⟨(by decide +kernel), (gm 1300 (by decide +kernel) rfl), (gm 1302 (by decide +kernel) rfl), (gm 61 (by decide +kernel) rfl), (by decide +kernel), (by decide +kernel)⟩
theorem cc166 : MlP (11, 262, 2, 1, 184, 0, 0) := ⟨(by decide +kernel), (gm 1308 (by decide +kernel) rfl), (gm 1309 (by decide +kernel) rfl), (by decide +kernel)⟩
theorem cc167 : MlP (11, 267, 0, 1, 183, 0, 0) := ⟨(by decide +kernel), (gm 1316 (by decide +kernel) rfl), (gm 1318 (by decide +kernel) rfl), (gm 62 (by decide +kernel) rfl), (by decide +kernel), (by decide +kernel)⟩
theorem cc168 : MlP (11, 270, 2, 1, 187, 0, 0) := ⟨(by decide +kernel), (gm 1324 (by decide +kernel) rfl), (gm 1325 (by decide +kernel) rfl), (by decide +kernel)⟩
theorem cc169 : MlP (11, 273, 0, 2, 189, 0, 0) := ⟨(by decide +kernel), (gm 1331 (by decide +kernel) rfl), (gm 1333 (by decide +kernel) rfl), (gm 63 (by decide +kernel) rfl), (by decide +kernel), (by decide +kernel)⟩
theorem cc170 : MlP (11, 278, 0, 1, 196, 0, 0) := ⟨(by decide +kernel), (gm 1360 (by decide +kernel) rfl), (gm 1362 (by decide +kernel) rfl), (gm 64 (by decide +kernel) rfl), (by decide +kernel), (by decide +kernel)⟩
theorem cc171 : MlP (11, 284, 2, 2, 141, 0, 0) := ⟨(by decide +kernel), (gm 1383 (by decide +kernel) rfl), (gm 1384 (by decide +kernel) rfl), (by decide +kernel)⟩
theorem cc172 : MlP (11, 287, 0, 1, 198, 0, 0) := ⟨(by decide +kernel), (gm 1379 (by decide +kernel) rfl), (gm 1381 (by decide +kernel) rfl), (gm 67 (by decide +kernel) rfl), (by decide +kernel), (by decide +kernel)⟩
theorem cc173 : MlP (11, 292, 0, 2, 199, 0, 0) := ⟨(by decide +kernel), (gm 1387 (by decide +kernel) rfl), (gm 1389 (by decide +kernel) rfl), (gm 68 (by decide +kernel) rfl), (by decide +kernel), (by decide +kernel)⟩
theorem cc174 : MlP (11, 301, 2, 1, 201, 0, 0) := ⟨(by decide +kernel), (gm 1372 (by decide +kernel) rfl), (gm 1373 (by decide +kernel) rfl), (by decide +kernel)⟩
theorem cc175 : MlP (11, 304, 0, 1, 200, 0, 0) := ⟨(by decide +kernel), (gm 1375 (by decide +kernel) rfl), (gm 1377 (by decide +kernel) rfl), (gm 66 (by decide +kernel) rfl), (by decide +kernel), (by decide +kernel)⟩
theorem cc176 : MlP (11, 307, 0, 0, 202, 0, 0) := ⟨(by decide +kernel), (gm 1368 (by decide +kernel) rfl), (gm 1370 (by decide +kernel) rfl), (gm 65 (by decide +kernel) rfl), (by decide +kernel), (by decide +kernel)⟩
theorem cc177 : MlP (11, 310, 0, 0, 197, 0, 0) := ⟨(by decide +kernel), (gm 1399 (by decide +kernel) rfl), (gm 1357 (by decide +kernel) rfl), (gm 1358 (by decide +kernel) rfl), (by decide +kernel), (by decide +kernel)⟩
theorem cc178 : MlP (11, 314, 0, 2, 209, 0, 0) := ⟨(by decide +kernel), (gm 1412 (by decide +kernel) rfl), (gm 1414 (by decide +kernel) rfl), (gm 69 (by decide +kernel) rfl), (by decide +kernel), (by decide +kernel)⟩
theorem cc179 : MlP (11, 317, 0, 1, 145, 0, 0) := ⟨(by decide +kernel), (gm 1420 (by decide +kernel) rfl), (gm 1422 (by decide +kernel) rfl), (gm 70 (by decide +kernel) rfl), (by decide +kernel), (by decide +kernel)⟩
theorem cc180 : MlP (11, 324, 0, 1, 214, 0, 0) := ⟨(by decide +kernel), (gm 1432 (by decide +kernel) rfl), (gm 1434 (by decide +kernel) rfl), (gm 71 (by decide +kernel) rfl), (by decide +kernel), (by decide +kernel)⟩
theorem cc181 : MlP (12, 9, 3, 0, 90, 0, 0) := ⟨(by decide +kernel), (gm 91 (by decide +kernel) rfl), (gm 92 (by decide +kernel) rfl), (by decide +kernel), (by decide +kernel), rfl⟩
theorem cc182 : MlP (12, 12, 3, 0, 138, 0, 0) := ⟨(by decide +kernel), (gm 1006 (by decide +kernel) rfl), (gm 1007 (by decide +kernel) rfl), (by decide +kernel), (by decide +kernel), rfl⟩
theorem cc183 : MlP (12, 13, 0, 4, 91, 0, 0) := ⟨(by decide +kernel), (gm 348 (by decide +kernel) rfl), (gm 349 (by decide +kernel) rfl), (gm 350 (by decide +kernel) rfl), (by decide +kernel), (by decide +kernel)⟩
theorem cc184 : MlP (12, 17, 0, 4, 158, 0, 0) := ⟨(by decide +kernel), (gm 1126 (by decide +kernel) rfl), (gm 1127 (by decide +kernel) rfl), (gm 1128 (by decide +kernel) rfl), (by decide +kernel), (by decide +kernel)⟩
theorem cc185 : MlP (12, 18, 0, 2, 92, 0, 0) := ⟨(by decide +kernel), (gm 474 (by decide +kernel) rfl), (gm 475 (by decide +kernel) rfl), (gm 476 (by decide +kernel) rfl), (by decide +kernel), (by decide +kernel)⟩
theorem cc186 : MlP (12, 22, 0, 2, 161, 0, 0) := ⟨(by decide +kernel), (gm 1187 (by decide +kernel) rfl), (gm 1188 (by decide +kernel) rfl), (gm 1189 (by decide +kernel) rfl), (by decide +kernel), (by decide +kernel)⟩
theorem cc187 : MlP (12, 23, 0, 3, 93, 0, 0) := ⟨(by decide +kernel), (gm 491 (by decide +kernel) rfl), (gm 492 (by decide +kernel) rfl), (gm 493 (by decide +kernel) rfl), (by decide +kernel), (by decide +kernel)⟩
theorem cc188 : MlP (12, 27, 0, 3, 162, 0, 0) := ⟨(by decide +kernel), (gm 1211 (by decide +kernel) rfl), (gm 1212 (by decide +kernel) rfl), (gm 1213 (by decide +kernel) rfl), (by decide +kernel), (by decide +kernel)⟩
theorem cc189 : MlP (12, 28, 0, 4, 94, 0, 0) := ⟨(by decide +kernel), (gm 500 (by decide +kernel) rfl), (gm 501 (by decide +kernel) rfl), (gm 502 (by decide +kernel) rfl), (by decide +kernel), (by decide +kernel)⟩
theorem cc190 : MlP (12, 31, 0, 4, 163, 0, 0) := ⟨(by decide +kernel), (gm 1220 (by decide +kernel) rfl), (gm 1221 (by decide +kernel) rfl), (gm 1222 (by decide +kernel) rfl), (by decide +kernel), (by decide +kernel)⟩
theorem cc191 : MlP (12, 32, 0, 4, 95, 0, 0) := ⟨(by decide +kernel), (gm 514 (by decide +kernel) rfl), (gm 515 (by decide +kernel) rfl), (gm 516 (by decide +kernel) rfl), (by decide +kernel), (by decide +kernel)⟩
theorem cc192 : MlP (12, 36, 0, 4, 175, 0, 0) := ⟨(by decide +kernel), (gm 1224 (by decide +kernel) rfl), (gm 1225 (by decide +kernel) rfl), (gm 1226 (by decide +kernel) rfl), (by decide +kernel), (by decide +kernel)⟩
theorem cc193 : MlP (12, 37, 0, 3, 96, 0, 0) := ⟨(by decide +kernel), (gm 591 (by decide +kernel) rfl), (gm 592 (by decide +kernel) rfl), (gm 593 (by decide +kernel) rfl), (by decide +kernel), (by decide +kernel)⟩
theorem cc194 : MlP (12, 40, 0, 3, 176, 0, 0) := ⟨(by decide +kernel), (gm 1275 (by decide +kernel) rfl), (gm 1276 (by decide +kernel) rfl), (gm 1277 (by decide +kernel) rfl), (by decide +kernel), (by decide +kernel)⟩
theorem cc195 : MlP (12, 41, 0, 3, 97, 0, 0) := ⟨(by decide +kernel), (gm 599 (by decide +kernel) rfl), (gm 600 (by decide +kernel) rfl), (gm 601 (by decide +kernel) rfl), (by decide +kernel), (by decide +kernel)⟩
theorem cc196 : MlP (12, 45, 0, 3, 178, 0, 0) := ⟨(by decide +kernel), (gm 1279 (by decide +kernel) rfl), (gm 1280 (by decide +kernel) rfl), (gm 1281 (by decide +kernel) rfl), (by decide +kernel), (by decide +kernel)⟩
theorem cc197 : MlP (12, 46, 0, 4, 98, 0, 0) := ⟨(by decide +kernel), (gm 611 (by decide +kernel) rfl), (gm 612 (by decide +kernel) rfl), (gm 613 (by decide +kernel) rfl), (by decide +kernel), (by decide +kernel)⟩
theorem cc198 : MlP (12, 49, 0, 4, 179, 0, 0) := ⟨(by decide +kernel), (gm 1287 (by decide +kernel) rfl), (gm 1288 (by decide +kernel) rfl), (gm 1289 (by decide +kernel) rfl), (by decide +kernel), (by decide +kernel)⟩
theorem cc199 : MlP (12, 50, 0, 4, 99, 0, 0) := ⟨(by decide +kernel), (gm 629 (by decide +kernel) rfl), (gm 630 (by decide +kernel) rfl), (gm 631 (by decide +kernel) rfl), (by decide +kernel), (by decide +kernel)⟩
theorem cc200 : MlP (12, 53, 0, 4, 180, 0, 0) := ⟨(by decide +kernel), (gm 1292 (by decide +kernel) rfl), (gm 1293 (by decide +kernel) rfl), (gm 1294 (by decide +kernel) rfl), (by decide +kernel), (by decide +kernel)⟩
theorem cc201 : MlP (12, 54, 0, 5, 100, 0, 0) := ⟨(by decide +kernel), (gm 633 (by decide +kernel) rfl), (gm 634 (by decide +kernel) rfl), (gm 635 (by decide +kernel) rfl), (by decide +kernel), (by decide +kernel)⟩
theorem cc202 : MlP (12, 58, 0, 5, 182, 0, 0) := ⟨(by decide +kernel), (gm 1296 (by decide +kernel) rfl), (gm 1297 (by decide +kernel) rfl), (gm 1298 (by decide +kernel) rfl), (by decide +kernel), (by decide +kernel)⟩
theorem cc203 : MlP (12, 59, 0, 3, 101, 0, 0) := ⟨(by decide +kernel), (gm 640 (by decide +kernel) rfl), (gm 641 (by decide +kernel) rfl), (gm 642 (by decide +kernel) rfl), (by decide +kernel), (by decide +kernel)⟩
theorem cc204 : MlP (12, 62, 0, 3, 185, 0, 0) := ⟨(by decide +kernel), (gm 1304 (by decide +kernel) rfl), (gm 1305 (by decide +kernel) rfl), (gm 1306 (by decide +kernel) rfl), (by decide +kernel), (by decide +kernel)⟩
theorem cc205 : MlP (12, 63, 0, 2, 102, 0, 0) := ⟨(by decide +kernel), (gm 720 (by decide +kernel) rfl), (gm 721 (by decide +kernel) rfl), (gm 722 (by decide +kernel) rfl), (by decide +kernel), (by decide +kernel)⟩
theorem cc206 : MlP (12, 66, 0, 2, 186, 0, 0) := ⟨(by decide +kernel), (gm 1312 (by decide +kernel) rfl), (gm 1313 (by decide +kernel) rfl), (gm 1314 (by decide +kernel) rfl), (by decide +kernel), (by decide +kernel)⟩
theorem cc207 : MlP (12, 67, 0, 2, 103, 0, 0) := ⟨(by decide +kernel), (gm 739 (by decide +kernel) rfl), (gm 740 (by decide +kernel) rfl), (gm 741 (by decide +kernel) rfl), (by decide +kernel), (by decide +kernel)⟩
theorem cc208 : MlP (12, 70, 0, 2, 188, 0, 0) := ⟨(by decide +kernel), (gm 1320 (by decide +kernel) rfl), (gm 1321 (by decide +kernel) rfl), (gm 1322 (by decide +kernel) rfl), (by decide +kernel), (by decide +kernel)⟩
theorem cc209 : MlP (12, 71, 0, 2, 104, 0, 0) := ⟨(by decide +kernel), (gm 746 (by decide +kernel) rfl), (gm 747 (by decide +kernel) rfl), (gm 748 (by decide +kernel) rfl), (by decide +kernel), (by decide +kernel)⟩
theorem cc210 : MlP (12, 74, 0, 2, 190, 0, 0) := ⟨(by decide +kernel), (gm 1327 (by decide +kernel) rfl), (gm 1328 (by decide +kernel) rfl), (gm 1329 (by decide +kernel) rfl), (by decide +kernel), (by decide +kernel)⟩
theorem cc211 : MlP (12, 75, 0, 4, 105, 0, 0) := ⟨(by decide +kernel), (gm 762 (by decide +kernel) rfl), (gm 763 (by decide +kernel) rfl), (gm 764 (by decide +kernel) rfl), (by decide +kernel), (by decide +kernel)⟩
theorem cc212 : MlP (12, 78, 0, 4, 191, 0, 0) := ⟨(by decide +kernel), (gm 1335 (by decide +kernel) rfl), (gm 1336 (by decide +kernel) rfl), (gm 1337 (by decide +kernel) rfl), (by decide +kernel), (by decide +kernel)⟩
theorem cc213 : MlP (12, 79, 0, 2, 106, 0, 0) := ⟨(by decide +kernel), (gm 775 (by decide +kernel) rfl), (gm 776 (by decide +kernel) rfl), (gm 777 (by decide +kernel) rfl), (by decide +kernel), (by decide +kernel)⟩
theorem cc214 : MlP (12, 83, 0, 2, 192, 0, 0) := ⟨(by decide +kernel), (gm 1340 (by decide +kernel) rfl), (gm 1341 (by decide +kernel) rfl), (gm 1342 (by decide +kernel) rfl), (by decide +kernel), (by decide +kernel)⟩
theorem cc215 : MlP (12, 84, 0, 2, 107, 0, 0) := ⟨(by decide +kernel), (gm 783 (by decide +kernel) rfl), (gm 784 (by decide +kernel) rfl), (gm 785 (by decide +kernel) rfl), (by decide +kernel), (by decide +kernel)⟩
theorem cc216 : MlP (12, 87, 0, 2, 193, 0, 0) := ⟨(by decide +kernel), (gm 1344 (by decide +kernel) rfl), (gm 1345 (by decide +kernel) rfl), (gm 1346 (by decide +kernel) rfl), (by decide +kernel), (by decide +kernel)⟩
theorem cc217 : MlP (12, 88, 0, 1, 108, 0, 0) := ⟨(by decide +kernel), (gm 791 (by decide +kernel) rfl), (gm 792 (by decide +kernel) rfl), (gm 793 (by decide +kernel) rfl), (by decide +kernel), (by decide +kernel)⟩
theorem cc218 : MlP (12, 92, 0, 1, 194, 0, 0) := ⟨(by decide +kernel), (gm 1348 (by decide +kernel) rfl), (gm 1349 (by decide +kernel) rfl), (gm 1350 (by decide +kernel) rfl), (by decide +kernel), (by decide +kernel)⟩
theorem cc219 : MlP (12, 93, 0, 2, 109, 0, 0) := ⟨(by decide +kernel), (gm 795 (by decide +kernel) rfl), (gm 796 (by decide +kernel) rfl), (gm 797 (by decide +kernel) rfl), (by decide +kernel), (by decide +kernel)⟩
theorem cc220 : MlP (12, 96, 0, 2, 195, 0, 0) := ⟨(by decide +kernel), (gm 1352 (by decide +kernel) rfl), (gm 1353 (by decide +kernel) rfl), (gm 1354 (by decide +kernel) rfl), (by decide +kernel), (by decide +kernel)⟩
theorem cc221 : MlP (12, 97, 0, 0, 110, 0, 0) := ⟨(by decide +kernel), (gm 799 (by decide +kernel) rfl), (gm 800 (by decide +kernel) rfl), (gm 801 (by decide +kernel) rfl), (by decide +kernel), (by decide +kernel)⟩
theorem cc222 : MlP (12, 101, 0, 0, 197, 0, 0) := ⟨(by decide +kernel), (gm 1356 (by decide +kernel) rfl), (gm 1357 (by decide +kernel) rfl), (gm 1358 (by decide +kernel) rfl), (by decide +kernel), (by decide +kernel)⟩
theorem cc223 : MlP (12, 102, 0, 1, 111, 0, 0) := ⟨(by decide +kernel), (gm 811 (by decide +kernel) rfl), (gm 812 (by decide +kernel) rfl), (gm 813 (by decide +kernel) rfl), (by decide +kernel), (by decide +kernel)⟩
theorem cc224 : MlP (12, 105, 0, 1, 203, 0, 0) := ⟨(by decide +kernel), (gm 1364 (by decide +kernel) rfl), (gm 1365 (by decide +kernel) rfl), (gm 1366 (by decide +kernel) rfl), (by decide +kernel), (by decide +kernel)⟩
theorem cc225 : MlP (12, 106, 0, 1, 112, 0, 0) := ⟨(by decide +kernel), (gm 887 (by decide +kernel) rfl), (gm 888 (by decide +kernel) rfl), (gm 889 (by decide +kernel) rfl), (by decide +kernel), (by decide +kernel)⟩
theorem cc226 : MlP (12, 109, 0, 1, 204, 0, 0) := ⟨(by decide +kernel), (gm 1391 (by decide +kernel) rfl), (gm 1392 (by decide +kernel) rfl), (gm 1393 (by decide +kernel) rfl), (by decide +kernel), (by decide +kernel)⟩
theorem cc227 : MlP (12, 110, 0, 4, 113, 0, 0) := ⟨(by decide +kernel), (gm 891 (by decide +kernel) rfl), (gm 892 (by decide +kernel) rfl), (gm 893 (by decide +kernel) rfl), (by decide +kernel), (by decide +kernel)⟩
theorem cc228 : MlP (12, 113, 0, 4, 205, 0, 0) := ⟨(by decide +kernel), (gm 1395 (by decide +kernel) rfl), (gm 1396 (by decide +kernel) rfl), (gm 1397 (by decide +kernel) rfl), (by decide +kernel), (by decide +kernel)⟩
theorem cc229 : MlP (12, 114, 0, 3, 114, 0, 0) := ⟨(by decide +kernel), (gm 905 (by decide +kernel) rfl), (gm 906 (by decide +kernel) rfl), (gm 907 (by decide +kernel) rfl), (by decide +kernel), (by decide +kernel)⟩
theorem cc230 : MlP (12, 117, 0, 3, 207, 0, 0) := ⟨(by decide +kernel), (gm 1400 (by decide +kernel) rfl), (gm 1401 (by decide +kernel) rfl), (gm 1402 (by decide +kernel) rfl), (by decide +kernel), (by decide +kernel)⟩
theorem cc231 : MlP (12, 118, 0, 1, 115, 0, 0) := ⟨(by decide +kernel), (gm 914 (by decide +kernel) rfl), (gm 915 (by decide +kernel) rfl), (gm 916 (by decide +kernel) rfl), (by decide +kernel), (by decide +kernel)⟩
theorem cc232 : MlP (12, 121, 0, 1, 208, 0, 0) := ⟨(by decide +kernel), (gm 1404 (by decide +kernel) rfl), (gm 1405 (by decide +kernel) rfl), (gm 1406 (by decide +kernel) rfl), (by decide +kernel), (by decide +kernel)⟩
theorem cc233 : MlP (12, 122, 0, 3, 116, 0, 0) := ⟨(by decide +kernel), (gm 918 (by decide +kernel) rfl), (gm 919 (by decide +kernel) rfl), (gm 920 (by decide +kernel) rfl), (by decide +kernel), (by decide +kernel)⟩
theorem cc234 : MlP (12, 125, 0, 3, 210, 0, 0) := ⟨(by decide +kernel), (gm 1408 (by decide +kernel) rfl), (gm 1409 (by decide +kernel) rfl), (gm 1410 (by decide +kernel) rfl), (by decide +kernel), (by decide +kernel)⟩
theorem cc235 : MlP (12, 126, 0, 3, 117, 0, 0) := ⟨(by decide +kernel), (gm 926 (by decide +kernel) rfl), (gm 927 (by decide +kernel) rfl), (gm 928 (by decide +kernel) rfl), (by decide +kernel), (by decide +kernel)⟩
theorem cc236 : MlP (12, 129, 0, 3, 211, 0, 0) := ⟨(by decide +kernel), (gm 1416 (by decide +kernel) rfl), (gm 1417 (by decide +kernel) rfl), (gm 1418 (by decide +kernel) rfl), (by decide +kernel), (by decide +kernel)⟩
theorem cc237 : MlP (12, 130, 0, 5, 118, 0, 0) := ⟨(by decide +kernel), (gm 930 (by decide +kernel) rfl), (gm 931 (by decide +kernel) rfl), (gm 932 (by decide +kernel) rfl), (by decide +kernel), (by decide +kernel)⟩
theorem cc238 : MlP (12, 133, 0, 5, 213, 0, 0) := ⟨(by decide +kernel), (gm 1424 (by decide +kernel) rfl), (gm 1425 (by decide +kernel) rfl), (gm 1426 (by decide +kernel) rfl), (by decide +kernel), (by decide +kernel)⟩
theorem cc239 : MlP (12, 134, 0, 1, 119, 0, 0) := ⟨(by decide +kernel), (gm 935 (by decide +kernel) rfl), (gm 936 (by decide +kernel) rfl), (gm 937 (by decide +kernel) rfl), (by decide +kernel), (by decide +kernel)⟩
theorem cc240 : MlP (12, 137, 0, 1, 215, 0, 0) := ⟨(by decide +kernel), (gm 1428 (by decide +kernel) rfl), (gm 1429 (by decide +kernel) rfl), (gm 1430 (by decide +kernel) rfl), (by decide +kernel), (by decide +kernel)⟩
theorem cc241 : MlP (12, 138, 0, 1, 120, 0, 0) := ⟨(by decide +kernel), (gm 965 (by decide +kernel) rfl), (gm 966 (by decide +kernel) rfl), (gm 967 (by decide +kernel) rfl), (by decide +kernel), (by decide +kernel)⟩
theorem cc242 : MlP (12, 141, 0, 1, 216, 0, 0) := ⟨(by decide +kernel), (gm 1436 (by decide +kernel) rfl), (gm 1437 (by decide +kernel) rfl), (gm 1438 (by decide +kernel) rfl), (by decide +kernel), (by decide +kernel)⟩
theorem cc243 : MlP (12, 142, 0, 2, 121, 0, 0) := ⟨(by decide +kernel), (gm 978 (by decide +kernel) rfl), (gm 979 (by decide +kernel) rfl), (gm 980 (by decide +kernel) rfl), (by decide +kernel), (by decide +kernel)⟩
theorem cc244 : MlP (12, 145, 0, 2, 217, 0, 0) := ⟨(by decide +kernel), (gm 1440 (by decide +kernel) rfl), (gm 1441 (by decide +kernel) rfl), (gm 1442 (by decide +kernel) rfl), (by decide +kernel), (by decide +kernel)⟩
theorem cc245 : MlP (12, 146, 0, 0, 122, 0, 0) := ⟨(by decide +kernel), (gm 984 (by decide +kernel) rfl), (gm 985 (by decide +kernel) rfl), (gm 986 (by decide +kernel) rfl), (by decide +kernel), (by decide +kernel)⟩
theorem cc246 : MlP (12, 149, 0, 0, 218, 0, 0) := ⟨(by decide +kernel), (gm 1444 (by decide +kernel) rfl), (gm 1445 (by decide +kernel) rfl), (gm 1446 (by decide +kernel) rfl), (by decide +kernel), (by decide +kernel)⟩
theorem cc247 : MlP (12, 150, 0, 0, 123, 0, 0) := ⟨(by decide +kernel), (gm 988 (by decide +kernel) rfl), (gm 989 (by decide +kernel) rfl), (gm 990 (by decide +kernel) rfl), (by decide +kernel), (by decide +kernel)⟩
theorem cc248 : MlP (12, 153, 0, 0, 219, 0, 0) := ⟨(by decide +kernel), (gm 1448 (by decide +kernel) rfl), (gm 1449 (by decide +kernel) rfl), (gm 1450 (by decide +kernel) rfl), (by decide +kernel), (by decide +kernel)⟩
theorem cc249 : MlP (12, 154, 0, 1, 124, 0, 0) := ⟨(by decide +kernel), (gm 992 (by decide +kernel) rfl), (gm 993 (by decide +kernel) rfl), (gm 994 (by decide +kernel) rfl), (by decide +kernel), (by decide +kernel)⟩
theorem cc250 : MlP (12, 157, 0, 1, 220, 0, 0) := ⟨(by decide +kernel), (gm 1452 (by decide +kernel) rfl), (gm 1453 (by decide +kernel) rfl), (gm 1454 (by decide +kernel) rfl), (by decide +kernel), (by decide +kernel)⟩
theorem cc251 : MlP (13, 150, 8, 5, 0, 0, 0) := (gm 447 (by decide +kernel) rfl)
theorem cc252 : MlP (13, 304, 10, 2, 0, 0, 0) := (gm 444 (by decide +kernel) rfl)
theorem cc253 : MlP (13, 316, 9, 0, 0, 0, 0) := (gm 437 (by decide +kernel) rfl)
theorem mls_0 : ∀ q ∈ MLs_0, MlP q := List.forall_mem_cons.mpr ⟨cc0, List.forall_mem_cons.mpr ⟨cc1, List.forall_mem_cons.mpr ⟨cc2, List.forall_mem_cons.mpr ⟨cc3, List.forall_mem_cons.mpr ⟨cc4, List.forall_mem_cons.mpr ⟨cc5, List.forall_mem_cons.mpr ⟨cc6, List.forall_mem_cons.mpr ⟨cc7, List.forall_mem_cons.mpr ⟨cc8, List.forall_mem_cons.mpr ⟨cc9, List.forall_mem_cons.mpr ⟨cc10, List.forall_mem_cons.mpr ⟨cc11, List.forall_mem_cons.mpr ⟨cc12, List.forall_mem_cons.mpr ⟨cc13, List.forall_mem_cons.mpr ⟨cc14, List.forall_mem_cons.mpr ⟨cc15, List.forall_mem_cons.mpr ⟨cc16, List.forall_mem_cons.mpr ⟨cc17, List.forall_mem_cons.mpr ⟨cc18, List.forall_mem_cons.mpr ⟨cc19, List.forall_mem_cons.mpr ⟨cc20, List.forall_mem_cons.mpr ⟨cc21, List.forall_mem_cons.mpr ⟨cc22, List.forall_mem_cons.mpr ⟨cc23, List.forall_mem_cons.mpr ⟨cc24, List.forall_mem_cons.mpr ⟨cc25, List.forall_mem_cons.mpr ⟨cc26, List.forall_mem_cons.mpr ⟨cc27, List.forall_mem_cons.mpr ⟨cc28, List.forall_mem_cons.mpr ⟨cc29, List.forall_mem_cons.mpr ⟨cc30, List.forall_mem_cons.mpr ⟨cc31, List.forall_mem_cons.mpr ⟨cc32, List.forall_mem_cons.mpr ⟨cc33, List.forall_mem_cons.mpr ⟨cc34, List.forall_mem_cons.mpr ⟨cc35, List.forall_mem_cons.mpr ⟨cc36, List.forall_mem_cons.mpr ⟨cc37, List.forall_mem_cons.mpr ⟨cc38, List.forall_mem_cons.mpr ⟨cc39, fun _ h => absurd h List.not_mem_nil⟩⟩⟩⟩⟩⟩⟩⟩⟩⟩⟩⟩⟩⟩⟩⟩⟩⟩⟩⟩⟩⟩⟩⟩⟩⟩⟩⟩⟩⟩⟩⟩⟩⟩⟩⟩⟩⟩⟩⟩
theorem mls_1 : ∀ q ∈ MLs_1, MlP q := List.forall_mem_cons.mpr ⟨cc40, List.forall_mem_cons.mpr ⟨cc41, List.forall_mem_cons.mpr ⟨cc42, List.forall_mem_cons.mpr ⟨cc43, List.forall_mem_cons.mpr ⟨cc44, List.forall_mem_cons.mpr ⟨cc45, List.forall_mem_cons.mpr ⟨cc46, List.forall_mem_cons.mpr ⟨cc47, List.forall_mem_cons.mpr ⟨cc48, List.forall_mem_cons.mpr ⟨cc49, List.forall_mem_cons.mpr ⟨cc50, List.forall_mem_cons.mpr ⟨cc51, List.forall_mem_cons.mpr ⟨cc52, List.forall_mem_cons.mpr ⟨cc53, List.forall_mem_cons.mpr ⟨cc54, List.forall_mem_cons.mpr ⟨cc55, List.forall_mem_cons.mpr ⟨cc56, List.forall_mem_cons.mpr ⟨cc57, List.forall_mem_cons.mpr ⟨cc58, List.forall_mem_cons.mpr ⟨cc59, List.forall_mem_cons.mpr ⟨cc60, List.forall_mem_cons.mpr ⟨cc61, List.forall_mem_cons.mpr ⟨cc62, List.forall_mem_cons.mpr ⟨cc63, List.forall_mem_cons.mpr ⟨cc64, List.forall_mem_cons.mpr ⟨cc65, List.forall_mem_cons.mpr ⟨cc66, List.forall_mem_cons.mpr ⟨cc67, List.forall_mem_cons.mpr ⟨cc68, List.forall_mem_cons.mpr ⟨cc69, List.forall_mem_cons.mpr ⟨cc70, List.forall_mem_cons.mpr ⟨cc71, List.forall_mem_cons.mpr ⟨cc72, List.forall_mem_cons.mpr ⟨cc73, List.forall_mem_cons.mpr ⟨cc74, List.forall_mem_cons.mpr ⟨cc75, List.forall_mem_cons.mpr ⟨cc76, List.forall_mem_cons.mpr ⟨cc77, List.forall_mem_cons.mpr ⟨cc78, List.forall_mem_cons.mpr ⟨cc79, fun _ h => absurd h List.not_mem_nil⟩⟩⟩⟩⟩⟩⟩⟩⟩⟩⟩⟩⟩⟩⟩⟩⟩⟩⟩⟩⟩⟩⟩⟩⟩⟩⟩⟩⟩⟩⟩⟩⟩⟩⟩⟩⟩⟩⟩⟩
theorem mls_2 : ∀ q ∈ MLs_2, MlP q := List.forall_mem_cons.mpr ⟨cc80, List.forall_mem_cons.mpr ⟨cc81, List.forall_mem_cons.mpr ⟨cc82, List.forall_mem_cons.mpr ⟨cc83, List.forall_mem_cons.mpr ⟨cc84, List.forall_mem_cons.mpr ⟨cc85, List.forall_mem_cons.mpr ⟨cc86, List.forall_mem_cons.mpr ⟨cc87, List.forall_mem_cons.mpr ⟨cc88, List.forall_mem_cons.mpr ⟨cc89, List.forall_mem_cons.mpr ⟨cc90, List.forall_mem_cons.mpr ⟨cc91, List.forall_mem_cons.mpr ⟨cc92, List.forall_mem_cons.mpr ⟨cc93, List.forall_mem_cons.mpr ⟨cc94, List.forall_mem_cons.mpr ⟨cc95, List.forall_mem_cons.mpr ⟨cc96, List.forall_mem_cons.mpr ⟨cc97, List.forall_mem_cons.mpr ⟨cc98, List.forall_mem_cons.mpr ⟨cc99, List.forall_mem_cons.mpr ⟨cc100, List.forall_mem_cons.mpr ⟨cc101, List.forall_mem_cons.mpr ⟨cc102, List.forall_mem_cons.mpr ⟨cc103, List.forall_mem_cons.mpr ⟨cc104, List.forall_mem_cons.mpr ⟨cc105, List.forall_mem_cons.mpr ⟨cc106, List.forall_mem_cons.mpr ⟨cc107, List.forall_mem_cons.mpr ⟨cc108, List.forall_mem_cons.mpr ⟨cc109, List.forall_mem_cons.mpr ⟨cc110, List.forall_mem_cons.mpr ⟨cc111, List.forall_mem_cons.mpr ⟨cc112, List.forall_mem_cons.mpr ⟨cc113, List.forall_mem_cons.mpr ⟨cc114, List.forall_mem_cons.mpr ⟨cc115, List.forall_mem_cons.mpr ⟨cc116, List.forall_mem_cons.mpr ⟨cc117, List.forall_mem_cons.mpr ⟨cc118, List.forall_mem_cons.mpr ⟨cc119, fun _ h => absurd h List.not_mem_nil⟩⟩⟩⟩⟩⟩⟩⟩⟩⟩⟩⟩⟩⟩⟩⟩⟩⟩⟩⟩⟩⟩⟩⟩⟩⟩⟩⟩⟩⟩⟩⟩⟩⟩⟩⟩⟩⟩⟩⟩
theorem mls_3 : ∀ q ∈ MLs_3, MlP q := List.forall_mem_cons.mpr ⟨cc120, List.forall_mem_cons.mpr ⟨cc121, List.forall_mem_cons.mpr ⟨cc122, List.forall_mem_cons.mpr ⟨cc123, List.forall_mem_cons.mpr ⟨cc124, List.forall_mem_cons.mpr ⟨cc125, List.forall_mem_cons.mpr ⟨cc126, List.forall_mem_cons.mpr ⟨cc127, List.forall_mem_cons.mpr ⟨cc128, List.forall_mem_cons.mpr ⟨cc129, List.forall_mem_cons.mpr ⟨cc130, List.forall_mem_cons.mpr ⟨cc131, List.forall_mem_cons.mpr ⟨cc132, List.forall_mem_cons.mpr ⟨cc133, List.forall_mem_cons.mpr ⟨cc134, List.forall_mem_cons.mpr ⟨cc135, List.forall_mem_cons.mpr ⟨cc136, List.forall_mem_cons.mpr ⟨cc137, List.forall_mem_cons.mpr ⟨cc138, List.forall_mem_cons.mpr ⟨cc139, List.forall_mem_cons.mpr ⟨cc140, List.forall_mem_cons.mpr ⟨cc141, List.forall_mem_cons.mpr ⟨cc142, List.forall_mem_cons.mpr ⟨cc143, List.forall_mem_cons.mpr ⟨cc144, List.forall_mem_cons.mpr ⟨cc145, List.forall_mem_cons.mpr ⟨cc146, List.forall_mem_cons.mpr ⟨cc147, List.forall_mem_cons.mpr ⟨cc148, List.forall_mem_cons.mpr ⟨cc149, List.forall_mem_cons.mpr ⟨cc150, List.forall_mem_cons.mpr ⟨cc151, List.forall_mem_cons.mpr ⟨cc152, List.forall_mem_cons.mpr ⟨cc153, List.forall_mem_cons.mpr ⟨cc154, List.forall_mem_cons.mpr ⟨cc155, List.forall_mem_cons.mpr ⟨cc156, List.forall_mem_cons.mpr ⟨cc157, List.forall_mem_cons.mpr ⟨cc158, List.forall_mem_cons.mpr ⟨cc159, fun _ h => absurd h List.not_mem_nil⟩⟩⟩⟩⟩⟩⟩⟩⟩⟩⟩⟩⟩⟩⟩⟩⟩⟩⟩⟩⟩⟩⟩⟩⟩⟩⟩⟩⟩⟩⟩⟩⟩⟩⟩⟩⟩⟩⟩⟩
theorem mls_4 : ∀ q ∈ MLs_4, MlP q := List.forall_mem_cons.mpr ⟨cc160, List.forall_mem_cons.mpr ⟨cc161, List.forall_mem_cons.mpr ⟨cc162, List.forall_mem_cons.mpr ⟨cc163, List.forall_mem_cons.mpr ⟨cc164, List.forall_mem_cons.mpr ⟨cc165, List.forall_mem_cons.mpr ⟨cc166, List.forall_mem_cons.mpr ⟨cc167, List.forall_mem_cons.mpr ⟨cc168, List.forall_mem_cons.mpr ⟨cc169, List.forall_mem_cons.mpr ⟨cc170, List.forall_mem_cons.mpr ⟨cc171, List.forall_mem_cons.mpr ⟨cc172, List.forall_mem_cons.mpr ⟨cc173, List.forall_mem_cons.mpr ⟨cc174, List.forall_mem_cons.mpr ⟨cc175, List.forall_mem_cons.mpr ⟨cc176, List.forall_mem_cons.mpr ⟨cc177, List.forall_mem_cons.mpr ⟨cc178, List.forall_mem_cons.mpr ⟨cc179, List.forall_mem_cons.mpr ⟨cc180, List.forall_mem_cons.mpr ⟨cc181, List.forall_mem_cons.mpr ⟨cc182, List.forall_mem_cons.mpr ⟨cc183, List.forall_mem_cons.mpr ⟨cc184, List.forall_mem_cons.mpr ⟨cc185, List.forall_mem_cons.mpr ⟨cc186, List.forall_mem_cons.mpr ⟨cc187, List.forall_mem_cons.mpr ⟨cc188, List.forall_mem_cons.mpr ⟨cc189, List.forall_mem_cons.mpr ⟨cc190, List.forall_mem_cons.mpr ⟨cc191, List.forall_mem_cons.mpr ⟨cc192, List.forall_mem_cons.mpr ⟨cc193, List.forall_mem_cons.mpr ⟨cc194, List.forall_mem_cons.mpr ⟨cc195, List.forall_mem_cons.mpr ⟨cc196, List.forall_mem_cons.mpr ⟨cc197, List.forall_mem_cons.mpr ⟨cc198, List.forall_mem_cons.mpr ⟨cc199, fun _ h => absurd h List.not_mem_nil⟩⟩⟩⟩⟩⟩⟩⟩⟩⟩⟩⟩⟩⟩⟩⟩⟩⟩⟩⟩⟩⟩⟩⟩⟩⟩⟩⟩⟩⟩⟩⟩⟩⟩⟩⟩⟩⟩⟩⟩
theorem mls_5 : ∀ q ∈ MLs_5, MlP q := List.forall_mem_cons.mpr ⟨cc200, List.forall_mem_cons.mpr ⟨cc201, List.forall_mem_cons.mpr ⟨cc202, List.forall_mem_cons.mpr ⟨cc203, List.forall_mem_cons.mpr ⟨cc204, List.forall_mem_cons.mpr ⟨cc205, List.forall_mem_cons.mpr ⟨cc206, List.forall_mem_cons.mpr ⟨cc207, List.forall_mem_cons.mpr ⟨cc208, List.forall_mem_cons.mpr ⟨cc209, List.forall_mem_cons.mpr ⟨cc210, List.forall_mem_cons.mpr ⟨cc211, List.forall_mem_cons.mpr ⟨cc212, List.forall_mem_cons.mpr ⟨cc213, List.forall_mem_cons.mpr ⟨cc214, List.forall_mem_cons.mpr ⟨cc215, List.forall_mem_cons.mpr ⟨cc216, List.forall_mem_cons.mpr ⟨cc217, List.forall_mem_cons.mpr ⟨cc218, List.forall_mem_cons.mpr ⟨cc219, List.forall_mem_cons.mpr ⟨cc220, List.forall_mem_cons.mpr ⟨cc221, List.forall_mem_cons.mpr ⟨cc222, List.forall_mem_cons.mpr ⟨cc223, List.forall_mem_cons.mpr ⟨cc224, List.forall_mem_cons.mpr ⟨cc225, List.forall_mem_cons.mpr ⟨cc226, List.forall_mem_cons.mpr ⟨cc227, List.forall_mem_cons.mpr ⟨cc228, List.forall_mem_cons.mpr ⟨cc229, List.forall_mem_cons.mpr ⟨cc230, List.forall_mem_cons.mpr ⟨cc231, List.forall_mem_cons.mpr ⟨cc232, List.forall_mem_cons.mpr ⟨cc233, List.forall_mem_cons.mpr ⟨cc234, List.forall_mem_cons.mpr ⟨cc235, List.forall_mem_cons.mpr ⟨cc236, List.forall_mem_cons.mpr ⟨cc237, List.forall_mem_cons.mpr ⟨cc238, List.forall_mem_cons.mpr ⟨cc239, fun _ h => absurd h List.not_mem_nil⟩⟩⟩⟩⟩⟩⟩⟩⟩⟩⟩⟩⟩⟩⟩⟩⟩⟩⟩⟩⟩⟩⟩⟩⟩⟩⟩⟩⟩⟩⟩⟩⟩⟩⟩⟩⟩⟩⟩⟩
theorem mls_6 : ∀ q ∈ MLs_6, MlP q := List.forall_mem_cons.mpr ⟨cc240, List.forall_mem_cons.mpr ⟨cc241, List.forall_mem_cons.mpr ⟨cc242, List.forall_mem_cons.mpr ⟨cc243, List.forall_mem_cons.mpr ⟨cc244, List.forall_mem_cons.mpr ⟨cc245, List.forall_mem_cons.mpr ⟨cc246, List.forall_mem_cons.mpr ⟨cc247, List.forall_mem_cons.mpr ⟨cc248, List.forall_mem_cons.mpr ⟨cc249, List.forall_mem_cons.mpr ⟨cc250, List.forall_mem_cons.mpr ⟨cc251, List.forall_mem_cons.mpr ⟨cc252, List.forall_mem_cons.mpr ⟨cc253, fun _ h => absurd h List.not_mem_nil⟩⟩⟩⟩⟩⟩⟩⟩⟩⟩⟩⟩⟩⟩
theorem mls : ∀ q ∈ MLs, MlP q := List.forall_mem_append.mpr ⟨mls_0, List.forall_mem_append.mpr ⟨mls_1, List.forall_mem_append.mpr ⟨mls_2, List.forall_mem_append.mpr ⟨mls_3, List.forall_mem_append.mpr ⟨mls_4, List.forall_mem_append.mpr ⟨mls_5, mls_6⟩⟩⟩⟩⟩⟩
set_option maxRecDepth 20000 in
theorem w_oi : Cond.instanceMethod objectInit ∈ gwl ∧ Cond.code objectInit ⟨#[0xb1]⟩ 1 none ∈ gwl := ⟨(gm 95 (by decide +kernel) rfl), gm 96 rfl rfl⟩
theorem w_ac : Cond.native arraycopyName ∈ gwl ∧ Cond.static arraycopyName ∈ gwl ∧ Cond.initialized "java/lang/System" ∈ gwl := ⟨(gm 449 (by decide +kernel) rfl), (gm 448 (by decide +kernel) rfl), (gm 84 (by decide +kernel) rfl)⟩
set_option maxRecDepth 20000 in
theorem w_mm : Cond.static Lib.Math.min.name ∈ gwl ∧ Cond.initialized "java/lang/Math" ∈ gwl ∧ Cond.code Lib.Math.min.name Lib.Math.min.code 2 (some .int) ∈ gwl := ⟨(gm 445 (by decide +kernel) rfl), (gm 83 (by decide +kernel) rfl), gm 446 rfl rfl⟩
theorem w_cl : Cond.sameMethod "[I" "java/lang/Object" "clone" "()Ljava/lang/Object;" ∈ gwl ∧ Cond.native ⟨"java/lang/Object", "clone", "()Ljava/lang/Object;"⟩ ∈ gwl ∧ Cond.instanceMethod ⟨"java/lang/Object", "clone", "()Ljava/lang/Object;"⟩ ∈ gwl ∧ Cond.selects "[I" ⟨"[I", "clone", "()Ljava/lang/Object;"⟩ ⟨"java/lang/Object", "clone", "()Ljava/lang/Object;"⟩ ∈ gwl ∧ Cond.castable "[I" "java/lang/Cloneable" ∈ nwl ∧ Cond.classLink "java/util/Arrays" 317 "[I" ∈ gwl := ⟨(gm 438 (by decide +kernel) rfl), (gm 439 (by decide +kernel) rfl), (gm 440 (by decide +kernel) rfl), (gm 441 (by decide +kernel) rfl), nm 442 (by decide +kernel) rfl, (gm 443 (by decide +kernel) rfl)⟩
theorem w_ca : Cond.castable RX1 RX2 ∈ nwl ∧ Cond.castable RX1 RX4 ∈ nwl ∧ Cond.castable RX2 RX4 ∈ nwl := ⟨nm 1461 (by decide +kernel) rfl, nm 1462 (by decide +kernel) rfl, nm 1463 (by decide +kernel) rfl⟩
theorem w_ar : Cond.arrayClass .int ∈ gwl ∧ Cond.arrayClass .long ∈ gwl ∧ Cond.arrayClass .boolean ∈ gwl := ⟨(gm 141 (by decide +kernel) rfl), (gm 191 (by decide +kernel) rfl), (gm 260 (by decide +kernel) rfl)⟩
end
section
/-! The picture and the machine's heap. -/
def ad (b x : Nat) : Option Nat := match x with
  | 0 => none
  | k + 1 => some (b + k)
def cnv (b : Nat) (cs : Nat → Nat) (v : Value) : Value := match v with
  | .ref x => va_rf (ad b x)
  | .retAddr t => .ref (cs t)
  | v => v
theorem cnv_cat (b : Nat) (cs : Nat → Nat) (v : Value) : (cnv b cs v).category = cat v := by
  cases v with
  | ref x => cases x <;> rfl
  | _ => rfl
theorem cnv_cats (b : Nat) (cs : Nat → Nat) (st : List Value) : ((st.map (cnv b cs)).map fun v => v.category).sum = cats st := by
  unfold cats
  rw [List.map_map]
  congr 1
  apply List.map_congr_left
  intro v _
  exact cnv_cat b cs v
theorem ad_inj {b x y : Nat} (h : ad b x = ad b y) : x = y := by
  cases x <;> cases y <;> simp [ad] at h <;> omega
def fvs (b : Nat) (h : Hp) (k c : Nat) : List Value := (List.range (nf c)).map (fun j => if ft c j = 2 then va_rf (ad b (zA h k j)) else .int (zI h k j))
def ceE (b : Nat) (cy : Nat → ClassId) (h : Hp) (k : Nat) : va_E :=
  if zK h k < 12 then .inr (zK h k, fvs b h k (zK h k))
  else if zK h k = 13 then .inl (cy 13, zN h k, .inr (.inl (zJ h k)))
  else if zK h k < 15 then .inl (cy (zK h k), zN h k, .inl (zI h k))
  else .inl (cy (zK h k), zN h k, .inr (.inr (.inr (.inr (fun j => ad b (zA h k j))))))
def wl (b : Nat) (cy : Nat → ClassId) (h : Hp) : va_W := (List.range (zc h)).map (fun k => (b + k, ceE b cy h (k + 1)))
def tys (cy : Nat → ClassId) : List (ClassId × FieldType) := [(cy 12, .int), (cy 13, .long), (cy 14, .boolean), (cy 15, .object RX0), (cy 16, .object RX4), (cy 17, .object RX5)]
def Ab (b : Nat) : Nat → Prop := fun q => b ≤ q
def HW (D : va_G) (b : Nat) (cy : Nat → ClassId) (h : Hp) (H : Heap) : Prop := va_P D vwCl (wl b cy h) H ∧ ∀ a, (a = 0 ∨ zc h < a) → zK h a = 99
theorem wl_at {b : Nat} {cy : Nat → ClassId} {h : Hp} {k : Nat} (hk : k < zc h) : (wl b cy h)[k]? = some (b + k, ceE b cy h (k + 1)) := by
  unfold wl
  rw [List.getElem?_map, List.getElem?_range hk]
  rfl
theorem wl_len {b : Nat} {cy : Nat → ClassId} {h : Hp} : (wl b cy h).length = zc h := by
  unfold wl
  simp
theorem wl_D {b : Nat} {cy : Nat → ClassId} {h : Hp} : va_D (Ab b) (wl b cy h) := by
  constructor
  · intro i j p q hi hj e
    have h1 : i < zc h := by
      have := (List.getElem?_eq_some_iff.mp hi).1
      rw [wl_len] at this
      exact this
    have h2 : j < zc h := by
      have := (List.getElem?_eq_some_iff.mp hj).1
      rw [wl_len] at this
      exact this
    rw [wl_at h1] at hi
    rw [wl_at h2] at hj
    cases hi
    cases hj
    have e : b + i = b + j := e
    omega
  · intro k q hk
    have h1 : k < zc h := by
      have := (List.getElem?_eq_some_iff.mp hk).1
      rw [wl_len] at this
      exact this
    rw [wl_at h1] at hk
    cases hk
    exact Nat.le_add_right _ _
/-- a live reference is no null: it has a cell -/
theorem HW.live {D : va_G} {b : Nat} {cy : Nat → ClassId} {h : Hp} {H : Heap} (hw : HW D b cy h H) {a : Nat} (hk : zK h a ≠ 99) : ∃ k, a = k + 1 ∧ k < zc h := by
  cases a with
  | zero => exact absurd (hw.2 0 (Or.inl rfl)) hk
  | succ k =>
    refine ⟨k, rfl, ?_⟩
    rcases Nat.lt_or_ge k (zc h) with q | q
    · exact q
    · exact absurd (hw.2 (k + 1) (Or.inr (by omega))) hk
theorem ceE_obj {b : Nat} {cy : Nat → ClassId} {h : Hp} {k c : Nat} (hk : zK h k = c) (hc : c < 12) : ceE b cy h k = .inr (c, fvs b h k c) := by
  unfold ceE
  rw [hk, if_pos hc]
theorem ceE_I {b : Nat} {cy : Nat → ClassId} {h : Hp} {k : Nat} (hk : zK h k = 12) : ceE b cy h k = .inl (cy 12, zN h k, .inl (zI h k)) := by
  unfold ceE
  rw [hk]
  rfl
theorem ceE_J {b : Nat} {cy : Nat → ClassId} {h : Hp} {k : Nat} (hk : zK h k = 13) : ceE b cy h k = .inl (cy 13, zN h k, .inr (.inl (zJ h k))) := by
  unfold ceE
  rw [hk]
  rfl
theorem ceE_Z {b : Nat} {cy : Nat → ClassId} {h : Hp} {k : Nat} (hk : zK h k = 14) : ceE b cy h k = .inl (cy 14, zN h k, .inl (zI h k)) := by
  unfold ceE
  rw [hk]
  rfl
theorem ceE_A {b : Nat} {cy : Nat → ClassId} {h : Hp} {k c : Nat} (hk : zK h k = c) (hc : 15 ≤ c) : ceE b cy h k = .inl (cy c, zN h k, .inr (.inr (.inr (.inr (fun j => ad b (zA h k j)))))) := by
  unfold ceE
  rw [hk, if_neg (by omega), if_neg (by omega), if_neg (by omega)]
/-- one cell is set anew -/
theorem wl_set {b : Nat} {cy : Nat → ClassId} {h h1 : Hp} {k : Nat} {e : va_E} (hz : zc h1 = zc h) (hk : k < zc h) (he : ceE b cy h1 (k + 1) = e) (ho : ∀ j, j ≠ k + 1 → ceE b cy h1 j = ceE b cy h j) : (wl b cy h).set k (b + k, e) = wl b cy h1 := by
  apply List.ext_getElem?
  intro j
  by_cases hj : j < zc h
  · rw [wl_at (h := h1) (by rw [hz]; exact hj)]
    by_cases e1 : j = k
    · subst e1
      rw [List.getElem?_set_self (by rw [wl_len]; exact hj), he]
    · rw [List.getElem?_set_ne (Ne.symm e1), wl_at hj, ho (j + 1) (by omega)]
  · rw [List.getElem?_eq_none (by rw [List.length_set, wl_len]; omega), List.getElem?_eq_none (by rw [wl_len, hz]; omega)]
theorem wl_push {b : Nat} {cy : Nat → ClassId} {h h1 : Hp} {e : va_E} (hz : zc h1 = zc h + 1) (he : ceE b cy h1 (zc h + 1) = e) (ho : ∀ j, j ≠ zc h + 1 → ceE b cy h1 j = ceE b cy h j) : wl b cy h ++ [(b + zc h, e)] = wl b cy h1 := by
  apply List.ext_getElem?
  intro j
  by_cases hj : j < zc h
  · rw [List.getElem?_append_left (by rw [wl_len]; exact hj), wl_at hj, wl_at (h := h1) (by omega), ho (j + 1) (by omega)]
  · rw [List.getElem?_append_right (by rw [wl_len]; omega), wl_len]
    by_cases e1 : j = zc h
    · subst e1
      rw [wl_at (h := h1) (by omega), he]
      simp
    · rw [List.getElem?_eq_none (by simp; omega), List.getElem?_eq_none (by rw [wl_len, hz]; omega)]
theorem fvs_at {b : Nat} {h : Hp} {k c j : Nat} (hj : j < nf c) : (fvs b h k c)[j]? = some (if ft c j = 2 then va_rf (ad b (zA h k j)) else .int (zI h k j)) := by
  unfold fvs
  rw [List.getElem?_map, List.getElem?_range hj]
  rfl
theorem fvs_len {b : Nat} {h : Hp} {k c : Nat} : (fvs b h k c).length = nf c := by
  unfold fvs
  simp
end
section
/-! What a method's walk stands on, and what 'it runs to' means. -/
def stok (q : Mt) : Bool := q.2.all (fun r => match r.2.2.1 with
  | .istore_n j => decide (j.val < mL q.1)
  | .istore j => decide (j < mL q.1)
  | .astore_n j => decide (j.val < mL q.1)
  | .astore j => decide (j < mL q.1)
  | .iinc j _ => decide (j < mL q.1)
  | .lstore_n j => decide (j.val + 1 < mL q.1)
  | .lstore j => decide (j + 1 < mL q.1)
  | .lreturn => (match mR q.1 with | some .long => true | _ => false)
  | .areturn => (match mR q.1 with | some t => tyRef t | none => false)
  | .return_ => (match mR q.1 with | some _ => false | none => true)
  | .putfield ix => pok (mC q.1) ix
  | _ => true)
theorem stok_all : Mts.all stok = true := by decide +kernel
theorem stok_law : stok lawM = true := by decide +kernel
def lvl (b : Nat) (cs : Nat → Nat) (ls : Ls) : List (Nat × Value) := ls.zipIdx.filterMap (fun q => q.1.map (fun v => (q.2, cnv b cs v)))
theorem mem_lvl {b : Nat} {cs : Nat → Nat} {ls : Ls} {i : Nat} {w : Value} : (i, w) ∈ lvl b cs ls ↔ ∃ v, ls[i]? = some (some v) ∧ w = cnv b cs v := by
  unfold lvl
  rw [List.mem_filterMap]
  constructor
  · rintro ⟨⟨o, j⟩, hm, hq⟩
    have h1 := List.mk_mem_zipIdx_iff_getElem?.mp hm
    cases o with
    | none => cases hq
    | some v =>
      simp only [Option.map_some, Option.some.injEq, Prod.mk.injEq] at hq
      obtain ⟨rfl, rfl⟩ := hq
      exact ⟨v, h1, rfl⟩
  · rintro ⟨v, h1, rfl⟩
    exact ⟨(some v, i), List.mk_mem_zipIdx_iff_getElem?.mpr h1, rfl⟩
theorem lvh_at {b : Nat} {cs : Nat → Nat} {ls : Ls} {lsA : Array Slot} {n i : Nat} {v : Value} (h : lv_has lsA n (lvl b cs ls)) (hv : ls[i]? = some (some v)) : lsA[i]? = some (.val (cnv b cs v)) := h.2.2 (i, cnv b cs v) (mem_lvl.mpr ⟨v, hv, rfl⟩)
theorem lvh_mono {lsA : Array Slot} {n : Nat} {l l' : List (Nat × Value)} (h : lv_has lsA n l) (hm : ∀ q ∈ l', q ∈ l) : lv_has lsA n l' := ⟨h.1, h.2.1, fun q hq => h.2.2 q (hm q hq)⟩
theorem clr_at {ls : Ls} {i j : Nat} {v : Value} (h : (clr ls i)[j]? = some (some v)) : ls[j]? = some (some v) ∧ ¬ (j + 1 = i ∧ cat v = 2) := by
  unfold clr at h
  cases i with
  | zero => exact ⟨h, fun q => absurd q.1 (by omega)⟩
  | succ k =>
    dsimp only at h
    split at h
    · by_cases e : j = k
      · subst e
        rw [List.getElem?_set] at h
        simp at h
      · rw [List.getElem?_set_ne (Ne.symm e)] at h
        exact ⟨h, fun q => e (by omega)⟩
    · by_cases e : j = k
      · subst e
        rw [List.getElem?_set] at h
        simp at h
      · rw [List.getElem?_set_ne (Ne.symm e)] at h
        exact ⟨h, fun q => e (by omega)⟩
    · rename_i n1 n2
      refine ⟨h, fun q => ?_⟩
      have e : j = k := by omega
      subst e
      cases v with
      | long x => exact n1 x h
      | double x => exact n2 x h
      | _ => exact absurd q.2 (show ¬ (1 : Nat) = 2 by decide)
theorem lvh_st1 {b : Nat} {cs : Nat → Nat} {ls : Ls} {i : Nat} {v : Value} : ∀ q ∈ lvl b cs (st1 ls i v), q ∈ (i, cnv b cs v) :: (lvl b cs ls).filter (fun q => !(q.1 == i) && !(q.1 + 1 == i && q.2.category == 2)) := by
  rintro ⟨j, w⟩ hq
  obtain ⟨u, h1, rfl⟩ := mem_lvl.mp hq
  unfold st1 at h1
  by_cases e : j = i
  · subst e
    rw [List.getElem?_set] at h1
    simp at h1
    obtain ⟨-, rfl⟩ := h1
    exact List.mem_cons_self
  · rw [List.getElem?_set_ne (Ne.symm e)] at h1
    obtain ⟨h2, h3⟩ := clr_at h1
    refine List.mem_cons_of_mem _ (List.mem_filter.mpr ⟨mem_lvl.mpr ⟨u, h2, rfl⟩, ?_⟩)
    have h4 : ¬ (j + 1 = i ∧ (cnv b cs u).category = 2) := by rw [cnv_cat]; exact h3
    simp only [Bool.and_eq_true, Bool.not_eq_true', beq_eq_false_iff_ne, ne_eq]
    refine ⟨e, ?_⟩
    rw [Bool.and_eq_false_iff]
    by_cases e2 : j + 1 = i
    · right
      simp only [beq_eq_false_iff_ne, ne_eq]
      exact fun z => h4 ⟨e2, z⟩
    · left
      simpa using e2
theorem lvh_st2 {b : Nat} {cs : Nat → Nat} {ls : Ls} {i : Nat} {v : Value} : ∀ q ∈ lvl b cs (st2 ls i v), q ∈ (i, cnv b cs v) :: (lvl b cs ls).filter (fun q => !(q.1 == i) && (!(q.1 == i + 1) && !(q.1 + 1 == i && q.2.category == 2))) := by
  rintro ⟨j, w⟩ hq
  obtain ⟨u, h1, rfl⟩ := mem_lvl.mp hq
  unfold st2 at h1
  by_cases e1 : j = i + 1
  · subst e1
    rw [List.getElem?_set] at h1
    simp at h1
  · rw [List.getElem?_set_ne (Ne.symm e1)] at h1
    by_cases e : j = i
    · subst e
      rw [List.getElem?_set] at h1
      simp at h1
      obtain ⟨-, rfl⟩ := h1
      exact List.mem_cons_self
    · rw [List.getElem?_set_ne (Ne.symm e)] at h1
      obtain ⟨h2, h3⟩ := clr_at h1
      refine List.mem_cons_of_mem _ (List.mem_filter.mpr ⟨mem_lvl.mpr ⟨u, h2, rfl⟩, ?_⟩)
      have h4 : ¬ (j + 1 = i ∧ (cnv b cs u).category = 2) := by rw [cnv_cat]; exact h3
      simp only [Bool.and_eq_true, Bool.not_eq_true', beq_eq_false_iff_ne, ne_eq]
      refine ⟨e, e1, ?_⟩
      rw [Bool.and_eq_false_iff]
      by_cases e2 : j + 1 = i
      · right
        simp only [beq_eq_false_iff_ne, ne_eq]
        exact fun z => h4 ⟨e2, z⟩
      · left
        simpa using e2
def NG (U : State) : Prop := (∀ w ∈ nwl, va_Nw w U) ∧ va_AO RX0 U ∧ va_AO RX4 U ∧ va_AO RX5 U ∧ va_Nc RX4 RX2 U ∧ va_Nc RX4 RX1 U ∧ va_Nc RX2 RX1 U
theorem NG.warm {s U : State} (hW : s.WarmedH U.vm) (h : NG s) : NG U := by
  obtain ⟨h1, h2, h3, h4, h5, h6, h7⟩ := h
  refine ⟨fun w hw => ?_, h2.moved hW.alike, h3.moved hW.alike, h4.moved hW.alike, h5.moved hW.alike, h6.moved hW.alike, h7.moved hW.alike⟩
  have hn := (List.mem_filter.mp hw).2
  have hz := h1 w hw
  cases w with
  | fieldLinkNest _ _ _ _ _ _ => exact va_Nw.warmF hW hz
  | methodLinkNest _ _ _ _ => exact va_Nw.warmM hW hz
  | castable _ _ => exact va_Nw.warmC hW hz
  | _ => cases hn
def stv (t j : Nat) : Value := if t = 4 then .long (stJ j) else .int (stI t j)
def stT (t : Nat) : FieldType := if t = 4 then .long else if t = 3 then .char else .int
def STA (sc : Nat × (Nat → Int32)) (b : Nat) (cs : Nat → Nat) (U : State) (H : Heap) : Prop := (∀ t, t < 5 → va_Z (stC t).1 (stC t).2.1 (stC t).2.2 (.ref (cs t)) (Ab b) U H ∧ va_T (stT t) (cs t) (stN t) (stv t) (Ab b) U H) ∧ va_X (cs 5) sc.1 sc.2 U H ∧ cs 5 < b
theorem STA.on {sc : Nat × (Nat → Int32)} {b : Nat} {cs : Nat → Nat} {s U : State} {H : Heap} {locs : List Loc} (hb : b ≤ s.heap.size) (hS : va_S (Ab b) s.heap H locs) (hvm : s.vm.Alike U.vm) (h : STA sc b cs s s.heap) : STA sc b cs U H := by
  refine ⟨fun t ht => ⟨((h.1 t ht).1.moved hvm).kept hS.2.1, ((h.1 t ht).2.moved hvm).kept hS.2.1⟩, (h.2.1.moved hvm).kept ?_, h.2.2⟩
  exact hS.2.1 _ (Nat.lt_of_lt_of_le h.2.2 hb) (fun z => absurd z (Nat.not_le.mpr h.2.2))
def RetAt (mt : Mt) (pc : Nat) (r : Option Value) : Prop := match r with
  | none => decode (mB mt.1) pc = .ok (.return_, 1) ∧ mR mt.1 = none
  | some (.int x) => decode (mB mt.1) pc = .ok (.ireturn, 1) ∧ (mR mt.1 = some .int ∨ (mR mt.1 = some .boolean ∧ (x = 0 ∨ x = 1)))
  | some (.long _) => decode (mB mt.1) pc = .ok (.lreturn, 1) ∧ mR mt.1 = some .long
  | some (.ref _) => decode (mB mt.1) pc = .ok (.areturn, 1) ∧ ∃ t, mR mt.1 = some t ∧ tyRef t = true
  | _ => False
def Cx (sc : Nat × (Nat → Int32)) (p : Program) (R : Room) (s : State) (m : MethodId) (args : Array Value) (meth : Method) (c : Code) (mt : Mt) (D : va_G) (b : Nat) (cy : Nat → ClassId) (cs : Nat → Nat) (z0 : Nat) : Prop :=
  p.tables.exec = Jvm.exec ∧ c.code = mB mt.1 ∧ meth.sig.returnType = mR mt.1 ∧ c.maxLocals = mL mt.1 ∧ s.vm.findClass (ownS (mC mt.1)) = some m.cls ∧ (∀ w ∈ gwl, w.before args s = true) ∧ meth.locks = false ∧ NG s ∧ va_K D vwCl (tys cy) s ∧ ((mY mt.1).name = "<init>" → meth.name = "<init>") ∧ mF mt.1 ≤ R.frames ∧ mW mt.1 ≤ R.locals ∧ s.heap.size = b + z0 ∧ STA sc b cs s s.heap ∧ CkP mt.1 mt.2 ∧ stok mt = true
def Go (p : Program) (l : Launch) (e : Env) (R : Room) (s : State) (m : MethodId) (args : Array Value) (below : List Frame) (meth : Method) (c : Code) (mt : Mt) (D : va_G) (b : Nat) (cy : Nat → ClassId) (cs : Nat → Nat) (z0 y0 : Nat) (Q : State → Prop) (pc : Nat) (ls : Ls) (st : List Value) (h : Hp) : Prop :=
  ∀ (lsA : Array Slot) (H : Heap) (locs : List Loc) (cells slots : Nat), z0 + cells = zc h → y0 + slots = zs h → HW D b cy h H → va_S (Ab b) s.heap H locs → lv_has lsA (mL mt.1) (lvl b cs ls) → W p l e R s m args below meth c H locs cells slots Q (F0 m pc lsA (st.map (cnv b cs)))
/-- from pc on, with these locals, this stack and this heap the method comes to its return with r, and the heap is h' then -/
def Rn (sc : Nat × (Nat → Int32)) (mt : Mt) (pc : Nat) (ls : Ls) (st : List Value) (h : Hp) (r : Option Value) (h' : Hp) : Prop :=
  zc h ≤ zc h' ∧ zs h ≤ zs h' ∧ ∀ (p : Program) (l : Launch) (e : Env) (R : Room) (s : State) (m : MethodId) (args : Array Value) (below : List Frame) (meth : Method) (c : Code) (D : va_G) (b : Nat) (cy : Nat → ClassId) (cs : Nat → Nat) (z0 y0 : Nat) (Q : State → Prop),
    Cx sc p R s m args meth c mt D b cy cs z0 → zc h' ≤ z0 + R.cells → zs h' ≤ y0 + R.slots → z0 ≤ zc h →
    (∀ (pc' : Nat) (lsA : Array Slot) (H1 : Heap) (locs1 : List Loc) (mc ms : Nat), RetAt mt pc' r → z0 + mc = zc h' → y0 + ms = zs h' → HW D b cy h' H1 → va_S (Ab b) s.heap H1 locs1 → W p l e R s m args below meth c H1 locs1 mc ms Q (F0 m pc' lsA ((r.map (cnv b cs)).toList))) →
    Go p l e R s m args below meth c mt D b cy cs z0 y0 Q pc ls st h
/-- what the checks say of the row at pc -/
theorem cAt_ok {mt : Mt} {pc : Nat} {r : Rw} (h : cAt mt.2 pc = some r) (hk : CkP mt.1 mt.2) (hs : stok mt = true) : r.1 = pc ∧ rowOK (mY mt.1) (mC mt.1) (mB mt.1) r = true ∧ r ∈ mt.2 := by
  unfold cAt at h
  have h1 := List.find?_some h
  have h2 := List.mem_of_find?_eq_some h
  exact ⟨by simpa using h1, List.all_eq_true.mp hk r h2, h2⟩
theorem W_sized {p : Program} {l : Launch} {e : Env} {R : Room} {s : State} {m : MethodId} {args : Array Value} {below : List Frame} {meth : Method} {c : Code} {H : Heap} {locs : List Loc} {cells slots : Nat} {Q : State → Prop} {g : JFrame} (k : H.size ≤ s.heap.size + cells → W p l e R s m args below meth c H locs cells slots Q g) : W p l e R s m args below meth c H locs cells slots Q g := by
  intro T hT X
  exact k (by rw [← hT]; exact X.heapSize) T hT X
end
section
section
variable {sc : Nat × (Nat → Int32)} {p : Program} {l : Launch} {e : Env} {R : Room} {s : State} {m : MethodId} {args : Array Value} {below : List Frame} {meth : Method} {c : Code} {mt : Mt} {D : va_G} {b : Nat} {cy : Nat → ClassId} {cs : Nat → Nat} {z0 y0 : Nat} {Q : State → Prop} {pc : Nat} {ls : Ls} {st r : List Value} {h : Hp}
theorem so_iconst (C : Cx sc p R s m args meth c mt D b cy cs z0) {n : Int} {v : Int32} (hd : decode (mB mt.1) pc = .ok (.iconst n, 1)) (hv : Int32.ofInt n = v) (k : Go p l e R s m args below meth c mt D b cy cs z0 y0 Q (pc + 1) ls (.int v :: st) h) : Go p l e R s m args below meth c mt D b cy cs z0 y0 Q pc ls st h := fun lsA H locs cells slots hz hy hw hS hl =>  lv_iconst C.1 C.2.1 hd hv (k lsA H locs cells slots hz hy hw hS hl)
theorem so_bipush (C : Cx sc p R s m args meth c mt D b cy cs z0) {n : Int} {v : Int32} (hd : decode (mB mt.1) pc = .ok (.bipush n, 2)) (hv : (Int8.ofInt n).toInt32 = v) (k : Go p l e R s m args below meth c mt D b cy cs z0 y0 Q (pc + 2) ls (.int v :: st) h) : Go p l e R s m args below meth c mt D b cy cs z0 y0 Q pc ls st h := fun lsA H locs cells slots hz hy hw hS hl =>  lv_bipush C.1 C.2.1 hd hv (k lsA H locs cells slots hz hy hw hS hl)
theorem so_sipush (C : Cx sc p R s m args meth c mt D b cy cs z0) {n : Int} {v : Int32} (hd : decode (mB mt.1) pc = .ok (.sipush n, 3)) (hv : (Int16.ofInt n).toInt32 = v) (k : Go p l e R s m args below meth c mt D b cy cs z0 y0 Q (pc + 3) ls (.int v :: st) h) : Go p l e R s m args below meth c mt D b cy cs z0 y0 Q pc ls st h := fun lsA H locs cells slots hz hy hw hS hl =>  lv_sipush C.1 C.2.1 hd hv (k lsA H locs cells slots hz hy hw hS hl)
theorem so_lconst (C : Cx sc p R s m args meth c mt D b cy cs z0) {n : Fin 2} {v : Int64} (hd : decode (mB mt.1) pc = .ok (.lconst n, 1)) (hv : Int64.ofNat (n : Nat) = v) (k : Go p l e R s m args below meth c mt D b cy cs z0 y0 Q (pc + 1) ls (.long v :: st) h) : Go p l e R s m args below meth c mt D b cy cs z0 y0 Q pc ls st h := fun lsA H locs cells slots hz hy hw hS hl =>  lv_lconst C.1 C.2.1 hd hv (k lsA H locs cells slots hz hy hw hS hl)
theorem so_null (C : Cx sc p R s m args meth c mt D b cy cs z0) (hd : decode (mB mt.1) pc = .ok (.aconst_null, 1)) (k : Go p l e R s m args below meth c mt D b cy cs z0 y0 Q (pc + 1) ls (.ref 0 :: st) h) : Go p l e R s m args below meth c mt D b cy cs z0 y0 Q pc ls st h := fun lsA H locs cells slots hz hy hw hS hl =>  lv_null C.1 C.2.1 hd (k lsA H locs cells slots hz hy hw hS hl)
theorem so_ldc (C : Cx sc p R s m args meth c mt D b cy cs z0) {ix : Nat} {v : Int32} (hd : decode (mB mt.1) pc = .ok (.ldc ix, 2)) (hv : Cond.constant (ownS (mC mt.1)) ix v ∈ gwl) (k : Go p l e R s m args below meth c mt D b cy cs z0 y0 Q (pc + 2) ls (.int v :: st) h) : Go p l e R s m args below meth c mt D b cy cs z0 y0 Q pc ls st h := fun lsA H locs cells slots hz hy hw hS hl =>  lv_ldc C.1 C.2.1 C.2.2.2.2.1 (C.2.2.2.2.2.1 _ hv) hd (k lsA H locs cells slots hz hy hw hS hl)
theorem so_ldc_w (C : Cx sc p R s m args meth c mt D b cy cs z0) {ix : Nat} {v : Int32} (hd : decode (mB mt.1) pc = .ok (.ldc_w ix, 3)) (hv : Cond.constant (ownS (mC mt.1)) ix v ∈ gwl) (k : Go p l e R s m args below meth c mt D b cy cs z0 y0 Q (pc + 3) ls (.int v :: st) h) : Go p l e R s m args below meth c mt D b cy cs z0 y0 Q pc ls st h := fun lsA H locs cells slots hz hy hw hS hl =>  lv_ldcw C.1 C.2.1 C.2.2.2.2.1 (C.2.2.2.2.2.1 _ hv) hd (k lsA H locs cells slots hz hy hw hS hl)
theorem so_ldc2_w (C : Cx sc p R s m args meth c mt D b cy cs z0) {ix : Nat} {v : Int64} (hd : decode (mB mt.1) pc = .ok (.ldc2_w ix, 3)) (hv : Cond.constantLong (ownS (mC mt.1)) ix v ∈ gwl) (k : Go p l e R s m args below meth c mt D b cy cs z0 y0 Q (pc + 3) ls (.long v :: st) h) : Go p l e R s m args below meth c mt D b cy cs z0 y0 Q pc ls st h := fun lsA H locs cells slots hz hy hw hS hl =>  lv_ldc2 C.1 C.2.1 C.2.2.2.2.1 (C.2.2.2.2.2.1 _ hv) hd (k lsA H locs cells slots hz hy hw hS hl)
theorem so_iload_n (C : Cx sc p R s m args meth c mt D b cy cs z0) {j : Fin 4} {x : Int32} (hd : decode (mB mt.1) pc = .ok (.iload_n j, 1)) (hv : ls[j.val]? = some (some (.int x))) (k : Go p l e R s m args below meth c mt D b cy cs z0 y0 Q (pc + 1) ls (.int x :: st) h) : Go p l e R s m args below meth c mt D b cy cs z0 y0 Q pc ls st h := fun lsA H locs cells slots hz hy hw hS hl =>  lv_iload_n C.1 C.2.1 hd rfl (lvh_at hl hv) (k lsA H locs cells slots hz hy hw hS hl)
theorem so_iload (C : Cx sc p R s m args meth c mt D b cy cs z0) {j : Nat} {x : Int32} (hd : decode (mB mt.1) pc = .ok (.iload j, 2)) (hv : ls[j]? = some (some (.int x))) (k : Go p l e R s m args below meth c mt D b cy cs z0 y0 Q (pc + 2) ls (.int x :: st) h) : Go p l e R s m args below meth c mt D b cy cs z0 y0 Q pc ls st h := fun lsA H locs cells slots hz hy hw hS hl =>  lv_iload C.1 C.2.1 hd (lvh_at hl hv) (k lsA H locs cells slots hz hy hw hS hl)
theorem so_lload_n (C : Cx sc p R s m args meth c mt D b cy cs z0) {j : Fin 4} {x : Int64} (hd : decode (mB mt.1) pc = .ok (.lload_n j, 1)) (hv : ls[j.val]? = some (some (.long x))) (k : Go p l e R s m args below meth c mt D b cy cs z0 y0 Q (pc + 1) ls (.long x :: st) h) : Go p l e R s m args below meth c mt D b cy cs z0 y0 Q pc ls st h := fun lsA H locs cells slots hz hy hw hS hl =>  lv_lload_n C.1 C.2.1 hd rfl (lvh_at hl hv) (k lsA H locs cells slots hz hy hw hS hl)
theorem so_lload (C : Cx sc p R s m args meth c mt D b cy cs z0) {j : Nat} {x : Int64} (hd : decode (mB mt.1) pc = .ok (.lload j, 2)) (hv : ls[j]? = some (some (.long x))) (k : Go p l e R s m args below meth c mt D b cy cs z0 y0 Q (pc + 2) ls (.long x :: st) h) : Go p l e R s m args below meth c mt D b cy cs z0 y0 Q pc ls st h := fun lsA H locs cells slots hz hy hw hS hl =>  lv_lload C.1 C.2.1 hd (lvh_at hl hv) (k lsA H locs cells slots hz hy hw hS hl)
theorem so_aload_n (C : Cx sc p R s m args meth c mt D b cy cs z0) {j : Fin 4} {x : Nat} (hd : decode (mB mt.1) pc = .ok (.aload_n j, 1)) (hv : ls[j.val]? = some (some (.ref x))) (k : Go p l e R s m args below meth c mt D b cy cs z0 y0 Q (pc + 1) ls (.ref x :: st) h) : Go p l e R s m args below meth c mt D b cy cs z0 y0 Q pc ls st h := by
  intro lsA H locs cells slots hz hy hw hS hl
  have h1 := lvh_at hl hv
  have k1 := k lsA H locs cells slots hz hy hw hS hl
  cases x with
  | zero => exact lv_aload_nN C.1 C.2.1 hd rfl h1 k1
  | succ x => exact lv_aload_n C.1 C.2.1 hd rfl h1 k1
theorem so_aload (C : Cx sc p R s m args meth c mt D b cy cs z0) {j : Nat} {x : Nat} (hd : decode (mB mt.1) pc = .ok (.aload j, 2)) (hv : ls[j]? = some (some (.ref x))) (k : Go p l e R s m args below meth c mt D b cy cs z0 y0 Q (pc + 2) ls (.ref x :: st) h) : Go p l e R s m args below meth c mt D b cy cs z0 y0 Q pc ls st h := by
  intro lsA H locs cells slots hz hy hw hS hl
  have h1 := lvh_at hl hv
  have k1 := k lsA H locs cells slots hz hy hw hS hl
  cases x with
  | zero => exact lv_aloadN C.1 C.2.1 hd h1 k1
  | succ x => exact lv_aload C.1 C.2.1 hd h1 k1
theorem so_aload_r (C : Cx sc p R s m args meth c mt D b cy cs z0) {j : Fin 4} {x : Nat} (hd : decode (mB mt.1) pc = .ok (.aload_n j, 1)) (hv : ls[j.val]? = some (some (.retAddr x))) (k : Go p l e R s m args below meth c mt D b cy cs z0 y0 Q (pc + 1) ls (.retAddr x :: st) h) : Go p l e R s m args below meth c mt D b cy cs z0 y0 Q pc ls st h := fun lsA H locs cells slots hz hy hw hS hl =>  lv_aload_n C.1 C.2.1 hd rfl (lvh_at hl hv) (k lsA H locs cells slots hz hy hw hS hl)
theorem so_istore_n (C : Cx sc p R s m args meth c mt D b cy cs z0) {j : Fin 4} {x : Int32} (hd : decode (mB mt.1) pc = .ok (.istore_n j, 1)) (hj : j.val < mL mt.1) (k : Go p l e R s m args below meth c mt D b cy cs z0 y0 Q (pc + 1) (st1 ls j.val (.int x)) r h) : Go p l e R s m args below meth c mt D b cy cs z0 y0 Q pc ls (.int x :: r) h := by
  intro lsA H locs cells slots hz hy hw hS hl
  exact lv_istore_n C.1 C.2.1 hd rfl hl hj rfl (fun ls1 hl1 => k ls1 H locs cells slots hz hy hw hS (lvh_mono hl1 lvh_st1))
theorem so_istore (C : Cx sc p R s m args meth c mt D b cy cs z0) {j : Nat} {x : Int32} (hd : decode (mB mt.1) pc = .ok (.istore j, 2)) (hj : j < mL mt.1) (k : Go p l e R s m args below meth c mt D b cy cs z0 y0 Q (pc + 2) (st1 ls j (.int x)) r h) : Go p l e R s m args below meth c mt D b cy cs z0 y0 Q pc ls (.int x :: r) h := by
  intro lsA H locs cells slots hz hy hw hS hl
  exact lv_istore C.1 C.2.1 hd hl hj rfl (fun ls1 hl1 => k ls1 H locs cells slots hz hy hw hS (lvh_mono hl1 lvh_st1))
theorem so_lstore_n (C : Cx sc p R s m args meth c mt D b cy cs z0) {j : Fin 4} {x : Int64} (hd : decode (mB mt.1) pc = .ok (.lstore_n j, 1)) (hj : j.val + 1 < mL mt.1) (k : Go p l e R s m args below meth c mt D b cy cs z0 y0 Q (pc + 1) (st2 ls j.val (.long x)) r h) : Go p l e R s m args below meth c mt D b cy cs z0 y0 Q pc ls (.long x :: r) h := by
  intro lsA H locs cells slots hz hy hw hS hl
  exact lv_lstore_n C.1 C.2.1 hd rfl hl hj rfl (fun ls1 hl1 => k ls1 H locs cells slots hz hy hw hS (lvh_mono hl1 lvh_st2))
theorem so_lstore (C : Cx sc p R s m args meth c mt D b cy cs z0) {j : Nat} {x : Int64} (hd : decode (mB mt.1) pc = .ok (.lstore j, 2)) (hj : j + 1 < mL mt.1) (k : Go p l e R s m args below meth c mt D b cy cs z0 y0 Q (pc + 2) (st2 ls j (.long x)) r h) : Go p l e R s m args below meth c mt D b cy cs z0 y0 Q pc ls (.long x :: r) h := by
  intro lsA H locs cells slots hz hy hw hS hl
  exact lv_lstore C.1 C.2.1 hd hl hj rfl (fun ls1 hl1 => k ls1 H locs cells slots hz hy hw hS (lvh_mono hl1 lvh_st2))
theorem so_astore_n (C : Cx sc p R s m args meth c mt D b cy cs z0) {j : Fin 4} {x : Nat} (hd : decode (mB mt.1) pc = .ok (.astore_n j, 1)) (hj : j.val < mL mt.1) (k : Go p l e R s m args below meth c mt D b cy cs z0 y0 Q (pc + 1) (st1 ls j.val (.ref x)) r h) : Go p l e R s m args below meth c mt D b cy cs z0 y0 Q pc ls (.ref x :: r) h := by
  intro lsA H locs cells slots hz hy hw hS hl
  cases x with
  | zero => exact lv_astore_nN C.1 C.2.1 hd rfl hl hj rfl (fun ls1 hl1 => k ls1 H locs cells slots hz hy hw hS (lvh_mono hl1 lvh_st1))
  | succ x => exact lv_astore_n C.1 C.2.1 hd rfl hl hj rfl (fun ls1 hl1 => k ls1 H locs cells slots hz hy hw hS (lvh_mono hl1 lvh_st1))
theorem so_astore (C : Cx sc p R s m args meth c mt D b cy cs z0) {j : Nat} {x : Nat} (hd : decode (mB mt.1) pc = .ok (.astore j, 2)) (hj : j < mL mt.1) (k : Go p l e R s m args below meth c mt D b cy cs z0 y0 Q (pc + 2) (st1 ls j (.ref x)) r h) : Go p l e R s m args below meth c mt D b cy cs z0 y0 Q pc ls (.ref x :: r) h := by
  intro lsA H locs cells slots hz hy hw hS hl
  cases x with
  | zero => exact lv_astoreN C.1 C.2.1 hd hl hj rfl (fun ls1 hl1 => k ls1 H locs cells slots hz hy hw hS (lvh_mono hl1 lvh_st1))
  | succ x => exact lv_astore C.1 C.2.1 hd hl hj rfl (fun ls1 hl1 => k ls1 H locs cells slots hz hy hw hS (lvh_mono hl1 lvh_st1))
theorem so_iinc (C : Cx sc p R s m args meth c mt D b cy cs z0) {j : Nat} {n : Int} {x : Int32} (hd : decode (mB mt.1) pc = .ok (.iinc j n, 3)) (hj : j < mL mt.1) (hv : ls[j]? = some (some (.int x))) (k : Go p l e R s m args below meth c mt D b cy cs z0 y0 Q (pc + 3) (st1 ls j (.int (x + Int32.ofInt n))) st h) : Go p l e R s m args below meth c mt D b cy cs z0 y0 Q pc ls st h := by
  intro lsA H locs cells slots hz hy hw hS hl
  obtain ⟨q, hq⟩ := List.getElem?_of_mem (mem_lvl.mpr ⟨_, hv, rfl⟩ : (j, cnv b cs (.int x)) ∈ lvl b cs ls)
  exact lv_iinc C.1 C.2.1 hd hl (k := q) hq rfl hj rfl (fun ls1 hl1 => k ls1 H locs cells slots hz hy hw hS (lvh_mono hl1 lvh_st1))
theorem so_iadd (C : Cx sc p R s m args meth c mt D b cy cs z0) {x y : Int32} (hd : decode (mB mt.1) pc = .ok (.iadd, 1)) (k : Go p l e R s m args below meth c mt D b cy cs z0 y0 Q (pc + 1) ls (.int (x + y) :: r) h) : Go p l e R s m args below meth c mt D b cy cs z0 y0 Q pc ls (.int y :: .int x :: r) h := fun lsA H locs cells slots hz hy hw hS hl =>  lv_iadd C.1 C.2.1 hd (k lsA H locs cells slots hz hy hw hS hl)
theorem so_isub (C : Cx sc p R s m args meth c mt D b cy cs z0) {x y : Int32} (hd : decode (mB mt.1) pc = .ok (.isub, 1)) (k : Go p l e R s m args below meth c mt D b cy cs z0 y0 Q (pc + 1) ls (.int (x - y) :: r) h) : Go p l e R s m args below meth c mt D b cy cs z0 y0 Q pc ls (.int y :: .int x :: r) h := fun lsA H locs cells slots hz hy hw hS hl =>  lv_isub C.1 C.2.1 hd (k lsA H locs cells slots hz hy hw hS hl)
theorem so_imul (C : Cx sc p R s m args meth c mt D b cy cs z0) {x y : Int32} (hd : decode (mB mt.1) pc = .ok (.imul, 1)) (k : Go p l e R s m args below meth c mt D b cy cs z0 y0 Q (pc + 1) ls (.int (x * y) :: r) h) : Go p l e R s m args below meth c mt D b cy cs z0 y0 Q pc ls (.int y :: .int x :: r) h := fun lsA H locs cells slots hz hy hw hS hl =>  lv_imul C.1 C.2.1 hd (k lsA H locs cells slots hz hy hw hS hl)
theorem so_iand (C : Cx sc p R s m args meth c mt D b cy cs z0) {x y : Int32} (hd : decode (mB mt.1) pc = .ok (.iand, 1)) (k : Go p l e R s m args below meth c mt D b cy cs z0 y0 Q (pc + 1) ls (.int (x &&& y) :: r) h) : Go p l e R s m args below meth c mt D b cy cs z0 y0 Q pc ls (.int y :: .int x :: r) h := fun lsA H locs cells slots hz hy hw hS hl =>  lv_iand C.1 C.2.1 hd (k lsA H locs cells slots hz hy hw hS hl)
theorem so_ior (C : Cx sc p R s m args meth c mt D b cy cs z0) {x y : Int32} (hd : decode (mB mt.1) pc = .ok (.ior, 1)) (k : Go p l e R s m args below meth c mt D b cy cs z0 y0 Q (pc + 1) ls (.int (x ||| y) :: r) h) : Go p l e R s m args below meth c mt D b cy cs z0 y0 Q pc ls (.int y :: .int x :: r) h := fun lsA H locs cells slots hz hy hw hS hl =>  lv_ior C.1 C.2.1 hd (k lsA H locs cells slots hz hy hw hS hl)
theorem so_ishl (C : Cx sc p R s m args meth c mt D b cy cs z0) {x y : Int32} (hd : decode (mB mt.1) pc = .ok (.ishl, 1)) (k : Go p l e R s m args below meth c mt D b cy cs z0 y0 Q (pc + 1) ls (.int (x <<< (y &&& 31)) :: r) h) : Go p l e R s m args below meth c mt D b cy cs z0 y0 Q pc ls (.int y :: .int x :: r) h := fun lsA H locs cells slots hz hy hw hS hl =>  lv_ishl C.1 C.2.1 hd (k lsA H locs cells slots hz hy hw hS hl)
theorem so_ishr (C : Cx sc p R s m args meth c mt D b cy cs z0) {x y : Int32} (hd : decode (mB mt.1) pc = .ok (.ishr, 1)) (k : Go p l e R s m args below meth c mt D b cy cs z0 y0 Q (pc + 1) ls (.int (x >>> (y &&& 31)) :: r) h) : Go p l e R s m args below meth c mt D b cy cs z0 y0 Q pc ls (.int y :: .int x :: r) h := fun lsA H locs cells slots hz hy hw hS hl =>  lv_ishr C.1 C.2.1 hd (k lsA H locs cells slots hz hy hw hS hl)
theorem so_iushr (C : Cx sc p R s m args meth c mt D b cy cs z0) {x y : Int32} (hd : decode (mB mt.1) pc = .ok (.iushr, 1)) (k : Go p l e R s m args below meth c mt D b cy cs z0 y0 Q (pc + 1) ls (.int (x.toUInt32 >>> (y.toUInt32 &&& Int32.toUInt32 31)).toInt32 :: r) h) : Go p l e R s m args below meth c mt D b cy cs z0 y0 Q pc ls (.int y :: .int x :: r) h := fun lsA H locs cells slots hz hy hw hS hl =>  lv_iushr C.1 C.2.1 hd rfl (k lsA H locs cells slots hz hy hw hS hl)
theorem so_idiv (C : Cx sc p R s m args meth c mt D b cy cs z0) {x y : Int32} (hd : decode (mB mt.1) pc = .ok (.idiv, 1)) (hn : ¬ y = 0) (k : Go p l e R s m args below meth c mt D b cy cs z0 y0 Q (pc + 1) ls (.int (x / y) :: r) h) : Go p l e R s m args below meth c mt D b cy cs z0 y0 Q pc ls (.int y :: .int x :: r) h := fun lsA H locs cells slots hz hy hw hS hl =>  lv_idiv C.1 C.2.1 hd hn (k lsA H locs cells slots hz hy hw hS hl)
theorem so_irem (C : Cx sc p R s m args meth c mt D b cy cs z0) {x y : Int32} (hd : decode (mB mt.1) pc = .ok (.irem, 1)) (hn : ¬ y = 0) (k : Go p l e R s m args below meth c mt D b cy cs z0 y0 Q (pc + 1) ls (.int (x - x / y * y) :: r) h) : Go p l e R s m args below meth c mt D b cy cs z0 y0 Q pc ls (.int y :: .int x :: r) h := fun lsA H locs cells slots hz hy hw hS hl =>  lv_irem C.1 C.2.1 hd hn (k lsA H locs cells slots hz hy hw hS hl)
theorem so_ladd (C : Cx sc p R s m args meth c mt D b cy cs z0) {x y : Int64} (hd : decode (mB mt.1) pc = .ok (.ladd, 1)) (k : Go p l e R s m args below meth c mt D b cy cs z0 y0 Q (pc + 1) ls (.long (x + y) :: r) h) : Go p l e R s m args below meth c mt D b cy cs z0 y0 Q pc ls (.long y :: .long x :: r) h := fun lsA H locs cells slots hz hy hw hS hl =>  lv_ladd C.1 C.2.1 hd (k lsA H locs cells slots hz hy hw hS hl)
theorem so_lsub (C : Cx sc p R s m args meth c mt D b cy cs z0) {x y : Int64} (hd : decode (mB mt.1) pc = .ok (.lsub, 1)) (k : Go p l e R s m args below meth c mt D b cy cs z0 y0 Q (pc + 1) ls (.long (x - y) :: r) h) : Go p l e R s m args below meth c mt D b cy cs z0 y0 Q pc ls (.long y :: .long x :: r) h := fun lsA H locs cells slots hz hy hw hS hl =>  lv_lsub C.1 C.2.1 hd (k lsA H locs cells slots hz hy hw hS hl)
theorem so_lmul (C : Cx sc p R s m args meth c mt D b cy cs z0) {x y : Int64} (hd : decode (mB mt.1) pc = .ok (.lmul, 1)) (k : Go p l e R s m args below meth c mt D b cy cs z0 y0 Q (pc + 1) ls (.long (x * y) :: r) h) : Go p l e R s m args below meth c mt D b cy cs z0 y0 Q pc ls (.long y :: .long x :: r) h := fun lsA H locs cells slots hz hy hw hS hl =>  lv_lmul C.1 C.2.1 hd (k lsA H locs cells slots hz hy hw hS hl)
theorem so_ldiv (C : Cx sc p R s m args meth c mt D b cy cs z0) {x y : Int64} (hd : decode (mB mt.1) pc = .ok (.ldiv, 1)) (hn : ¬ y = 0) (k : Go p l e R s m args below meth c mt D b cy cs z0 y0 Q (pc + 1) ls (.long (x / y) :: r) h) : Go p l e R s m args below meth c mt D b cy cs z0 y0 Q pc ls (.long y :: .long x :: r) h := fun lsA H locs cells slots hz hy hw hS hl =>  lv_ldiv C.1 C.2.1 hd hn (k lsA H locs cells slots hz hy hw hS hl)
theorem so_lrem (C : Cx sc p R s m args meth c mt D b cy cs z0) {x y : Int64} (hd : decode (mB mt.1) pc = .ok (.lrem, 1)) (hn : ¬ y = 0) (k : Go p l e R s m args below meth c mt D b cy cs z0 y0 Q (pc + 1) ls (.long (x - x / y * y) :: r) h) : Go p l e R s m args below meth c mt D b cy cs z0 y0 Q pc ls (.long y :: .long x :: r) h := fun lsA H locs cells slots hz hy hw hS hl =>  lv_lrem C.1 C.2.1 hd hn (k lsA H locs cells slots hz hy hw hS hl)
theorem so_lcmp (C : Cx sc p R s m args meth c mt D b cy cs z0) {x y : Int64} (hd : decode (mB mt.1) pc = .ok (.lcmp, 1)) (k : Go p l e R s m args below meth c mt D b cy cs z0 y0 Q (pc + 1) ls (.int (lg_cmp x y) :: r) h) : Go p l e R s m args below meth c mt D b cy cs z0 y0 Q pc ls (.long y :: .long x :: r) h := fun lsA H locs cells slots hz hy hw hS hl =>  W.lcmp C.1 C.2.1 hd (k lsA H locs cells slots hz hy hw hS hl)
theorem so_i2l (C : Cx sc p R s m args meth c mt D b cy cs z0) {x : Int32} (hd : decode (mB mt.1) pc = .ok (.i2l, 1)) (k : Go p l e R s m args below meth c mt D b cy cs z0 y0 Q (pc + 1) ls (.long x.toInt64 :: r) h) : Go p l e R s m args below meth c mt D b cy cs z0 y0 Q pc ls (.int x :: r) h := fun lsA H locs cells slots hz hy hw hS hl =>  lv_i2l C.1 C.2.1 hd rfl (k lsA H locs cells slots hz hy hw hS hl)
theorem so_l2i (C : Cx sc p R s m args meth c mt D b cy cs z0) {x : Int64} (hd : decode (mB mt.1) pc = .ok (.l2i, 1)) (k : Go p l e R s m args below meth c mt D b cy cs z0 y0 Q (pc + 1) ls (.int x.toInt32 :: r) h) : Go p l e R s m args below meth c mt D b cy cs z0 y0 Q pc ls (.long x :: r) h := fun lsA H locs cells slots hz hy hw hS hl =>  lv_l2i C.1 C.2.1 hd rfl (k lsA H locs cells slots hz hy hw hS hl)
theorem so_i2b (C : Cx sc p R s m args meth c mt D b cy cs z0) {x : Int32} (hd : decode (mB mt.1) pc = .ok (.i2b, 1)) (k : Go p l e R s m args below meth c mt D b cy cs z0 y0 Q (pc + 1) ls (.int x.toInt8.toInt32 :: r) h) : Go p l e R s m args below meth c mt D b cy cs z0 y0 Q pc ls (.int x :: r) h := fun lsA H locs cells slots hz hy hw hS hl =>  lv_i2b C.1 C.2.1 hd rfl (k lsA H locs cells slots hz hy hw hS hl)
theorem so_i2s (C : Cx sc p R s m args meth c mt D b cy cs z0) {x : Int32} (hd : decode (mB mt.1) pc = .ok (.i2s, 1)) (k : Go p l e R s m args below meth c mt D b cy cs z0 y0 Q (pc + 1) ls (.int x.toInt16.toInt32 :: r) h) : Go p l e R s m args below meth c mt D b cy cs z0 y0 Q pc ls (.int x :: r) h := fun lsA H locs cells slots hz hy hw hS hl =>  lv_i2s C.1 C.2.1 hd rfl (k lsA H locs cells slots hz hy hw hS hl)
theorem so_dup (C : Cx sc p R s m args meth c mt D b cy cs z0) {v : Value} (hd : decode (mB mt.1) pc = .ok (.dup, 1)) (hv : cat v = 1) (k : Go p l e R s m args below meth c mt D b cy cs z0 y0 Q (pc + 1) ls (v :: v :: r) h) : Go p l e R s m args below meth c mt D b cy cs z0 y0 Q pc ls (v :: r) h := fun lsA H locs cells slots hz hy hw hS hl =>  lv_dup C.1 C.2.1 hd (by rw [cnv_cat]; exact hv) (k lsA H locs cells slots hz hy hw hS hl)
theorem so_dup2 (C : Cx sc p R s m args meth c mt D b cy cs z0) {v w : Value} (hd : decode (mB mt.1) pc = .ok (.dup2, 1)) (hv : cat v = 1) (hv2 : cat w = 1) (k : Go p l e R s m args below meth c mt D b cy cs z0 y0 Q (pc + 1) ls (v :: w :: v :: w :: r) h) : Go p l e R s m args below meth c mt D b cy cs z0 y0 Q pc ls (v :: w :: r) h := fun lsA H locs cells slots hz hy hw hS hl =>  lv_dup2_11 C.1 C.2.1 hd (by rw [cnv_cat]; exact hv) (by rw [cnv_cat]; exact hv2) (k lsA H locs cells slots hz hy hw hS hl)
theorem so_pop (C : Cx sc p R s m args meth c mt D b cy cs z0) {v : Value} (hd : decode (mB mt.1) pc = .ok (.pop, 1)) (hv : cat v = 1) (k : Go p l e R s m args below meth c mt D b cy cs z0 y0 Q (pc + 1) ls r h) : Go p l e R s m args below meth c mt D b cy cs z0 y0 Q pc ls (v :: r) h := fun lsA H locs cells slots hz hy hw hS hl =>  lv_pop C.1 C.2.1 hd (by rw [cnv_cat]; exact hv) (k lsA H locs cells slots hz hy hw hS hl)
theorem so_goto (C : Cx sc p R s m args meth c mt D b cy cs z0) {z : Int} {tg : Nat} (hd : decode (mB mt.1) pc = .ok (.goto z, 3)) (ht : (pc : Int) + z = (tg : Int)) (k : Go p l e R s m args below meth c mt D b cy cs z0 y0 Q tg ls st h) : Go p l e R s m args below meth c mt D b cy cs z0 y0 Q pc ls st h := fun lsA H locs cells slots hz hy hw hS hl =>  lv_goto C.1 C.2.1 hd ht (k lsA H locs cells slots hz hy hw hS hl)
theorem so_if_eq (C : Cx sc p R s m args meth c mt D b cy cs z0) {x : Int32} {z : Int} {tg : Nat} (hd : decode (mB mt.1) pc = .ok (.ifCond .eq z, 3)) (ht : (pc : Int) + z = (tg : Int)) (kt : x = 0 → Go p l e R s m args below meth c mt D b cy cs z0 y0 Q tg ls r h) (kf : ¬ (x = 0) → Go p l e R s m args below meth c mt D b cy cs z0 y0 Q (pc + 3) ls r h) : Go p l e R s m args below meth c mt D b cy cs z0 y0 Q pc ls (.int x :: r) h := fun lsA H locs cells slots hz hy hw hS hl =>  lv_if_eq C.1 C.2.1 hd ht (fun q => kt (by first | exact q | simpa using q) lsA H locs cells slots hz hy hw hS hl) (fun q => kf (by first | exact q | simpa using q) lsA H locs cells slots hz hy hw hS hl)
theorem so_icmp_eq (C : Cx sc p R s m args meth c mt D b cy cs z0) {x y : Int32} {z : Int} {tg : Nat} (hd : decode (mB mt.1) pc = .ok (.if_icmp .eq z, 3)) (ht : (pc : Int) + z = (tg : Int)) (kt : x = y → Go p l e R s m args below meth c mt D b cy cs z0 y0 Q tg ls r h) (kf : ¬ (x = y) → Go p l e R s m args below meth c mt D b cy cs z0 y0 Q (pc + 3) ls r h) : Go p l e R s m args below meth c mt D b cy cs z0 y0 Q pc ls (.int y :: .int x :: r) h := fun lsA H locs cells slots hz hy hw hS hl =>  lv_icmp_eq C.1 C.2.1 hd ht (fun q => kt (by first | exact q | simpa using q) lsA H locs cells slots hz hy hw hS hl) (fun q => kf (by first | exact q | simpa using q) lsA H locs cells slots hz hy hw hS hl)
theorem so_if_ne (C : Cx sc p R s m args meth c mt D b cy cs z0) {x : Int32} {z : Int} {tg : Nat} (hd : decode (mB mt.1) pc = .ok (.ifCond .ne z, 3)) (ht : (pc : Int) + z = (tg : Int)) (kt : ¬ x = 0 → Go p l e R s m args below meth c mt D b cy cs z0 y0 Q tg ls r h) (kf : ¬ (¬ x = 0) → Go p l e R s m args below meth c mt D b cy cs z0 y0 Q (pc + 3) ls r h) : Go p l e R s m args below meth c mt D b cy cs z0 y0 Q pc ls (.int x :: r) h := fun lsA H locs cells slots hz hy hw hS hl =>  lv_if_ne C.1 C.2.1 hd ht (fun q => kt (by first | exact q | simpa using q) lsA H locs cells slots hz hy hw hS hl) (fun q => kf (by first | exact q | simpa using q) lsA H locs cells slots hz hy hw hS hl)
theorem so_icmp_ne (C : Cx sc p R s m args meth c mt D b cy cs z0) {x y : Int32} {z : Int} {tg : Nat} (hd : decode (mB mt.1) pc = .ok (.if_icmp .ne z, 3)) (ht : (pc : Int) + z = (tg : Int)) (kt : ¬ x = y → Go p l e R s m args below meth c mt D b cy cs z0 y0 Q tg ls r h) (kf : ¬ (¬ x = y) → Go p l e R s m args below meth c mt D b cy cs z0 y0 Q (pc + 3) ls r h) : Go p l e R s m args below meth c mt D b cy cs z0 y0 Q pc ls (.int y :: .int x :: r) h := fun lsA H locs cells slots hz hy hw hS hl =>  lv_icmp_ne C.1 C.2.1 hd ht (fun q => kt (by first | exact q | simpa using q) lsA H locs cells slots hz hy hw hS hl) (fun q => kf (by first | exact q | simpa using q) lsA H locs cells slots hz hy hw hS hl)
theorem so_if_lt (C : Cx sc p R s m args meth c mt D b cy cs z0) {x : Int32} {z : Int} {tg : Nat} (hd : decode (mB mt.1) pc = .ok (.ifCond .lt z, 3)) (ht : (pc : Int) + z = (tg : Int)) (kt : x < 0 → Go p l e R s m args below meth c mt D b cy cs z0 y0 Q tg ls r h) (kf : ¬ (x < 0) → Go p l e R s m args below meth c mt D b cy cs z0 y0 Q (pc + 3) ls r h) : Go p l e R s m args below meth c mt D b cy cs z0 y0 Q pc ls (.int x :: r) h := fun lsA H locs cells slots hz hy hw hS hl =>  lv_if_lt C.1 C.2.1 hd ht (fun q => kt (by first | exact q | simpa using q) lsA H locs cells slots hz hy hw hS hl) (fun q => kf (by first | exact q | simpa using q) lsA H locs cells slots hz hy hw hS hl)
theorem so_icmp_lt (C : Cx sc p R s m args meth c mt D b cy cs z0) {x y : Int32} {z : Int} {tg : Nat} (hd : decode (mB mt.1) pc = .ok (.if_icmp .lt z, 3)) (ht : (pc : Int) + z = (tg : Int)) (kt : x < y → Go p l e R s m args below meth c mt D b cy cs z0 y0 Q tg ls r h) (kf : ¬ (x < y) → Go p l e R s m args below meth c mt D b cy cs z0 y0 Q (pc + 3) ls r h) : Go p l e R s m args below meth c mt D b cy cs z0 y0 Q pc ls (.int y :: .int x :: r) h := fun lsA H locs cells slots hz hy hw hS hl =>  lv_icmp_lt C.1 C.2.1 hd ht (fun q => kt (by first | exact q | simpa using q) lsA H locs cells slots hz hy hw hS hl) (fun q => kf (by first | exact q | simpa using q) lsA H locs cells slots hz hy hw hS hl)
theorem so_if_ge (C : Cx sc p R s m args meth c mt D b cy cs z0) {x : Int32} {z : Int} {tg : Nat} (hd : decode (mB mt.1) pc = .ok (.ifCond .ge z, 3)) (ht : (pc : Int) + z = (tg : Int)) (kt : 0 ≤ x → Go p l e R s m args below meth c mt D b cy cs z0 y0 Q tg ls r h) (kf : ¬ (0 ≤ x) → Go p l e R s m args below meth c mt D b cy cs z0 y0 Q (pc + 3) ls r h) : Go p l e R s m args below meth c mt D b cy cs z0 y0 Q pc ls (.int x :: r) h := fun lsA H locs cells slots hz hy hw hS hl =>  lv_if_ge C.1 C.2.1 hd ht (fun q => kt (by first | exact q | simpa using q) lsA H locs cells slots hz hy hw hS hl) (fun q => kf (by first | exact q | simpa using q) lsA H locs cells slots hz hy hw hS hl)
theorem so_icmp_ge (C : Cx sc p R s m args meth c mt D b cy cs z0) {x y : Int32} {z : Int} {tg : Nat} (hd : decode (mB mt.1) pc = .ok (.if_icmp .ge z, 3)) (ht : (pc : Int) + z = (tg : Int)) (kt : y ≤ x → Go p l e R s m args below meth c mt D b cy cs z0 y0 Q tg ls r h) (kf : ¬ (y ≤ x) → Go p l e R s m args below meth c mt D b cy cs z0 y0 Q (pc + 3) ls r h) : Go p l e R s m args below meth c mt D b cy cs z0 y0 Q pc ls (.int y :: .int x :: r) h := fun lsA H locs cells slots hz hy hw hS hl =>  lv_icmp_ge C.1 C.2.1 hd ht (fun q => kt (by first | exact q | simpa using q) lsA H locs cells slots hz hy hw hS hl) (fun q => kf (by first | exact q | simpa using q) lsA H locs cells slots hz hy hw hS hl)
theorem so_if_gt (C : Cx sc p R s m args meth c mt D b cy cs z0) {x : Int32} {z : Int} {tg : Nat} (hd : decode (mB mt.1) pc = .ok (.ifCond .gt z, 3)) (ht : (pc : Int) + z = (tg : Int)) (kt : 0 < x → Go p l e R s m args below meth c mt D b cy cs z0 y0 Q tg ls r h) (kf : ¬ (0 < x) → Go p l e R s m args below meth c mt D b cy cs z0 y0 Q (pc + 3) ls r h) : Go p l e R s m args below meth c mt D b cy cs z0 y0 Q pc ls (.int x :: r) h := fun lsA H locs cells slots hz hy hw hS hl =>  lv_if_gt C.1 C.2.1 hd ht (fun q => kt (by first | exact q | simpa using q) lsA H locs cells slots hz hy hw hS hl) (fun q => kf (by first | exact q | simpa using q) lsA H locs cells slots hz hy hw hS hl)
theorem so_icmp_gt (C : Cx sc p R s m args meth c mt D b cy cs z0) {x y : Int32} {z : Int} {tg : Nat} (hd : decode (mB mt.1) pc = .ok (.if_icmp .gt z, 3)) (ht : (pc : Int) + z = (tg : Int)) (kt : y < x → Go p l e R s m args below meth c mt D b cy cs z0 y0 Q tg ls r h) (kf : ¬ (y < x) → Go p l e R s m args below meth c mt D b cy cs z0 y0 Q (pc + 3) ls r h) : Go p l e R s m args below meth c mt D b cy cs z0 y0 Q pc ls (.int y :: .int x :: r) h := fun lsA H locs cells slots hz hy hw hS hl =>  lv_icmp_gt C.1 C.2.1 hd ht (fun q => kt (by first | exact q | simpa using q) lsA H locs cells slots hz hy hw hS hl) (fun q => kf (by first | exact q | simpa using q) lsA H locs cells slots hz hy hw hS hl)
theorem so_if_le (C : Cx sc p R s m args meth c mt D b cy cs z0) {x : Int32} {z : Int} {tg : Nat} (hd : decode (mB mt.1) pc = .ok (.ifCond .le z, 3)) (ht : (pc : Int) + z = (tg : Int)) (kt : x ≤ 0 → Go p l e R s m args below meth c mt D b cy cs z0 y0 Q tg ls r h) (kf : ¬ (x ≤ 0) → Go p l e R s m args below meth c mt D b cy cs z0 y0 Q (pc + 3) ls r h) : Go p l e R s m args below meth c mt D b cy cs z0 y0 Q pc ls (.int x :: r) h := fun lsA H locs cells slots hz hy hw hS hl =>  lv_if_le C.1 C.2.1 hd ht (fun q => kt (by first | exact q | simpa using q) lsA H locs cells slots hz hy hw hS hl) (fun q => kf (by first | exact q | simpa using q) lsA H locs cells slots hz hy hw hS hl)
theorem so_icmp_le (C : Cx sc p R s m args meth c mt D b cy cs z0) {x y : Int32} {z : Int} {tg : Nat} (hd : decode (mB mt.1) pc = .ok (.if_icmp .le z, 3)) (ht : (pc : Int) + z = (tg : Int)) (kt : x ≤ y → Go p l e R s m args below meth c mt D b cy cs z0 y0 Q tg ls r h) (kf : ¬ (x ≤ y) → Go p l e R s m args below meth c mt D b cy cs z0 y0 Q (pc + 3) ls r h) : Go p l e R s m args below meth c mt D b cy cs z0 y0 Q pc ls (.int y :: .int x :: r) h := fun lsA H locs cells slots hz hy hw hS hl =>  lv_icmp_le C.1 C.2.1 hd ht (fun q => kt (by first | exact q | simpa using q) lsA H locs cells slots hz hy hw hS hl) (fun q => kf (by first | exact q | simpa using q) lsA H locs cells slots hz hy hw hS hl)
theorem so_acmp_ne (C : Cx sc p R s m args meth c mt D b cy cs z0) {x y : Nat} {z : Int} {tg : Nat} (hd : decode (mB mt.1) pc = .ok (.if_acmp .ne z, 3)) (ht : (pc : Int) + z = (tg : Int)) (kt : ¬ x = y → Go p l e R s m args below meth c mt D b cy cs z0 y0 Q tg ls r h) (kf : ¬ ¬ x = y → Go p l e R s m args below meth c mt D b cy cs z0 y0 Q (pc + 3) ls r h) : Go p l e R s m args below meth c mt D b cy cs z0 y0 Q pc ls (.ref y :: .ref x :: r) h := fun lsA H locs cells slots hz hy hw hS hl =>  lv_acmp_ne (rx := ad b x) (ry := ad b y) C.1 C.2.1 hd ht (fun q => kt (fun z => q (by rw [z])) lsA H locs cells slots hz hy hw hS hl) (fun q => kf (fun z => z (ad_inj q)) lsA H locs cells slots hz hy hw hS hl)
theorem so_tsw (C : Cx sc p R s m args meth c mt D b cy cs z0) {d lo hi : Int} {offs : Array Int} {n : Nat} {x : Int32} (hd : decode (mB mt.1) pc = .ok (.tableswitch d lo hi offs, n)) (h1 : 0 ≤ (pc : Int) + d) (h2 : ∀ z ∈ offs.toList, 0 ≤ (pc : Int) + z) (h3 : (offs.size : Int) = hi - lo + 1) (k : Go p l e R s m args below meth c mt D b cy cs z0 y0 Q (tsw pc d lo hi offs x) ls r h) : Go p l e R s m args below meth c mt D b cy cs z0 y0 Q pc ls (.int x :: r) h := by
  intro lsA H locs cells slots hz hy hw hS hl
  have k1 := k lsA H locs cells slots hz hy hw hS hl
  unfold tsw at k1
  by_cases q : x.toInt < lo ∨ hi < x.toInt
  · rw [if_pos q] at k1
    exact lv_tableOut C.1 C.2.1 hd q (by rw [Int.toNat_of_nonneg h1]) k1
  · rw [if_neg q] at k1
    have q1 : ¬ x.toInt < lo := fun z => q (Or.inl z)
    have q2 : ¬ hi < x.toInt := fun z => q (Or.inr z)
    have hlt : (x.toInt - lo).toNat < offs.size := by omega
    have hg : offs[(x.toInt - lo).toNat]? = some (offs.getD (x.toInt - lo).toNat 0) := by
      rw [Array.getD_eq_getD_getElem?, Array.getElem?_eq_getElem hlt]
      rfl
    have hm : offs.getD (x.toInt - lo).toNat 0 ∈ offs.toList := by
      have := Array.mem_of_getElem? hg
      exact Array.mem_toList_iff.mpr this
    exact lv_tableIn C.1 C.2.1 hd q1 q2 hg (by rw [Int.toNat_of_nonneg (h2 _ hm)]) k1
end
end
section
/-! The rows that read and write the heap. -/
theorem ceE_congr {b : Nat} {cy : Nat → ClassId} {h h1 : Hp} {k : Nat} (e1 : zK h1 k = zK h k) (e2 : zN h1 k = zN h k) (e3 : zI h1 k = zI h k) (e4 : zJ h1 k = zJ h k) (e5 : zA h1 k = zA h k) : ceE b cy h1 k = ceE b cy h k := by
  unfold ceE fvs
  rw [e1, e2, e3, e4, e5]
theorem ceE_upI {b : Nat} {cy : Nat → ClassId} {h : Hp} {a j k : Nat} {v : Int32} (hk : k ≠ a) : ceE b cy (upI h a j v) k = ceE b cy h k := ceE_congr rfl rfl (va_up_ne _ _ hk) rfl rfl
theorem ceE_upJ {b : Nat} {cy : Nat → ClassId} {h : Hp} {a j k : Nat} {v : Int64} (hk : k ≠ a) : ceE b cy (upJ h a j v) k = ceE b cy h k := ceE_congr rfl rfl rfl (va_up_ne _ _ hk) rfl
theorem ceE_upA {b : Nat} {cy : Nat → ClassId} {h : Hp} {a j k v : Nat} (hk : k ≠ a) : ceE b cy (upA h a j v) k = ceE b cy h k := ceE_congr rfl rfl rfl rfl (va_up_ne _ _ hk)
theorem ceE_rwI {b : Nat} {cy : Nat → ClassId} {h : Hp} {a k : Nat} {f : Nat → Int32} (hk : k ≠ a) : ceE b cy (rwI h a f) k = ceE b cy h k := ceE_congr rfl rfl (va_up_ne _ _ hk) rfl rfl
theorem ceE_rwJ {b : Nat} {cy : Nat → ClassId} {h : Hp} {a k : Nat} {f : Nat → Int64} (hk : k ≠ a) : ceE b cy (rwJ h a f) k = ceE b cy h k := ceE_congr rfl rfl rfl (va_up_ne _ _ hk) rfl
theorem ceE_nwC {b : Nat} {cy : Nat → ClassId} {h : Hp} {kd n k : Nat} (hk : k ≠ zc h + 1) : ceE b cy (nwC h kd n) k = ceE b cy h k := ceE_congr (va_up_ne _ _ hk) (va_up_ne _ _ hk) (va_up_ne _ _ hk) (va_up_ne _ _ hk) (va_up_ne _ _ hk)
theorem ceE_nwI {b : Nat} {cy : Nat → ClassId} {h : Hp} {n k : Nat} {f : Nat → Int32} (hk : k ≠ zc h + 1) : ceE b cy (nwI h n f) k = ceE b cy h k := ceE_congr (va_up_ne _ _ hk) (va_up_ne _ _ hk) (va_up_ne _ _ hk) (va_up_ne _ _ hk) (va_up_ne _ _ hk)
theorem zI_upI (h : Hp) (a j : Nat) (v : Int32) (k i : Nat) : zI (upI h a j v) k i = if k = a then (if i = j then v else zI h a i) else zI h k i := by
  show va_up (zI h) a (upd (zI h a) j v) k i = _
  by_cases e : k = a
  · subst e
    rw [va_up_self, if_pos rfl]
    rfl
  · rw [va_up_ne _ _ e, if_neg e]
theorem zJ_upJ (h : Hp) (a j : Nat) (v : Int64) (k i : Nat) : zJ (upJ h a j v) k i = if k = a then (if i = j then v else zJ h a i) else zJ h k i := by
  show va_up (zJ h) a (vp_updL (zJ h a) j v) k i = _
  by_cases e : k = a
  · subst e
    rw [va_up_self, if_pos rfl]
    rfl
  · rw [va_up_ne _ _ e, if_neg e]
theorem zA_upA (h : Hp) (a j v k i : Nat) : zA (upA h a j v) k i = if k = a then (if i = j then v else zA h a i) else zA h k i := by
  show va_up (zA h) a (va_up (zA h a) j v) k i = _
  by_cases e : k = a
  · subst e
    rw [va_up_self, if_pos rfl]
    rfl
  · rw [va_up_ne _ _ e, if_neg e]
theorem fvs_setI {b : Nat} {h : Hp} {k c j : Nat} {x : Int32} (hj : ft c j ≠ 2) : (fvs b h k c).set j (.int x) = fvs b (upI h k j x) k c := by
  apply List.ext_getElem?
  intro i
  by_cases hi : i < nf c
  · rw [fvs_at (h := upI h k j x) hi]
    by_cases e : i = j
    · subst e
      rw [List.getElem?_set_self (by rw [fvs_len]; exact hi), if_neg hj]
      rw [zI_upI, if_pos rfl, if_pos rfl]
    · rw [List.getElem?_set_ne (Ne.symm e), fvs_at hi]
      rw [zI_upI, if_pos rfl, if_neg e]
      rfl
  · rw [List.getElem?_eq_none (by rw [List.length_set, fvs_len]; omega), List.getElem?_eq_none (by rw [fvs_len]; omega)]
theorem fvs_setA {b : Nat} {h : Hp} {k c j x : Nat} (hj : ft c j = 2) : (fvs b h k c).set j (va_rf (ad b x)) = fvs b (upA h k j x) k c := by
  apply List.ext_getElem?
  intro i
  by_cases hi : i < nf c
  · rw [fvs_at (h := upA h k j x) hi]
    by_cases e : i = j
    · subst e
      rw [List.getElem?_set_self (by rw [fvs_len]; exact hi), if_pos hj]
      rw [zA_upA, if_pos rfl, if_pos rfl]
    · rw [List.getElem?_set_ne (Ne.symm e), fvs_at hi]
      rw [zA_upA, if_pos rfl, if_neg e]
      rfl
  · rw [List.getElem?_eq_none (by rw [List.length_set, fvs_len]; omega), List.getElem?_eq_none (by rw [fvs_len]; omega)]
theorem kd_of {ci : Nat} {C : String} {T : u_T} (hv : vwCl[ci]? = some (C, T, nf ci)) : ci < 12 ∧ ∃ ty : Nat → FieldType, (∀ w ∈ u_ws C T (nf ci), w ∈ gwl) ∧ (∀ k, k < nf ci → parseFieldDescriptor (T k).2.2.1 = some (ty k)) ∧ (∀ a, a < nf ci → ∀ b, b < nf ci → a ≠ b → (T a).2.1 ≠ (T b).2.1) ∧ (∀ j, j < nf ci → (ft ci j = 0 ∧ ty j = .int) ∨ (ft ci j = 1 ∧ ty j = .boolean) ∨ (ft ci j = 2 ∧ tyRef (ty j) = true)) ∧ Cond.instantiable C (nf ci) ∈ gwl ∧ Cond.initialized C ∈ gwl ∧ ownS ci = C := by
  have hl : ci < 12 := (List.getElem?_eq_some_iff.mp hv).1
  obtain ⟨C', T', ty, h1, h2⟩ := kds ci hl
  have e := Option.some.inj (hv.symm.trans h1)
  simp only [Prod.mk.injEq] at e
  obtain ⟨rfl, rfl, -⟩ := e
  exact ⟨hl, ty, h2⟩
theorem fAt_ok {c ix j bb : Nat} {z1 z2 : Nat} (h : fAt c ix = some (z1, z2, j, bb)) : FtP (c, ix, j, bb) := by
  unfold fAt at h
  have h1 := List.find?_some h
  have h2 := fts _ (List.mem_of_find?_eq_some h)
  simp only [Bool.and_eq_true, beq_iff_eq] at h1
  obtain ⟨rfl, rfl⟩ := h1
  exact h2
theorem kin_lt {bb ci : Nat} (h : kin bb ci = true) (hb : bb < 12) : ci < 12 := by
  unfold kin at h
  simp at h
  omega
theorem tyRef_ok {t : FieldType} {x : Option Nat} (h : tyRef t = true) : narrow t (va_rf x) = va_rf x ∧ fits t (va_rf x) = true := by
  cases t <;> first | (cases h; done) | (cases x <;> exact ⟨rfl, rfl⟩)
theorem b01 {v : Int32} (h : v = 0 ∨ v = 1) : narrow .boolean (.int v) = .int v ∧ fits .boolean (.int v) = true := by
  rcases h with rfl | rfl <;> exact ⟨rfl, rfl⟩
section
variable {sc : Nat × (Nat → Int32)} {p : Program} {l : Launch} {e : Env} {R : Room} {s : State} {m : MethodId} {args : Array Value} {below : List Frame} {meth : Method} {c : Code} {mt : Mt} {D : va_G} {b : Nat} {cy : Nat → ClassId} {cs : Nat → Nat} {z0 y0 : Nat} {Q : State → Prop} {pc : Nat} {ls : Ls} {st r : List Value} {h : Hp}
theorem HW.obj {H : Heap} (hw : HW D b cy h H) {a ci : Nat} (hk : zK h a = ci) (hc : ci < 12) : ∃ q, a = q + 1 ∧ q < zc h ∧ (wl b cy h)[q]? = some (b + q, .inr (ci, fvs b h (q + 1) ci)) := by
  obtain ⟨q, rfl, hq⟩ := hw.live (a := a) (by rw [hk]; omega)
  exact ⟨q, rfl, hq, by rw [wl_at hq, ceE_obj hk hc]⟩
theorem so_getfield (C : Cx sc p R s m args meth c mt D b cy cs z0) {ix j bb a z1 z2 : Nat} (hd : decode (mB mt.1) pc = .ok (.getfield ix, 3)) (hf : fAt (mC mt.1) ix = some (z1, z2, j, bb)) (hk : kin bb (zK h a) = true) (k : Go p l e R s m args below meth c mt D b cy cs z0 y0 Q (pc + 3) ls ((if ft bb j = 2 then .ref (zA h a j) else .int (zI h a j)) :: r) h) : Go p l e R s m args below meth c mt D b cy cs z0 y0 Q pc ls (.ref a :: r) h := by
  intro lsA H locs cells slots hz hy hw hS hl
  have k1 := k lsA H locs cells slots hz hy hw hS hl
  obtain ⟨hx, hb, hr, hml, hown, hts, hlocks, hNG, hK, -⟩ := C
  obtain ⟨C0, T, hv, hj, hft, hfin, ref, hlk, hsm⟩ := fAt_ok hf _ hk
  obtain ⟨hci, ty, hin, -⟩ := kd_of hv
  obtain ⟨q, rfl, hq, he⟩ := hw.obj rfl hci
  have hval : (fvs b h (q + 1) (zK h (q + 1)))[j]? = some (cnv b cs (if ft bb j = 2 then .ref (zA h (q + 1) j) else .int (zI h (q + 1) j))) := by
    rw [fvs_at hj, hft]
    split <;> rfl
  have hsame : ∀ x, s.fieldFound? (T j).1 (T j).2.1 (T j).2.2.1 = some x → s.fieldFound? ref (T j).2.1 (T j).2.2.1 = some x := by
    intro x hx9
    rcases hsm with q1 | q1
    · rw [← q1]
      exact hx9
    · exact u_same (hts _ q1) x hx9
  rcases hlk with ⟨h1, -⟩ | ⟨host, h1, -⟩
  · exact va_get (D := D) hx hb hts hin hown hK hw.1 q he hv j hj (hts _ h1) hsame hval hd k1
  · exact va_getN (D := D) hx hb hts hin hown hK hw.1 q he hv j hj (va_Nw.use rfl (hNG.1 _ h1)) hsame hval hd k1
theorem put_any (C : Cx sc p R s m args meth c mt D b cy cs z0) {ix j bb q z1 z2 : Nat} {v : Value} {h1 : Hp} (hd : decode (mB mt.1) pc = .ok (.putfield ix, 3)) (hf : fAt (mC mt.1) ix = some (z1, z2, j, bb)) (hp : pok (mC mt.1) ix = true) (hn : fin (mC mt.1) ix = true → (mY mt.1).name = "<init>") (hk : kin bb (zK h (q + 1)) = true)
    (hok : ∀ t : FieldType, (ft bb j = 0 ∧ t = .int) ∨ (ft bb j = 1 ∧ t = .boolean) ∨ (ft bb j = 2 ∧ tyRef t = true) → narrow t (cnv b cs v) = cnv b cs v ∧ fits t (cnv b cs v) = true)
    (hset : ∀ ci, ft ci j = ft bb j → (fvs b h (q + 1) ci).set j (cnv b cs v) = fvs b h1 (q + 1) ci) (e1 : zc h1 = zc h) (e2 : zs h1 = zs h) (e3 : zK h1 = zK h) (ho : ∀ k, k ≠ q + 1 → ceE b cy h1 k = ceE b cy h k)
    (k : Go p l e R s m args below meth c mt D b cy cs z0 y0 Q (pc + 3) ls r h1) : Go p l e R s m args below meth c mt D b cy cs z0 y0 Q pc ls (v :: .ref (q + 1) :: r) h := by
  intro lsA H locs cells slots hz hy hw hS hl
  obtain ⟨hx, hb, hr, hml, hown, hts, hlocks, hNG, hK, hni, -⟩ := C
  obtain ⟨C0, T, hv, hj, hft, hfin, ref, hlk, hsm⟩ := fAt_ok hf _ hk
  obtain ⟨hci, ty, hin, hty, hnm, htp, -⟩ := kd_of hv
  obtain ⟨q', hq', hq, he⟩ := hw.obj rfl hci
  obtain rfl : q = q' := by omega
  have hsame : ∀ x, s.fieldFound? (T j).1 (T j).2.1 (T j).2.2.1 = some x → s.fieldFound? ref (T j).2.1 (T j).2.2.1 = some x := by
    intro x hx9
    rcases hsm with q1 | q1
    · rw [← q1]
      exact hx9
    · exact u_same (hts _ q1) x hx9
  have hh := hok (ty j) (by have := htp j hj; rw [hft] at this; exact this)
  have hkk : ∀ (H1 : Heap) (locs1 : List Loc), va_P D vwCl ((wl b cy h).set q (b + q, .inr (zK h (q + 1), (fvs b h (q + 1) (zK h (q + 1))).set j (cnv b cs v)))) H1 → va_D (Ab b) ((wl b cy h).set q (b + q, .inr (zK h (q + 1), (fvs b h (q + 1) (zK h (q + 1))).set j (cnv b cs v)))) → va_S (Ab b) s.heap H1 locs1 → W p l e R s m args below meth c H1 locs1 cells slots Q (F0 m (pc + 3) lsA (r.map (cnv b cs))) := by
    intro H1 locs1 hP1 hD1 hS1
    rw [hset _ hft] at hP1
    have e4 : ceE b cy h1 (q + 1) = .inr (zK h (q + 1), fvs b h1 (q + 1) (zK h (q + 1))) := ceE_obj (by rw [e3]) hci
    rw [wl_set e1 hq e4 ho] at hP1
    exact k lsA H1 locs1 cells slots (by rw [e1]; exact hz) (by rw [e2]; exact hy) ⟨hP1, fun a ha => by rw [e3]; exact hw.2 a (by rw [← e1]; exact ha)⟩ hS1 hl
  have hlen : j < (fvs b h (q + 1) (zK h (q + 1))).length := by rw [fvs_len]; exact hj
  rcases hlk with ⟨h2, h3⟩ | ⟨host, h2, h3⟩
  · cases hfi : (T j).2.2.2 with
    | false => exact va_put (D := D) hx hb hts hin ty hty hnm hown hK hw.1 wl_D hS q he hv j hj (hts _ h2) hsame hfi (hty j hj) hh.1 hh.2 hlen hd hkk
    | true => exact va_putF (D := D) hx hb hts hin ty hty hnm hown hK hw.1 wl_D hS q he hv j hj (hts _ h2) hsame hfi (hni (hn (by rw [← hfin]; exact hfi))) (h3 hp hfi) (hty j hj) hh.1 hh.2 hlen hd hkk
  · exact va_putN (D := D) hx hb hts hin ty hty hnm hown hK hw.1 wl_D hS q he hv j hj (va_Nw.use rfl (hNG.1 _ h2)) hsame (h3 hp) (hty j hj) hh.1 hh.2 hlen hd hkk
theorem so_putI (C : Cx sc p R s m args meth c mt D b cy cs z0) {ix j bb a z1 z2 : Nat} {v : Int32} (hd : decode (mB mt.1) pc = .ok (.putfield ix, 3)) (hf : fAt (mC mt.1) ix = some (z1, z2, j, bb)) (hp : pok (mC mt.1) ix = true) (hn : fin (mC mt.1) ix = true → (mY mt.1).name = "<init>") (hk : kin bb (zK h a) = true) (ht : ft bb j = 0 ∨ (ft bb j = 1 ∧ (v = 0 ∨ v = 1)))
    (k : Go p l e R s m args below meth c mt D b cy cs z0 y0 Q (pc + 3) ls r (upI h a j v)) : Go p l e R s m args below meth c mt D b cy cs z0 y0 Q pc ls (.int v :: .ref a :: r) h := by
  intro lsA H locs cells slots hz hy hw hS hl
  obtain ⟨C0, T, hv, -⟩ := fAt_ok hf _ hk
  obtain ⟨q, rfl, hq⟩ := hw.live (a := a) (by have := (kd_of hv).1; omega)
  have h2 : ft bb j ≠ 2 := by rcases ht with q | q <;> omega
  refine put_any (v := .int v) C hd hf hp hn hk ?_ (fun ci hci => fvs_setI (by rw [hci]; exact h2)) rfl rfl rfl (fun k hk => ceE_upI hk) k lsA H locs cells slots hz hy hw hS hl
  intro t htt
  show narrow t (.int v) = .int v ∧ fits t (.int v) = true
  rcases htt with ⟨q1, rfl⟩ | ⟨q1, rfl⟩ | ⟨q1, q2⟩
  · exact ⟨rfl, rfl⟩
  · rcases ht with z | z
    · omega
    · exact b01 z.2
  · exact absurd q1 h2
theorem so_putA (C : Cx sc p R s m args meth c mt D b cy cs z0) {ix j bb a z1 z2 v : Nat} (hd : decode (mB mt.1) pc = .ok (.putfield ix, 3)) (hf : fAt (mC mt.1) ix = some (z1, z2, j, bb)) (hp : pok (mC mt.1) ix = true) (hn : fin (mC mt.1) ix = true → (mY mt.1).name = "<init>") (hk : kin bb (zK h a) = true) (ht : ft bb j = 2)
    (k : Go p l e R s m args below meth c mt D b cy cs z0 y0 Q (pc + 3) ls r (upA h a j v)) : Go p l e R s m args below meth c mt D b cy cs z0 y0 Q pc ls (.ref v :: .ref a :: r) h := by
  intro lsA H locs cells slots hz hy hw hS hl
  obtain ⟨C0, T, hv, -⟩ := fAt_ok hf _ hk
  obtain ⟨q, rfl, hq⟩ := hw.live (a := a) (by have := (kd_of hv).1; omega)
  refine put_any (v := .ref v) C hd hf hp hn hk ?_ (fun ci hci => fvs_setA (by rw [hci]; exact ht)) rfl rfl rfl (fun k hk => ceE_upA hk) k lsA H locs cells slots hz hy hw hS hl
  intro t htt
  rcases htt with ⟨q1, rfl⟩ | ⟨q1, rfl⟩ | ⟨q1, q2⟩
  · omega
  · omega
  · exact tyRef_ok q2
theorem so_getstatic (C : Cx sc p R s m args meth c mt D b cy cs z0) {ix t z1 z2 : Nat} (hd : decode (mB mt.1) pc = .ok (.getstatic ix, 3)) (hf : sAt (mC mt.1) ix = some (z1, z2, t)) (k : Go p l e R s m args below meth c mt D b cy cs z0 y0 Q (pc + 3) ls (.retAddr t :: st) h) : Go p l e R s m args below meth c mt D b cy cs z0 y0 Q pc ls st h := by
  intro lsA H locs cells slots hz hy hw hS hl
  have k1 := k lsA H locs cells slots hz hy hw hS hl
  obtain ⟨hx, hb, hr, hml, hown, hts, hlocks, hNG, hK, hni, hfr, hlo, hsz, hsta, -⟩ := C
  unfold sAt at hf
  have h1 := List.find?_some hf
  have h2 := sts _ (List.mem_of_find?_eq_some hf)
  simp only [Bool.and_eq_true, beq_iff_eq] at h1
  obtain ⟨rfl, rfl⟩ := h1
  obtain ⟨ht, h3⟩ := h2
  have hZ := (hsta.1 t ht).1
  rcases h3 with h3 | ⟨host, h3⟩
  · exact va_gets hx hb hZ hS hown (hts _ h3) (fun _ z => z) hd k1
  · exact va_getsN hx hb hZ hS hown (va_Nw.use rfl (hNG.1 _ h3)) (fun _ z => z) hd k1
theorem HW.arI {H : Heap} (hw : HW D b cy h H) {a : Nat} (hk : zK h a = 12) : ∃ q, a = q + 1 ∧ q < zc h ∧ (wl b cy h)[q]? = some (b + q, .inl (cy 12, zN h a, .inl (zI h a))) := by
  obtain ⟨q, rfl, hq⟩ := hw.live (a := a) (by omega)
  exact ⟨q, rfl, hq, by rw [wl_at hq, ceE_I hk]⟩
theorem HW.arJ {H : Heap} (hw : HW D b cy h H) {a : Nat} (hk : zK h a = 13) : ∃ q, a = q + 1 ∧ q < zc h ∧ (wl b cy h)[q]? = some (b + q, .inl (cy 13, zN h a, .inr (.inl (zJ h a)))) := by
  obtain ⟨q, rfl, hq⟩ := hw.live (a := a) (by omega)
  exact ⟨q, rfl, hq, by rw [wl_at hq, ceE_J hk]⟩
theorem HW.arZ {H : Heap} (hw : HW D b cy h H) {a : Nat} (hk : zK h a = 14) : ∃ q, a = q + 1 ∧ q < zc h ∧ (wl b cy h)[q]? = some (b + q, .inl (cy 14, zN h a, .inl (zI h a))) := by
  obtain ⟨q, rfl, hq⟩ := hw.live (a := a) (by omega)
  exact ⟨q, rfl, hq, by rw [wl_at hq, ceE_Z hk]⟩
theorem HW.arA {H : Heap} (hw : HW D b cy h H) {a kd : Nat} (hk : zK h a = kd) (h1 : 15 ≤ kd) (h2 : kd < 99) : ∃ q, a = q + 1 ∧ q < zc h ∧ (wl b cy h)[q]? = some (b + q, .inl (cy kd, zN h a, .inr (.inr (.inr (.inr (fun j => ad b (zA h a j))))))) := by
  obtain ⟨q, rfl, hq⟩ := hw.live (a := a) (by omega)
  exact ⟨q, rfl, hq, by rw [wl_at hq, ceE_A hk h1]⟩
theorem so_iaload (C : Cx sc p R s m args meth c mt D b cy cs z0) {a : Nat} {i : Int32} (hd : decode (mB mt.1) pc = .ok (.iaload, 1)) (hk : zK h a = 12 ∧ inB i (zN h a) = true) (k : Go p l e R s m args below meth c mt D b cy cs z0 y0 Q (pc + 1) ls (.int (zI h a i.toNatClampNeg) :: r) h) : Go p l e R s m args below meth c mt D b cy cs z0 y0 Q pc ls (.int i :: .ref a :: r) h := by
  intro lsA H locs cells slots hz hy hw hS hl
  obtain ⟨q, rfl, hq, he⟩ := hw.arI hk.1
  exact va_iald C.1 C.2.1 C.2.2.2.2.2.2.2.2.1 hw.1 q 0 he rfl (inB_iff.mp hk.2) hd (k lsA H locs cells slots hz hy hw hS hl)
theorem so_baload (C : Cx sc p R s m args meth c mt D b cy cs z0) {a : Nat} {i : Int32} (hd : decode (mB mt.1) pc = .ok (.baload, 1)) (hk : zK h a = 14 ∧ inB i (zN h a) = true) (k : Go p l e R s m args below meth c mt D b cy cs z0 y0 Q (pc + 1) ls (.int (zI h a i.toNatClampNeg) :: r) h) : Go p l e R s m args below meth c mt D b cy cs z0 y0 Q pc ls (.int i :: .ref a :: r) h := by
  intro lsA H locs cells slots hz hy hw hS hl
  obtain ⟨q, rfl, hq, he⟩ := hw.arZ hk.1
  exact va_zald C.1 C.2.1 C.2.2.2.2.2.2.2.2.1 hw.1 q 2 he rfl (inB_iff.mp hk.2) hd (k lsA H locs cells slots hz hy hw hS hl)
theorem so_laload (C : Cx sc p R s m args meth c mt D b cy cs z0) {a : Nat} {i : Int32} (hd : decode (mB mt.1) pc = .ok (.laload, 1)) (hk : zK h a = 13 ∧ inB i (zN h a) = true) (k : Go p l e R s m args below meth c mt D b cy cs z0 y0 Q (pc + 1) ls (.long (zJ h a i.toNatClampNeg) :: r) h) : Go p l e R s m args below meth c mt D b cy cs z0 y0 Q pc ls (.int i :: .ref a :: r) h := by
  intro lsA H locs cells slots hz hy hw hS hl
  obtain ⟨q, rfl, hq, he⟩ := hw.arJ hk.1
  exact va_lald C.1 C.2.1 C.2.2.2.2.2.2.2.2.1 hw.1 q 1 he rfl (inB_iff.mp hk.2) hd (k lsA H locs cells slots hz hy hw hS hl)
theorem so_aaload (C : Cx sc p R s m args meth c mt D b cy cs z0) {a : Nat} {i : Int32} (hd : decode (mB mt.1) pc = .ok (.aaload, 1)) (hk : aar (zK h a) = true ∧ inB i (zN h a) = true) (k : Go p l e R s m args below meth c mt D b cy cs z0 y0 Q (pc + 1) ls (.ref (zA h a i.toNatClampNeg) :: r) h) : Go p l e R s m args below meth c mt D b cy cs z0 y0 Q pc ls (.int i :: .ref a :: r) h := by
  intro lsA H locs cells slots hz hy hw hS hl
  have h3 : zK h a = 15 ∨ zK h a = 16 ∨ zK h a = 17 := by
    have := hk.1
    unfold aar at this
    simp at this
    omega
  have k1 := k lsA H locs cells slots hz hy hw hS hl
  rcases h3 with h3 | h3 | h3
  · obtain ⟨q, rfl, hq, he⟩ := hw.arA h3 (by omega) (by omega)
    exact va_aldq C.1 C.2.1 C.2.2.2.2.2.2.2.2.1 hw.1 q 3 he rfl (inB_iff.mp hk.2) hd k1
  · obtain ⟨q, rfl, hq, he⟩ := hw.arA h3 (by omega) (by omega)
    exact va_aldq C.1 C.2.1 C.2.2.2.2.2.2.2.2.1 hw.1 q 4 he rfl (inB_iff.mp hk.2) hd k1
  · obtain ⟨q, rfl, hq, he⟩ := hw.arA h3 (by omega) (by omega)
    exact va_aldq C.1 C.2.1 C.2.2.2.2.2.2.2.2.1 hw.1 q 5 he rfl (inB_iff.mp hk.2) hd k1
theorem so_alen (C : Cx sc p R s m args meth c mt D b cy cs z0) {a : Nat} (hd : decode (mB mt.1) pc = .ok (.arraylength, 1)) (hk : zK h a = 12 ∨ zK h a = 13) (k : Go p l e R s m args below meth c mt D b cy cs z0 y0 Q (pc + 1) ls (.int (Int32.ofNat (zN h a)) :: r) h) : Go p l e R s m args below meth c mt D b cy cs z0 y0 Q pc ls (.ref a :: r) h := by
  intro lsA H locs cells slots hz hy hw hS hl
  have k1 := k lsA H locs cells slots hz hy hw hS hl
  rcases hk with hk | hk
  · obtain ⟨q, rfl, hq, he⟩ := hw.arI hk
    exact va_alen C.1 C.2.1 C.2.2.2.2.2.2.2.2.1 hw.1 q 0 he rfl rfl hd k1
  · obtain ⟨q, rfl, hq, he⟩ := hw.arJ hk
    exact va_alen C.1 C.2.1 C.2.2.2.2.2.2.2.2.1 hw.1 q 1 he rfl rfl hd k1
theorem so_slen (C : Cx sc p R s m args meth c mt D b cy cs z0) (hd : decode (mB mt.1) pc = .ok (.arraylength, 1)) (k : Go p l e R s m args below meth c mt D b cy cs z0 y0 Q (pc + 1) ls (.int (Int32.ofNat sc.1) :: r) h) : Go p l e R s m args below meth c mt D b cy cs z0 y0 Q pc ls (.retAddr 5 :: r) h := by
  intro lsA H locs cells slots hz hy hw hS hl
  have k1 := k lsA H locs cells slots hz hy hw hS hl
  obtain ⟨hx, hb, hr, hml, hown, hts, hlocks, hNG, hK, hni, hfr, hlo, hsz, hsta, -⟩ := C
  exact va_slen hx hb hsta.2.1 (by have := hsta.2.2; omega) (fun z => absurd z (Nat.not_le.mpr hsta.2.2)) hS hd k1
theorem so_sload (C : Cx sc p R s m args meth c mt D b cy cs z0) {i : Int32} (hd : decode (mB mt.1) pc = .ok (.iaload, 1)) (hk : inB i sc.1 = true) (k : Go p l e R s m args below meth c mt D b cy cs z0 y0 Q (pc + 1) ls (.int (sc.2 i.toNatClampNeg) :: r) h) : Go p l e R s m args below meth c mt D b cy cs z0 y0 Q pc ls (.int i :: .retAddr 5 :: r) h := by
  intro lsA H locs cells slots hz hy hw hS hl
  have k1 := k lsA H locs cells slots hz hy hw hS hl
  obtain ⟨hx, hb, hr, hml, hown, hts, hlocks, hNG, hK, hni, hfr, hlo, hsz, hsta, -⟩ := C
  exact va_sld hx hb hsta.2.1 (by have := hsta.2.2; omega) (fun z => absurd z (Nat.not_le.mpr hsta.2.2)) hS (inB_iff.mp hk) hd k1
theorem so_tload (C : Cx sc p R s m args meth c mt D b cy cs z0) {i : Int32} {t : Nat} (hd : decode (mB mt.1) pc = .ok (.iaload, 1)) (ht : t < 3) (hk : inB i (stN t) = true) (k : Go p l e R s m args below meth c mt D b cy cs z0 y0 Q (pc + 1) ls (.int (stI t i.toNatClampNeg) :: r) h) : Go p l e R s m args below meth c mt D b cy cs z0 y0 Q pc ls (.int i :: .retAddr t :: r) h := by
  intro lsA H locs cells slots hz hy hw hS hl
  have k1 := k lsA H locs cells slots hz hy hw hS hl
  obtain ⟨hx, hb, hr, hml, hown, hts, hlocks, hNG, hK, hni, hfr, hlo, hsz, hsta, -⟩ := C
  have hT := (hsta.1 t (by omega)).2
  rw [show stT t = .int by unfold stT; rw [if_neg (by omega), if_neg (by omega)]] at hT
  exact va_ti hx hb hT hS (inB_iff.mp hk) (v := .int (stI t i.toNatClampNeg)) (by unfold stv; rw [if_neg (by omega)]) hd k1
theorem so_caload (C : Cx sc p R s m args meth c mt D b cy cs z0) {i : Int32} (hd : decode (mB mt.1) pc = .ok (.caload, 1)) (hk : inB i 4 = true) (k : Go p l e R s m args below meth c mt D b cy cs z0 y0 Q (pc + 1) ls (.int (stI 3 i.toNatClampNeg) :: r) h) : Go p l e R s m args below meth c mt D b cy cs z0 y0 Q pc ls (.int i :: .retAddr 3 :: r) h := by
  intro lsA H locs cells slots hz hy hw hS hl
  have k1 := k lsA H locs cells slots hz hy hw hS hl
  obtain ⟨hx, hb, hr, hml, hown, hts, hlocks, hNG, hK, hni, hfr, hlo, hsz, hsta, -⟩ := C
  exact va_tc hx hb (hsta.1 3 (by omega)).2 hS (inB_iff.mp hk) (v := .int (stI 3 i.toNatClampNeg)) rfl hd k1
theorem so_tlload (C : Cx sc p R s m args meth c mt D b cy cs z0) {i : Int32} (hd : decode (mB mt.1) pc = .ok (.laload, 1)) (hk : inB i 5 = true) (k : Go p l e R s m args below meth c mt D b cy cs z0 y0 Q (pc + 1) ls (.long (stJ i.toNatClampNeg) :: r) h) : Go p l e R s m args below meth c mt D b cy cs z0 y0 Q pc ls (.int i :: .retAddr 4 :: r) h := by
  intro lsA H locs cells slots hz hy hw hS hl
  have k1 := k lsA H locs cells slots hz hy hw hS hl
  obtain ⟨hx, hb, hr, hml, hown, hts, hlocks, hNG, hK, hni, hfr, hlo, hsz, hsta, -⟩ := C
  exact va_tl hx hb (hsta.1 4 (by omega)).2 hS (inB_iff.mp hk) (v := .long (stJ i.toNatClampNeg)) rfl hd k1
end
end
section
/-! The rows that write arrays, make cells, and the JDK's own. -/
section
variable {sc : Nat × (Nat → Int32)} {p : Program} {l : Launch} {e : Env} {R : Room} {s : State} {m : MethodId} {args : Array Value} {below : List Frame} {meth : Method} {c : Code} {mt : Mt} {D : va_G} {b : Nat} {cy : Nat → ClassId} {cs : Nat → Nat} {z0 y0 : Nat} {Q : State → Prop} {pc : Nat} {ls : Ls} {st r : List Value} {h : Hp}
theorem HW.next {h1 : Hp} {H1 : Heap} {H : Heap} {q : Nat} {e0 : va_E} (hw : HW D b cy h H) (e1 : zc h1 = zc h) (e3 : zK h1 = zK h) (hq : q < zc h) (he : ceE b cy h1 (q + 1) = e0) (ho : ∀ k, k ≠ q + 1 → ceE b cy h1 k = ceE b cy h k) (hP : va_P D vwCl ((wl b cy h).set q (b + q, e0)) H1) : HW D b cy h1 H1 := by
  rw [wl_set e1 hq he ho] at hP
  exact ⟨hP, fun a ha => by rw [e3]; exact hw.2 a (by rw [← e1]; exact ha)⟩
theorem so_iastore (C : Cx sc p R s m args meth c mt D b cy cs z0) {a : Nat} {i v : Int32} (hd : decode (mB mt.1) pc = .ok (.iastore, 1)) (hk : zK h a = 12 ∧ inB i (zN h a) = true) (k : Go p l e R s m args below meth c mt D b cy cs z0 y0 Q (pc + 1) ls r (upI h a i.toNatClampNeg v)) : Go p l e R s m args below meth c mt D b cy cs z0 y0 Q pc ls (.int v :: .int i :: .ref a :: r) h := by
  intro lsA H locs cells slots hz hy hw hS hl
  obtain ⟨q, rfl, hq, he⟩ := hw.arI hk.1
  refine va_iast C.1 C.2.1 C.2.2.2.2.2.2.2.2.1 hw.1 wl_D hS q 0 he rfl (inB_iff.mp hk.2) hd (fun H1 locs1 hP1 _ hS1 => ?_)
  have e4 : ceE b cy (upI h (q + 1) i.toNatClampNeg v) (q + 1) = .inl (cy 12, zN h (q + 1), .inl (upd (zI h (q + 1)) i.toNatClampNeg v)) := by
    rw [ceE_I (h := upI h (q + 1) i.toNatClampNeg v) hk.1]
    show (Sum.inl (cy 12, zN h (q + 1), .inl (va_up (zI h) (q + 1) (upd (zI h (q + 1)) i.toNatClampNeg v) (q + 1))) : va_E) = _
    rw [va_up_self]
  exact k lsA H1 locs1 cells slots hz hy (hw.next rfl rfl hq e4 (fun k hk => ceE_upI hk) hP1) hS1 hl
theorem so_bastore (C : Cx sc p R s m args meth c mt D b cy cs z0) {a : Nat} {i v : Int32} (hd : decode (mB mt.1) pc = .ok (.bastore, 1)) (hk : zK h a = 14 ∧ inB i (zN h a) = true ∧ (v = 0 ∨ v = 1)) (k : Go p l e R s m args below meth c mt D b cy cs z0 y0 Q (pc + 1) ls r (upI h a i.toNatClampNeg v)) : Go p l e R s m args below meth c mt D b cy cs z0 y0 Q pc ls (.int v :: .int i :: .ref a :: r) h := by
  intro lsA H locs cells slots hz hy hw hS hl
  obtain ⟨q, rfl, hq, he⟩ := hw.arZ hk.1
  refine va_zast C.1 C.2.1 C.2.2.2.2.2.2.2.2.1 hw.1 wl_D hS q 2 he rfl (inB_iff.mp hk.2.1) hd (fun H1 locs1 hP1 _ hS1 => ?_)
  have ev : vp_nar .boolean v = v := by rcases hk.2.2 with z | z <;> rw [z] <;> rfl
  rw [ev] at hP1
  have e4 : ceE b cy (upI h (q + 1) i.toNatClampNeg v) (q + 1) = .inl (cy 14, zN h (q + 1), .inl (upd (zI h (q + 1)) i.toNatClampNeg v)) := by
    rw [ceE_Z (h := upI h (q + 1) i.toNatClampNeg v) hk.1]
    show (Sum.inl (cy 14, zN h (q + 1), .inl (va_up (zI h) (q + 1) (upd (zI h (q + 1)) i.toNatClampNeg v) (q + 1))) : va_E) = _
    rw [va_up_self]
  exact k lsA H1 locs1 cells slots hz hy (hw.next rfl rfl hq e4 (fun k hk => ceE_upI hk) hP1) hS1 hl
theorem so_lastore (C : Cx sc p R s m args meth c mt D b cy cs z0) {a : Nat} {i : Int32} {v : Int64} (hd : decode (mB mt.1) pc = .ok (.lastore, 1)) (hk : zK h a = 13 ∧ inB i (zN h a) = true) (k : Go p l e R s m args below meth c mt D b cy cs z0 y0 Q (pc + 1) ls r (upJ h a i.toNatClampNeg v)) : Go p l e R s m args below meth c mt D b cy cs z0 y0 Q pc ls (.long v :: .int i :: .ref a :: r) h := by
  intro lsA H locs cells slots hz hy hw hS hl
  obtain ⟨q, rfl, hq, he⟩ := hw.arJ hk.1
  refine va_last C.1 C.2.1 C.2.2.2.2.2.2.2.2.1 hw.1 wl_D hS q 1 he rfl (inB_iff.mp hk.2) hd (fun H1 locs1 hP1 _ hS1 => ?_)
  have e4 : ceE b cy (upJ h (q + 1) i.toNatClampNeg v) (q + 1) = .inl (cy 13, zN h (q + 1), .inr (.inl (vp_updL (zJ h (q + 1)) i.toNatClampNeg v))) := by
    rw [ceE_J (h := upJ h (q + 1) i.toNatClampNeg v) hk.1]
    show (Sum.inl (cy 13, zN h (q + 1), .inr (.inl (va_up (zJ h) (q + 1) (vp_updL (zJ h (q + 1)) i.toNatClampNeg v) (q + 1)))) : va_E) = _
    rw [va_up_self]
  exact k lsA H1 locs1 cells slots hz hy (hw.next rfl rfl hq e4 (fun k hk => ceE_upJ hk) hP1) hS1 hl
theorem aast_any (C : Cx sc p R s m args meth c mt D b cy cs z0) {a v t0 kd : Nat} {i : Int32} {E0 : String} (hd : decode (mB mt.1) pc = .ok (.aastore, 1)) (h1 : zK h a = kd) (h2 : 15 ≤ kd) (h3 : kd < 99) (hi : inB i (zN h a) = true) (ht : (tys cy)[t0]? = some (cy kd, .object E0)) {ci : Nat} {r0 : vw_C} (hv : zK h v = ci) (hci : ci < 12) (hc : vwCl[ci]? = some r0) (hE : r0.1 = E0 ∨ va_Nw (.castable r0.1 E0) s)
    (k : Go p l e R s m args below meth c mt D b cy cs z0 y0 Q (pc + 1) ls r (upA h a i.toNatClampNeg v)) : Go p l e R s m args below meth c mt D b cy cs z0 y0 Q pc ls (.ref v :: .int i :: .ref a :: r) h := by
  intro lsA H locs cells slots hz hy hw hS hl
  obtain ⟨q, rfl, hq, he⟩ := hw.arA h1 h2 h3
  obtain ⟨u, rfl, hu, heu⟩ := hw.obj hv hci
  have hfin : ∀ (H1 : Heap) (locs1 : List Loc), va_P D vwCl ((wl b cy h).set q (b + q, .inl (cy kd, zN h (q + 1), .inr (.inr (.inr (.inr (va_up (fun j => ad b (zA h (q + 1) j)) i.toNatClampNeg (some (b + u))))))))) H1 → va_D (Ab b) ((wl b cy h).set q (b + q, .inl (cy kd, zN h (q + 1), .inr (.inr (.inr (.inr (va_up (fun j => ad b (zA h (q + 1) j)) i.toNatClampNeg (some (b + u))))))))) → va_S (Ab b) s.heap H1 locs1 → W p l e R s m args below meth c H1 locs1 cells slots Q (F0 m (pc + 1) lsA (r.map (cnv b cs))) := by
    intro H1 locs1 hP1 _ hS1
    have e4 : ceE b cy (upA h (q + 1) i.toNatClampNeg (u + 1)) (q + 1) = .inl (cy kd, zN h (q + 1), .inr (.inr (.inr (.inr (va_up (fun j => ad b (zA h (q + 1) j)) i.toNatClampNeg (some (b + u))))))) := by
      rw [ceE_A (h := upA h (q + 1) i.toNatClampNeg (u + 1)) h1 h2]
      have : (fun j => ad b (zA (upA h (q + 1) i.toNatClampNeg (u + 1)) (q + 1) j)) = va_up (fun j => ad b (zA h (q + 1) j)) i.toNatClampNeg (some (b + u)) := by
        funext j
        rw [zA_upA, if_pos rfl]
        unfold va_up
        split <;> rfl
      rw [this]
      rfl
    exact k lsA H1 locs1 cells slots hz hy (hw.next rfl rfl hq e4 (fun k hk => ceE_upA hk) hP1) hS1 hl
  rcases hE with hE | hE
  · subst hE
    exact va_astq C.1 C.2.1 C.2.2.2.2.2.2.2.2.1 hw.1 wl_D hS q t0 u ci he ht heu hc (inB_iff.mp hi) hd hfin
  · exact va_astqO C.1 C.2.1 C.2.2.2.2.2.2.2.2.1 hw.1 wl_D hS q t0 u ci he ht hE heu hc (inB_iff.mp hi) hd hfin
theorem so_aastore (C : Cx sc p R s m args meth c mt D b cy cs z0) {a v : Nat} {i : Int32} (hd : decode (mB mt.1) pc = .ok (.aastore, 1)) (hk : inB i (zN h a) = true ∧ ((zK h a = 15 ∧ zK h v = 0) ∨ (zK h a = 16 ∧ kin 4 (zK h v) = true) ∨ (zK h a = 17 ∧ zK h v = 5)))
    (k : Go p l e R s m args below meth c mt D b cy cs z0 y0 Q (pc + 1) ls r (upA h a i.toNatClampNeg v)) : Go p l e R s m args below meth c mt D b cy cs z0 y0 Q pc ls (.ref v :: .int i :: .ref a :: r) h := by
  obtain ⟨hi, ⟨h1, h2⟩ | ⟨h1, h2⟩ | ⟨h1, h2⟩⟩ := hk
  · exact aast_any C (t0 := 3) hd h1 (by omega) (by omega) hi rfl h2 (by omega) (r0 := (RX0, TX0, 5)) rfl (Or.inl rfl) k
  · have h3 : zK h v = 4 ∨ zK h v = 2 ∨ zK h v = 1 := by
      unfold kin at h2
      simp at h2
      omega
    have hNG := C.2.2.2.2.2.2.2.1
    rcases h3 with h3 | h3 | h3
    · exact aast_any C (t0 := 4) hd h1 (by omega) (by omega) hi rfl h3 (by omega) (r0 := (RX4, TX4, 6)) rfl (Or.inl rfl) k
    · exact aast_any C (t0 := 4) hd h1 (by omega) (by omega) hi rfl h3 (by omega) (r0 := (RX2, TX2, 6)) rfl (Or.inr (hNG.1 _ w_ca.2.2)) k
    · exact aast_any C (t0 := 4) hd h1 (by omega) (by omega) hi rfl h3 (by omega) (r0 := (RX1, TX1, 6)) rfl (Or.inr (hNG.1 _ w_ca.2.1)) k
  · exact aast_any C (t0 := 5) hd h1 (by omega) (by omega) hi rfl h2 (by omega) (r0 := (RX5, TX5, 3)) rfl (Or.inl rfl) k
/-- where a new cell lies -/
theorem fresh_q {q : Nat} {e0 : va_E} (hD : va_D (Ab b) (wl b cy h ++ [(q, e0)])) (hq : q < b + zc h + 1) : q = b + zc h := by
  have hat : (wl b cy h ++ [(q, e0)])[zc h]? = some (q, e0) := by
    rw [List.getElem?_append_right (by rw [wl_len]; omega), wl_len]
    simp
  have hb : b ≤ q := hD.2 _ _ hat
  rcases Nat.lt_or_ge q (b + zc h) with z | z
  · have h1 : (wl b cy h ++ [(q, e0)])[q - b]? = some (b + (q - b), ceE b cy h (q - b + 1)) := by
      rw [List.getElem?_append_left (by rw [wl_len]; omega), wl_at (by omega)]
    have := hD.1 (q - b) (zc h) _ _ h1 hat (by show b + (q - b) = q; omega)
    omega
  · omega
theorem made {H1 : Heap} {locs : List Loc} {cells slots n : Nat} {q : Nat} {e0 : va_E} {h1 : Hp} {H : Heap} {lsA : Array Slot} {pc' : Nat} (C : Cx sc p R s m args meth c mt D b cy cs z0) (hw : HW D b cy h H) (hz : z0 + cells = zc h) (hy : y0 + slots = zs h) (e1 : zc h1 = zc h + 1) (e2 : zs h1 = zs h + n) (e3 : ∀ a, a ≠ zc h + 1 → zK h1 a = zK h a) (he : ceE b cy h1 (zc h + 1) = e0) (ho : ∀ k, k ≠ zc h + 1 → ceE b cy h1 k = ceE b cy h k)
    (hP : va_P D vwCl (wl b cy h ++ [(q, e0)]) H1) (hD : va_D (Ab b) (wl b cy h ++ [(q, e0)])) (hS : va_S (Ab b) s.heap H1 locs) (hl : lv_has lsA (mL mt.1) (lvl b cs ls))
    (k : Go p l e R s m args below meth c mt D b cy cs z0 y0 Q pc' ls (.ref (zc h + 1) :: r) h1) : W p l e R s m args below meth c H1 locs (cells + 1) (slots + n) Q (F0 m pc' lsA (.ref q :: r.map (cnv b cs))) := by
  refine W_sized (fun hsz => ?_)
  have hs0 : s.heap.size = b + z0 := C.2.2.2.2.2.2.2.2.2.2.2.2.1
  have hat : (wl b cy h ++ [(q, e0)])[zc h]? = some (q, e0) := by
    rw [List.getElem?_append_right (by rw [wl_len]; omega), wl_len]
    simp
  have hlt : q < H1.size := (hP _ _ hat).lt
  obtain rfl := fresh_q hD (by omega)
  rw [wl_push e1 he ho] at hP
  exact k lsA H1 locs (cells + 1) (slots + n) (by omega) (by omega) ⟨hP, fun a ha => by rw [e3 a (by omega)]; exact hw.2 a (by omega)⟩ hS hl
theorem hA_of (C : Cx sc p R s m args meth c mt D b cy cs z0) : ∀ q, s.heap.size ≤ q → Ab b q := fun q hq => by
  have hs0 : s.heap.size = b + z0 := C.2.2.2.2.2.2.2.2.2.2.2.2.1
  show b ≤ q
  omega
theorem so_new (C : Cx sc p R s m args meth c mt D b cy cs z0) {ix kd z1 z2 : Nat} (hd : decode (mB mt.1) pc = .ok (.new ix, 3)) (hf : lAt (mC mt.1) ix = some (z1, z2, kd)) (hc : zc h + 1 ≤ z0 + R.cells) (hs : zs h + nf kd ≤ y0 + R.slots)
    (k : Go p l e R s m args below meth c mt D b cy cs z0 y0 Q (pc + 3) ls (.ref (zc h + 1) :: st) (nwC h kd (nf kd))) : Go p l e R s m args below meth c mt D b cy cs z0 y0 Q pc ls st h := by
  intro lsA H locs cells slots hz hy hw hS hl
  unfold lAt at hf
  have h1 := List.find?_some hf
  have h2 := lts _ (List.mem_of_find?_eq_some hf)
  simp only [Bool.and_eq_true, beq_iff_eq] at h1
  obtain ⟨rfl, rfl⟩ := h1
  obtain ⟨hk, hlk⟩ := h2
  obtain ⟨C0, T, ty, hv, hin, hty, hnm, htp, hinst, hini, hown0⟩ := kds kd hk
  have hlk : Cond.classLink (ownS (mC mt.1)) z2 C0 ∈ gwl := by rw [← hown0]; exact hlk
  have hts := C.2.2.2.2.2.1
  have hfs : ∀ j, j < nf kd → defaultValue (ty j) = vp_V (fvs b (nwC h kd (nf kd)) (zc h + 1) kd) j := by
    intro j hj
    unfold vp_V
    rw [List.getD_eq_getElem?_getD, fvs_at hj]
    have eI : zI (nwC h kd (nf kd)) (zc h + 1) j = 0 := by show va_up (zI h) (zc h + 1) (fun _ => 0) (zc h + 1) j = 0; rw [va_up_self]
    have eA : zA (nwC h kd (nf kd)) (zc h + 1) j = 0 := by show va_up (zA h) (zc h + 1) (fun _ => 0) (zc h + 1) j = 0; rw [va_up_self]
    rw [eI, eA]
    rcases htp j hj with ⟨g1, g2⟩ | ⟨g1, g2⟩ | ⟨g1, g2⟩
    · rw [g2, g1]; rfl
    · rw [g2, g1]; rfl
    · rw [g1]
      cases hh : ty j with
      | object _ => rfl
      | array _ => rfl
      | _ => rw [hh] at g2; cases g2
  refine va_new (D := D) C.1 C.2.1 hts hin ty hty C.2.2.2.2.1 (hts _ hlk) (hts _ hinst) (hts _ hini) C.2.2.2.2.2.2.2.2.1 hw.1 wl_D hS (hA_of C) hv hfs (by omega) (by omega) hd (fun q H1 hP1 hD1 hS1 => ?_)
  have e3 : zK (nwC h kd (nf kd)) (zc h + 1) = kd := va_up_self _ _ _
  exact made C hw hz hy rfl rfl (fun a ha => va_up_ne _ _ ha) (ceE_obj e3 hk) (fun k hk => ceE_nwC hk) hP1 hD1 hS1 hl k
theorem arr_cls {ty : FieldType} {cA cB : ClassId} {t0 : Nat} {l0 : List (ClassId × FieldType)} (hp : ∀ C, ty ≠ .object C) (hK : va_K D vwCl l0 s) (hK1 : va_K D vwCl (l0 ++ [(cA, ty)]) s) (ht : l0[t0]? = some (cB, ty)) : cA = cB := by
  have h1 := (hK.2 t0 _ ht).2
  have h2 := (hK1.2 l0.length (cA, ty) (by rw [List.getElem?_append_right (Nat.le_refl _)]; simp)).2
  cases ty with
  | object C => exact absurd rfl (hp C)
  | _ => exact Option.some.inj (h2.symm.trans h1)
theorem so_newI (C : Cx sc p R s m args meth c mt D b cy cs z0) {n : Int32} (hd : decode (mB mt.1) pc = .ok (.newarray .int, 2)) (hn : ¬ n < 0 ∧ n.toNatClampNeg ≤ 100000) (hc : zc h + 1 ≤ z0 + R.cells) (hs : zs h + n.toNatClampNeg ≤ y0 + R.slots)
    (k : Go p l e R s m args below meth c mt D b cy cs z0 y0 Q (pc + 2) ls (.ref (zc h + 1) :: r) (nwC h 12 n.toNatClampNeg)) : Go p l e R s m args below meth c mt D b cy cs z0 y0 Q pc ls (.int n :: r) h := by
  intro lsA H locs cells slots hz hy hw hS hl
  have hts := C.2.2.2.2.2.1
  have hK := C.2.2.2.2.2.2.2.2.1
  refine va_newa (D := D) (atype := .int) (ty := .int) (a0 := (n.toNatClampNeg, .inl (fun _ => 0))) C.1 C.2.1 (hts _ w_ar.1) rfl hK hw.1 wl_D hS (hA_of C) (fun _ => rfl) hn.1 rfl (by show n.toNatClampNeg * 4 ≤ 536870912; omega) (by omega) (by omega) hd (fun q cA H1 hK1 hP1 hD1 hS1 => ?_)
  obtain rfl : cA = cy 12 := arr_cls (t0 := 0) (fun _ z => by cases z) hK hK1 rfl
  have e3 : zK (nwC h 12 n.toNatClampNeg) (zc h + 1) = 12 := va_up_self _ _ _
  refine made C hw hz hy rfl rfl (fun a ha => va_up_ne _ _ ha) ?_ (fun k hk => ceE_nwC hk) hP1 hD1 hS1 hl k
  rw [ceE_I e3]
  show (Sum.inl (cy 12, va_up (zN h) (zc h + 1) n.toNatClampNeg (zc h + 1), .inl (va_up (zI h) (zc h + 1) (fun _ => 0) (zc h + 1))) : va_E) = _
  rw [va_up_self, va_up_self]
theorem so_newJ (C : Cx sc p R s m args meth c mt D b cy cs z0) {n : Int32} (hd : decode (mB mt.1) pc = .ok (.newarray .long, 2)) (hn : ¬ n < 0 ∧ n.toNatClampNeg ≤ 100000) (hc : zc h + 1 ≤ z0 + R.cells) (hs : zs h + n.toNatClampNeg ≤ y0 + R.slots)
    (k : Go p l e R s m args below meth c mt D b cy cs z0 y0 Q (pc + 2) ls (.ref (zc h + 1) :: r) (nwC h 13 n.toNatClampNeg)) : Go p l e R s m args below meth c mt D b cy cs z0 y0 Q pc ls (.int n :: r) h := by
  intro lsA H locs cells slots hz hy hw hS hl
  have hts := C.2.2.2.2.2.1
  have hK := C.2.2.2.2.2.2.2.2.1
  refine va_newa (D := D) (atype := .long) (ty := .long) (a0 := (n.toNatClampNeg, .inr (.inl (fun _ => 0)))) C.1 C.2.1 (hts _ w_ar.2.1) rfl hK hw.1 wl_D hS (hA_of C) (fun _ => rfl) hn.1 rfl (by show n.toNatClampNeg * 8 ≤ 536870912; omega) (by omega) (by omega) hd (fun q cA H1 hK1 hP1 hD1 hS1 => ?_)
  obtain rfl : cA = cy 13 := arr_cls (t0 := 1) (fun _ z => by cases z) hK hK1 rfl
  have e3 : zK (nwC h 13 n.toNatClampNeg) (zc h + 1) = 13 := va_up_self _ _ _
  refine made C hw hz hy rfl rfl (fun a ha => va_up_ne _ _ ha) ?_ (fun k hk => ceE_nwC hk) hP1 hD1 hS1 hl k
  rw [ceE_J e3]
  show (Sum.inl (cy 13, va_up (zN h) (zc h + 1) n.toNatClampNeg (zc h + 1), .inr (.inl (va_up (zJ h) (zc h + 1) (fun _ => 0) (zc h + 1)))) : va_E) = _
  rw [va_up_self, va_up_self]
theorem so_newZ (C : Cx sc p R s m args meth c mt D b cy cs z0) {n : Int32} (hd : decode (mB mt.1) pc = .ok (.newarray .boolean, 2)) (hn : ¬ n < 0 ∧ n.toNatClampNeg ≤ 100000) (hc : zc h + 1 ≤ z0 + R.cells) (hs : zs h + n.toNatClampNeg ≤ y0 + R.slots)
    (k : Go p l e R s m args below meth c mt D b cy cs z0 y0 Q (pc + 2) ls (.ref (zc h + 1) :: r) (nwC h 14 n.toNatClampNeg)) : Go p l e R s m args below meth c mt D b cy cs z0 y0 Q pc ls (.int n :: r) h := by
  intro lsA H locs cells slots hz hy hw hS hl
  have hts := C.2.2.2.2.2.1
  have hK := C.2.2.2.2.2.2.2.2.1
  refine va_newa (D := D) (atype := .boolean) (ty := .boolean) (a0 := (n.toNatClampNeg, .inl (fun _ => 0))) C.1 C.2.1 (hts _ w_ar.2.2) rfl hK hw.1 wl_D hS (hA_of C) (fun _ => rfl) hn.1 rfl (by show n.toNatClampNeg * 1 ≤ 536870912; omega) (by omega) (by omega) hd (fun q cA H1 hK1 hP1 hD1 hS1 => ?_)
  obtain rfl : cA = cy 14 := arr_cls (t0 := 2) (fun _ z => by cases z) hK hK1 rfl
  have e3 : zK (nwC h 14 n.toNatClampNeg) (zc h + 1) = 14 := va_up_self _ _ _
  refine made C hw hz hy rfl rfl (fun a ha => va_up_ne _ _ ha) ?_ (fun k hk => ceE_nwC hk) hP1 hD1 hS1 hl k
  rw [ceE_Z e3]
  show (Sum.inl (cy 14, va_up (zN h) (zc h + 1) n.toNatClampNeg (zc h + 1), .inl (va_up (zI h) (zc h + 1) (fun _ => 0) (zc h + 1))) : va_E) = _
  rw [va_up_self, va_up_self]
theorem arr_clsO {C0 : String} {cA cB : ClassId} {t0 : Nat} {l0 : List (ClassId × FieldType)} (hK : va_K D vwCl l0 s) (hK1 : va_K D vwCl (l0 ++ [(cA, .object C0)]) s) (ht : l0[t0]? = some (cB, .object C0)) : cA = cB := by
  obtain ⟨_, _, -, -, -, h1⟩ := (hK.2 t0 _ ht).2
  obtain ⟨_, _, -, -, -, h2⟩ := (hK1.2 l0.length (cA, .object C0) (by rw [List.getElem?_append_right (Nat.le_refl _)]; simp)).2
  exact Option.some.inj (h2.symm.trans h1)
theorem newq_any (C : Cx sc p R s m args meth c mt D b cy cs z0) {ix kd t0 : Nat} {C0 : String} {n : Int32} (hd : decode (mB mt.1) pc = .ok (.anewarray ix, 3)) (hlk : Cond.classLink (ownS (mC mt.1)) ix C0 ∈ gwl) (hov : va_AO C0 s) (h2 : 15 ≤ kd) (h3 : kd < 99) (ht : (tys cy)[t0]? = some (cy kd, .object C0)) (hn : ¬ n < 0 ∧ n.toNatClampNeg ≤ 100000) (hc : zc h + 1 ≤ z0 + R.cells) (hs : zs h + n.toNatClampNeg ≤ y0 + R.slots)
    (k : Go p l e R s m args below meth c mt D b cy cs z0 y0 Q (pc + 3) ls (.ref (zc h + 1) :: r) (nwC h kd n.toNatClampNeg)) : Go p l e R s m args below meth c mt D b cy cs z0 y0 Q pc ls (.int n :: r) h := by
  intro lsA H locs cells slots hz hy hw hS hl
  have hts := C.2.2.2.2.2.1
  have hK := C.2.2.2.2.2.2.2.2.1
  refine va_newq (D := D) C.1 C.2.1 C.2.2.2.2.1 (hts _ hlk) hov hK hw.1 wl_D hS (hA_of C) hn.1 rfl (by omega) (by omega) (by omega) hd (fun q cA H1 hK1 hP1 hD1 hS1 => ?_)
  obtain rfl : cA = cy kd := arr_clsO hK hK1 ht
  have e3 : zK (nwC h kd n.toNatClampNeg) (zc h + 1) = kd := va_up_self _ _ _
  refine made C hw hz hy rfl rfl (fun a ha => va_up_ne _ _ ha) ?_ (fun k hk => ceE_nwC hk) hP1 hD1 hS1 hl k
  rw [ceE_A e3 h2]
  have eN : zN (nwC h kd n.toNatClampNeg) (zc h + 1) = n.toNatClampNeg := va_up_self _ _ _
  have eA : (fun j => ad b (zA (nwC h kd n.toNatClampNeg) (zc h + 1) j)) = fun _ => none := by
    funext j
    have : zA (nwC h kd n.toNatClampNeg) (zc h + 1) j = 0 := by show va_up (zA h) (zc h + 1) (fun _ => 0) (zc h + 1) j = 0; rw [va_up_self]
    rw [this]
    rfl
  rw [eN, eA]
theorem so_anew (C : Cx sc p R s m args meth c mt D b cy cs z0) {ix kd z1 z2 : Nat} {n : Int32} (hd : decode (mB mt.1) pc = .ok (.anewarray ix, 3)) (hf : lAt (mC mt.1) ix = some (z1, z2, kd)) (h3 : kd = 0 ∨ kd = 4 ∨ kd = 5) (hn : ¬ n < 0 ∧ n.toNatClampNeg ≤ 100000) (hc : zc h + 1 ≤ z0 + R.cells) (hs : zs h + n.toNatClampNeg ≤ y0 + R.slots)
    (k : Go p l e R s m args below meth c mt D b cy cs z0 y0 Q (pc + 3) ls (.ref (zc h + 1) :: r) (nwC h (kar kd) n.toNatClampNeg)) : Go p l e R s m args below meth c mt D b cy cs z0 y0 Q pc ls (.int n :: r) h := by
  unfold lAt at hf
  have h1 := List.find?_some hf
  have h2 := lts _ (List.mem_of_find?_eq_some hf)
  simp only [Bool.and_eq_true, beq_iff_eq] at h1
  obtain ⟨rfl, rfl⟩ := h1
  obtain ⟨hk, hlk⟩ := h2
  have hNG := C.2.2.2.2.2.2.2.1
  rcases h3 with rfl | rfl | rfl
  · exact newq_any C (kd := 15) (t0 := 3) (C0 := RX0) hd hlk hNG.2.1 (by omega) (by omega) rfl hn hc hs k
  · exact newq_any C (kd := 16) (t0 := 4) (C0 := RX4) hd hlk hNG.2.2.1 (by omega) (by omega) rfl hn hc hs k
  · exact newq_any C (kd := 17) (t0 := 5) (C0 := RX5) hd hlk hNG.2.2.2.1 (by omega) (by omega) rfl hn hc hs k
end
end
section
/-! The JDK's own: Object(), min, arraycopy, clone, casts. -/
theorem okn_of {r : Mr} {rest : List Value} (h : okn r rest = true) : 1 ≤ mF r ∧ 48 ≤ mW r ∧ cats rest ≤ 8 := by
  unfold okn at h
  simp at h
  omega
theorem okc_of {r q : Mr} {rest : List Value} (h : okc r q rest = true) : mF q + 1 ≤ mF r ∧ 19 + mL q + mW q ≤ mW r ∧ cats rest ≤ 8 := by
  unfold okc at h
  simp at h
  omega
theorem mAt_ok {c ix cd n a b d z1 z2 : Nat} (h : mAt c ix = some (z1, z2, cd, n, a, b, d)) : MlP (c, ix, cd, n, a, b, d) := by
  unfold mAt at h
  have h1 := List.find?_some h
  have h2 := mls _ (List.mem_of_find?_eq_some h)
  simp only [Bool.and_eq_true, beq_iff_eq] at h1
  obtain ⟨rfl, rfl⟩ := h1
  exact h2
section
variable {sc : Nat × (Nat → Int32)} {p : Program} {l : Launch} {e : Env} {R : Room} {s : State} {m : MethodId} {args : Array Value} {below : List Frame} {meth : Method} {c : Code} {mt : Mt} {D : va_G} {b : Nat} {cy : Nat → ClassId} {cs : Nat → Nat} {z0 y0 : Nat} {Q : State → Prop} {pc : Nat} {ls : Ls} {st r : List Value} {h : Hp}
theorem so_oinit (C : Cx sc p R s m args meth c mt D b cy cs z0) {ix o z1 z2 n a b1 d : Nat} (hd : decode (mB mt.1) pc = .ok (.invokespecial ix, 3)) (hf : mAt (mC mt.1) ix = some (z1, z2, 7, n, a, b1, d)) (hk : okn mt.1 r = true ∧ ¬ o = 0) (k : Go p l e R s m args below meth c mt D b cy cs z0 y0 Q (pc + 3) ls r h) : Go p l e R s m args below meth c mt D b cy cs z0 y0 Q pc ls (.ref o :: r) h := by
  intro lsA H locs cells slots hz hy hw hS hl
  have k1 := k lsA H locs cells slots hz hy hw hS hl
  have hlk : Cond.methodLink (ownS (mC mt.1)) ix objectInit ∈ gwl := mAt_ok hf
  obtain ⟨hx, hb, hr, hml, hown, hts, hlocks, hNG, hK, hni, hfr, hlo, hsz, hsta, -⟩ := C
  obtain ⟨g1, g2, g3⟩ := okn_of hk.1
  cases o with
  | zero => exact absurd rfl hk.2
  | succ o =>
    refine W.objInit hx hb hown (hts _ hlk) (hts _ w_oi.1) (hts _ w_oi.2) (a := b + o) rfl (by rw [hml]; exact hl.1) rfl hd (by omega) ?_ k1
    have := lv_room (m := m) (pc := pc) (ls := lsA) (rest := (Value.ref (b + o) :: r.map (cnv b cs))) (st := r.map (cnv b cs)) (by rw [cnv_cats]; exact g3)
    show 2 * (F0 m pc lsA (Value.ref (b + o) :: r.map (cnv b cs))).monitorRoom + _ + 12 ≤ R.locals
    omega
theorem so_min (C : Cx sc p R s m args meth c mt D b cy cs z0) {ix z1 z2 n a b1 d : Nat} {x y : Int32} (hd : decode (mB mt.1) pc = .ok (.invokestatic ix, 3)) (hf : mAt (mC mt.1) ix = some (z1, z2, 10, n, a, b1, d)) (hk : okn mt.1 r = true) (hc : zc h ≤ z0 + R.cells) (hs : zs h ≤ y0 + R.slots) (k : Go p l e R s m args below meth c mt D b cy cs z0 y0 Q (pc + 3) ls (.int (if y < x then y else x) :: r) h) : Go p l e R s m args below meth c mt D b cy cs z0 y0 Q pc ls (.int y :: .int x :: r) h := by
  intro lsA H locs cells slots hz hy hw hS hl
  have k1 := k lsA H locs cells slots hz hy hw hS hl
  have hlk : Cond.methodLink (ownS (mC mt.1)) ix Lib.Math.min.name ∈ gwl := mAt_ok hf
  obtain ⟨hx, hb, hr, hml, hown, hts, hlocks, hNG, hK, hni, hfr, hlo, hsz, hsta, -⟩ := C
  obtain ⟨g1, g2, g3⟩ := okn_of hk
  exact va_mmin hx hb (by rw [hml]; exact hl.1.symm) hown (hts _ hlk) (hts _ w_mm.1) (hts _ w_mm.2.1) (hts _ w_mm.2.2) (by omega) (by rw [cnv_cats]; omega) (by omega) (by omega) hd k1
theorem so_copy (C : Cx sc p R s m args meth c mt D b cy cs z0) {ix z1 z2 n0 a b1 d0 : Nat} {n dp sp : Int32} {d s0 : Nat} (hd : decode (mB mt.1) pc = .ok (.invokestatic ix, 3)) (hf : mAt (mC mt.1) ix = some (z1, z2, 8, n0, a, b1, d0)) (hk : okn mt.1 r = true ∧ ¬ sp < 0 ∧ ¬ dp < 0 ∧ ¬ n < 0 ∧ sp.toNatClampNeg + n.toNatClampNeg ≤ zN h s0 ∧ dp.toNatClampNeg + n.toNatClampNeg ≤ zN h d ∧ ((zK h s0 = 12 ∧ zK h d = 12) ∨ (zK h s0 = 13 ∧ zK h d = 13)))
    (k : Go p l e R s m args below meth c mt D b cy cs z0 y0 Q (pc + 3) ls r (if zK h d = 13 then rwJ h d (va_cpy (zJ h s0) (zJ h d) sp.toNatClampNeg dp.toNatClampNeg n.toNatClampNeg) else rwI h d (va_cpy (zI h s0) (zI h d) sp.toNatClampNeg dp.toNatClampNeg n.toNatClampNeg))) : Go p l e R s m args below meth c mt D b cy cs z0 y0 Q pc ls (.int n :: .int dp :: .ref d :: .int sp :: .ref s0 :: r) h := by
  intro lsA H locs cells slots hz hy hw hS hl
  have hlk : Cond.methodLink (ownS (mC mt.1)) ix arraycopyName ∈ gwl := mAt_ok hf
  obtain ⟨hx, hb, hr, hml, hown, hts, hlocks, hNG, hK, hni, hfr, hlo, hsz, hsta, -⟩ := C
  obtain ⟨h0, h1, h2, h3, h4, h5, h6⟩ := hk
  obtain ⟨g1, g2, g3⟩ := okn_of h0
  have hw7 : nativeFrameWords "java/lang/System" "arraycopy" 5 = 7 := by decide +kernel
  rcases h6 with ⟨e1, e2⟩ | ⟨e1, e2⟩
  · rw [if_neg (by omega)] at k
    obtain ⟨q0, rfl, hq0, he0⟩ := hw.arI e1
    obtain ⟨q1, rfl, hq1, he1⟩ := hw.arI e2
    refine va_copyi hx hb (by rw [hml]; exact hl.1.symm) hown (hts _ hlk) (hts _ w_ac.1) (hts _ w_ac.2.1) (hts _ w_ac.2.2) hK hw.1 wl_D hS q0 q1 0 0 he0 he1 rfl rfl rfl h1 h2 h3 h4 h5 (fun _ _ => rfl) (by omega) (by rw [cnv_cats, hw7]; omega) hd (fun H1 locs1 hP1 _ hS1 => ?_)
    have e4 : ceE b cy (rwI h (q1 + 1) (va_cpy (zI h (q0 + 1)) (zI h (q1 + 1)) sp.toNatClampNeg dp.toNatClampNeg n.toNatClampNeg)) (q1 + 1) = .inl (cy 12, zN h (q1 + 1), .inl (va_cpy (zI h (q0 + 1)) (zI h (q1 + 1)) sp.toNatClampNeg dp.toNatClampNeg n.toNatClampNeg)) := by
      rw [ceE_I (h := rwI h (q1 + 1) (va_cpy (zI h (q0 + 1)) (zI h (q1 + 1)) sp.toNatClampNeg dp.toNatClampNeg n.toNatClampNeg)) e2]
      show (Sum.inl (cy 12, zN h (q1 + 1), .inl (va_up (zI h) (q1 + 1) (va_cpy (zI h (q0 + 1)) (zI h (q1 + 1)) sp.toNatClampNeg dp.toNatClampNeg n.toNatClampNeg) (q1 + 1))) : va_E) = _
      rw [va_up_self]
    exact k lsA H1 locs1 cells slots hz hy (hw.next rfl rfl hq1 e4 (fun k hk => ceE_rwI hk) hP1) hS1 hl
  · rw [if_pos e2] at k
    obtain ⟨q0, rfl, hq0, he0⟩ := hw.arJ e1
    obtain ⟨q1, rfl, hq1, he1⟩ := hw.arJ e2
    refine va_copyl hx hb (by rw [hml]; exact hl.1.symm) hown (hts _ hlk) (hts _ w_ac.1) (hts _ w_ac.2.1) (hts _ w_ac.2.2) hK hw.1 wl_D hS q0 q1 1 1 he0 he1 rfl rfl rfl h1 h2 h3 h4 h5 (fun _ _ => rfl) (by omega) (by rw [cnv_cats, hw7]; omega) hd (fun H1 locs1 hP1 _ hS1 => ?_)
    have e4 : ceE b cy (rwJ h (q1 + 1) (va_cpy (zJ h (q0 + 1)) (zJ h (q1 + 1)) sp.toNatClampNeg dp.toNatClampNeg n.toNatClampNeg)) (q1 + 1) = .inl (cy 13, zN h (q1 + 1), .inr (.inl (va_cpy (zJ h (q0 + 1)) (zJ h (q1 + 1)) sp.toNatClampNeg dp.toNatClampNeg n.toNatClampNeg))) := by
      rw [ceE_J (h := rwJ h (q1 + 1) (va_cpy (zJ h (q0 + 1)) (zJ h (q1 + 1)) sp.toNatClampNeg dp.toNatClampNeg n.toNatClampNeg)) e2]
      show (Sum.inl (cy 13, zN h (q1 + 1), .inr (.inl (va_up (zJ h) (q1 + 1) (va_cpy (zJ h (q0 + 1)) (zJ h (q1 + 1)) sp.toNatClampNeg dp.toNatClampNeg n.toNatClampNeg) (q1 + 1)))) : va_E) = _
      rw [va_up_self]
    exact k lsA H1 locs1 cells slots hz hy (hw.next rfl rfl hq1 e4 (fun k hk => ceE_rwJ hk) hP1) hS1 hl
theorem so_clone (C : Cx sc p R s m args meth c mt D b cy cs z0) {ix z1 z2 n0 a b1 d0 o : Nat} (hd : decode (mB mt.1) pc = .ok (.invokevirtual ix, 3)) (hf : mAt (mC mt.1) ix = some (z1, z2, 9, n0, a, b1, d0)) (hk : okn mt.1 r = true ∧ zK h o = 12) (hc : zc h + 1 ≤ z0 + R.cells) (hs : zs h + zN h o ≤ y0 + R.slots)
    (k : Go p l e R s m args below meth c mt D b cy cs z0 y0 Q (pc + 3) ls (.ref (zc h + 1) :: r) (nwI h (zN h o) (zI h o))) : Go p l e R s m args below meth c mt D b cy cs z0 y0 Q pc ls (.ref o :: r) h := by
  intro lsA H locs cells slots hz hy hw hS hl
  have C' := C
  have hlk : Cond.methodLink (ownS (mC mt.1)) ix ⟨"[I", "clone", "()Ljava/lang/Object;"⟩ ∈ gwl := mAt_ok hf
  obtain ⟨hx, hb, hr, hml, hown, hts, hlocks, hNG, hK, hni, hfr, hlo, hsz, hsta, -⟩ := C
  obtain ⟨g1, g2, g3⟩ := okn_of hk.1
  obtain ⟨q, rfl, hq, he⟩ := hw.arI hk.2
  refine va_clone (D := D) hx hb (by rw [hml]; exact hl.1.symm) hown (hts _ hlk) (hts _ w_cl.1) (hts _ w_cl.2.1) (hts _ w_cl.2.2.1) (hts _ w_cl.2.2.2.1) (hNG.1 _ w_cl.2.2.2.2.1) hK hw.1 wl_D hS (hA_of C') q 0 he rfl (va_nm_int (hK.2 0 (cy 12, .int) rfl).2) (fun i v hv => va_fit (fun _ _ => rfl) i v hv) (by omega) (by rw [cnv_cats]; omega) (by omega) (by show slots + zN h (q + 1) ≤ R.slots; omega) hd (fun q1 H1 _ hP1 hD1 hS1 => ?_)
  have e3 : zK (nwI h (zN h (q + 1)) (zI h (q + 1))) (zc h + 1) = 12 := va_up_self _ _ _
  refine made C' hw hz hy rfl rfl (fun a ha => va_up_ne _ _ ha) ?_ (fun k hk => ceE_nwI hk) hP1 hD1 hS1 hl k
  rw [ceE_I e3]
  show (Sum.inl (cy 12, va_up (zN h) (zc h + 1) (zN h (q + 1)) (zc h + 1), .inl (va_up (zI h) (zc h + 1) (zI h (q + 1)) (zc h + 1))) : va_E) = _
  rw [va_up_self, va_up_self]
theorem so_cast (C : Cx sc p R s m args meth c mt D b cy cs z0) {ix a : Nat} (hd : decode (mB mt.1) pc = .ok (.checkcast ix, 3)) (hf : mC mt.1 = 13 ∧ ix = 317) (hk : zK h a = 12) (k : Go p l e R s m args below meth c mt D b cy cs z0 y0 Q (pc + 3) ls (.ref a :: r) h) : Go p l e R s m args below meth c mt D b cy cs z0 y0 Q pc ls (.ref a :: r) h := by
  intro lsA H locs cells slots hz hy hw hS hl
  have k1 := k lsA H locs cells slots hz hy hw hS hl
  obtain ⟨hx, hb, hr, hml, hown, hts, hlocks, hNG, hK, hni, hfr, hlo, hsz, hsta, -⟩ := C
  obtain ⟨q, rfl, hq, he⟩ := hw.arI hk
  rw [hf.1] at hown
  obtain ⟨-, rfl⟩ := hf
  exact va_castA (D := D) (cl := vwCl) hx hb hown (hts _ w_cl.2.2.2.2.2) hw.1 q he (va_nm_int (hK.2 0 (cy 12, .int) rfl).2) hd k1
theorem so_inst (C : Cx sc p R s m args meth c mt D b cy cs z0) {ix kd z1 z2 a : Nat} (hd : decode (mB mt.1) pc = .ok (.instanceof ix, 3)) (hf : lAt (mC mt.1) ix = some (z1, z2, kd)) (h3 : kd = 1 ∨ kd = 2) (hk : kin 4 (zK h a) = true) (k : Go p l e R s m args below meth c mt D b cy cs z0 y0 Q (pc + 3) ls (.int (inst kd (zK h a)) :: r) h) : Go p l e R s m args below meth c mt D b cy cs z0 y0 Q pc ls (.ref a :: r) h := by
  intro lsA H locs cells slots hz hy hw hS hl
  have k1 := k lsA H locs cells slots hz hy hw hS hl
  obtain ⟨hx, hb, hr, hml, hown, hts, hlocks, hNG, hK, hni, hfr, hlo, hsz, hsta, -⟩ := C
  unfold lAt at hf
  have h1 := List.find?_some hf
  have h2 := lts _ (List.mem_of_find?_eq_some hf)
  simp only [Bool.and_eq_true, beq_iff_eq] at h1
  obtain ⟨rfl, rfl⟩ := h1
  obtain ⟨-, hlk⟩ := h2
  have h4 : zK h a = 4 ∨ zK h a = 2 ∨ zK h a = 1 := by
    unfold kin at hk
    simp at hk
    omega
  rcases h4 with h4 | h4 | h4
  · obtain ⟨q, rfl, hq, he⟩ := hw.obj h4 (by omega)
    have hrc := va_recv (q := (RX4, TX4, 6)) hK hw.1 rfl he
    rw [h4] at k1
    rcases h3 with rfl | rfl
    · exact va_instNo hx hb hown (hts _ hlk) hNG.2.2.2.2.2.1 hrc hd k1
    · exact va_instNo hx hb hown (hts _ hlk) hNG.2.2.2.2.1 hrc hd k1
  · obtain ⟨q, rfl, hq, he⟩ := hw.obj h4 (by omega)
    have hrc := va_recv (q := (RX2, TX2, 6)) hK hw.1 rfl he
    rw [h4] at k1
    rcases h3 with rfl | rfl
    · exact va_instNo hx hb hown (hts _ hlk) hNG.2.2.2.2.2.2 hrc hd k1
    · exact va_instS hx hb hown (hts _ hlk) (hK.1 2 _ rfl).2 hrc hd k1
  · obtain ⟨q, rfl, hq, he⟩ := hw.obj h4 (by omega)
    have hrc := va_recv (q := (RX1, TX1, 6)) hK hw.1 rfl he
    rw [h4] at k1
    rcases h3 with rfl | rfl
    · exact va_instS hx hb hown (hts _ hlk) (hK.1 1 _ rfl).2 hrc hd k1
    · exact va_instY hx hb hown (hts _ hlk) (hNG.1 _ w_ca.1) hrc hd k1
end
end
section
/-! Calls: a callee's run gives the caller's step. -/
def arys : List Nat := [1, 2, 2, 2, 2, 3, 4, 1, 4, 1, 2, 2, 2, 4, 1, 2, 2, 1, 1, 6, 1, 1, 3, 1, 3, 1, 2, 2, 3, 3, 3, 4, 4, 3, 4, 3, 2, 2, 4, 1, 2, 1, 2, 2, 2, 1, 1, 3, 3, 3, 3, 1, 4, 1, 1, 2, 1, 1, 1, 2, 2, 4, 1, 1, 2, 1, 3, 1, 2, 2, 2, 2, 2, 2, 2, 1, 2, 3, 1, 4, 4, 3, 3, 3, 1, 2, 3, 1, 1, 1, 1, 5, 3, 4, 5, 5, 4, 4, 5, 5, 6, 4, 3, 3, 3, 5, 3, 3, 2, 3, 1, 2, 2, 5, 4, 2, 4, 4, 6, 2, 2, 3, 1, 1, 2, 2, 3, 2, 1, 1, 1, 1, 1, 2, 3, 5, 5, 3, 1, 3, 0, 2, 2, 2, 2, 2, 5, 2, 3, 4, 4, 6, 8, 3, 3, 3, 4, 3, 5, 4, 2, 3, 4, 5, 2, 3, 3, 1, 3, 7, 4, 5, 3, 5, 1, 5, 4, 5, 4, 5, 5, 5, 6, 2, 1, 4, 3, 1, 3, 3, 3, 5, 3, 3, 2, 3, 2, 1, 2, 3, 2, 1, 1, 2, 2, 5, 1, 4, 2, 3, 4, 4, 3, 6, 2, 2, 2, 3, 1, 1, 2]
def ary (k : Nat) : Nat := arys.getD k 0
theorem ary_ok : MLs.all (fun r => decide (r.2.2.1 = 2 → r.2.2.2.1 = ary r.2.2.2.2.1)) = true := by decide +kernel
/-- method k, with these arguments, runs to r and the heap is h' then -/
def Cc (sc : Nat × (Nat → Int32)) (k : Nat) (as : List Value) (h : Hp) (r : Option Value) (h' : Hp) : Prop := k < 221 ∧ cats as ≤ mL (mro k) ∧ Rn sc (mtk k) 0 (enL (mL (mro k)) as) [] h r h'
theorem enL_at {b : Nat} {cs : Nat → Nat} : ∀ (as : List Value) (n i0 i : Nat) (v : Value), (enL n as)[i]? = some (some v) → (i0 + i, cnv b cs v) ∈ lv_args i0 (as.map (cnv b cs)) := by
  intro as
  induction as with
  | nil =>
    intro n i0 i v h
    unfold enL at h
    rw [List.getElem?_replicate] at h
    split at h <;> cases h
  | cons a as ih =>
    intro n i0 i v h
    have two : ∀ (n1 : Nat), (enL n (a :: as) = some a :: none :: enL n1 as) → cat a = 2 → (i0 + i, cnv b cs v) ∈ lv_args i0 ((a :: as).map (cnv b cs)) := by
      intro n1 he hc
      rw [he] at h
      show _ ∈ (i0, cnv b cs a) :: lv_args (if (cnv b cs a).category = 2 then i0 + 2 else i0 + 1) (as.map (cnv b cs))
      rw [cnv_cat, if_pos hc]
      match i, h with
      | 0, h =>
        simp at h
        subst h
        exact List.mem_cons_self
      | 1, h => simp at h
      | i + 2, h =>
        have h2 : (enL n1 as)[i]? = some (some v) := by simpa using h
        have := ih n1 (i0 + 2) i v h2
        rw [show i0 + (i + 2) = i0 + 2 + i by omega]
        exact List.mem_cons_of_mem _ this
    have one : ∀ (n1 : Nat), (enL n (a :: as) = some a :: enL n1 as) → cat a = 1 → (i0 + i, cnv b cs v) ∈ lv_args i0 ((a :: as).map (cnv b cs)) := by
      intro n1 he hc
      rw [he] at h
      show _ ∈ (i0, cnv b cs a) :: lv_args (if (cnv b cs a).category = 2 then i0 + 2 else i0 + 1) (as.map (cnv b cs))
      rw [cnv_cat, if_neg (by omega)]
      match i, h with
      | 0, h =>
        simp at h
        subst h
        exact List.mem_cons_self
      | i + 1, h =>
        have h2 : (enL n1 as)[i]? = some (some v) := by simpa using h
        have := ih n1 (i0 + 1) i v h2
        rw [show i0 + (i + 1) = i0 + 1 + i by omega]
        exact List.mem_cons_of_mem _ this
    cases a with
    | long x => exact two (n - 2) (by rw [enL]) rfl
    | double x => exact two (n - 2) (by rw [enL]) rfl
    | int x => exact one (n - 1) (by simp [enL]) rfl
    | float x => exact one (n - 1) (by simp [enL]) rfl
    | null => exact one (n - 1) (by simp [enL]) rfl
    | ref x => exact one (n - 1) (by simp [enL]) rfl
    | retAddr x => exact one (n - 1) (by simp [enL]) rfl
theorem sl_len {b : Nat} {cs : Nat → Nat} (as : List Value) : (lg_sl (as.map (cnv b cs))).length = cats as := by
  induction as with
  | nil => rfl
  | cons a as ih =>
    have e1 : lg_sl ((a :: as).map (cnv b cs)) = (if (cnv b cs a).category = 2 then [Slot.val (cnv b cs a), .second] else [Slot.val (cnv b cs a)]) ++ lg_sl (as.map (cnv b cs)) := by
      unfold lg_sl
      simp
    have e2 : cats (a :: as) = cat a + cats as := by
      unfold cats
      simp
    rw [e1, e2, List.length_append, ih, cnv_cat]
    congr 1
    have : cat a = 1 ∨ cat a = 2 := by cases a <;> first | exact Or.inl rfl | exact Or.inr rfl
    rcases this with q | q
    · rw [if_neg (by omega), q]
      rfl
    · rw [if_pos q, q]
      rfl
theorem lvh_entry {b : Nat} {cs : Nat → Nat} {as : List Value} {n : Nat} (h : cats as ≤ n) : lv_has ((lg_sl (as.map (cnv b cs)) ++ List.replicate (n - (lg_sl (as.map (cnv b cs))).length) Slot.unset).toArray) n (lvl b cs (enL n as)) := by
  refine lvh_mono (lv_entry (as.map (cnv b cs)) (n := n) (by rw [sl_len]; exact h)) ?_
  rintro ⟨i, w⟩ hq
  obtain ⟨v, h1, rfl⟩ := mem_lvl.mp hq
  have := enL_at (b := b) (cs := cs) as n 0 i v h1
  rw [Nat.zero_add] at this
  exact this
def wsk (k : Nat) : List Cond := Cond.code (mY (mro k)) (mB (mro k)) (mL (mro k)) (mR (mro k)) :: gwl
def Pk (sc : Nat × (Nat → Int32)) (D : va_G) (b : Nat) (cy : Nat → ClassId) (cs : Nat → Nat) (as : List Value) (h : Hp) : Array Value → State → Prop := va_Pc (as.map (cnv b cs)) (fun U => HW D b cy h U.heap ∧ va_K D vwCl (tys cy) U ∧ NG U ∧ STA sc b cs U U.heap ∧ U.heap.size = b + zc h)
def Qk (D : va_G) (b : Nat) (cy : Nat → ClassId) (cs : Nat → Nat) (r : Option Value) (h' : Hp) : Array Value → State → Outcome → State → Prop := fun _ st oc t => oc = .returned (r.map (cnv b cs)) ∧ HW D b cy h' t.heap ∧ va_F (Ab b) st t
theorem met_of {sc : Nat × (Nat → Int32)} {k : Nat} {as : List Value} {h h' : Hp} {r : Option Value} (hc : Cc sc k as h r h') (l : Launch) (D : va_G) (b : Nat) (cy : Nat → ClassId) (cs : Nat → Nat) :
    Met l (mY (mro k)) (wsk k) ({ frames := mF (mro k), cells := zc h' - zc h, slots := zs h' - zs h, locals := mW (mro k) }) (Pk sc D b cy cs as h) (Qk D b cy cs r h') (zc h' - zc h) (zs h' - zs h) (Ab b) := by
  obtain ⟨hk, hcat, hz, hs, hR⟩ := hc
  obtain ⟨hM, hck⟩ := mtk_ok hk
  have hst : stok (mtk k) = true := List.all_eq_true.mp stok_all _ (mtk_in hk)
  obtain ⟨m1, m2, m3, m4, m5, m6, m7⟩ := hM
  refine Met.ofW (cc := mB (mro k)) (maxL := mL (mro k)) (ret := mR (mro k)) m4 rfl ?_
  intro p e s m args below meth c s₁ B hml hv
  obtain ⟨rfl, hW, hK, hNG, hsta, hsz⟩ := hv
  have hts : ∀ w ∈ gwl, w.before ((as.map (cnv b cs)).toArray) s = true := fun w hw => atoms_spec (ws := wsk k) B.pre w (List.mem_cons_of_mem _ hw)
  have C : Cx sc p ({ frames := mF (mro k), cells := zc h' - zc h, slots := zs h' - zs h, locals := mW (mro k) } : Room) s m ((as.map (cnv b cs)).toArray) meth c (mtk k) D b cy cs (zc h) := ⟨B.exec, B.bytes, B.returns, hml, by rw [m7]; exact findClass_of_methodNamed B.named, hts, B.notSynchronized, hNG, hK, fun q => by rw [(name_of_methodNamed B.named B.method).1]; exact q, Nat.le_refl _, Nat.le_refl _, hsz, hsta, hck, hst⟩
  have G := hR p l e _ s m _ below meth c D b cy cs (zc h) (zs h) (MQ below (Qk D b cy cs r h') ((as.map (cnv b cs)).toArray) s (zc h' - zc h) (zs h' - zs h) (Ab b)) C (by show zc h' ≤ zc h + (zc h' - zc h); omega) (by show zs h' ≤ zs h + (zs h' - zs h); omega) (Nat.le_refl _) (by
    intro pc' lsA H1 locs1 mc ms hret hmc hms hw1 hS1
    obtain rfl : mc = zc h' - zc h := by omega
    obtain rfl : ms = zs h' - zs h := by omega
    have hlocks := B.notSynchronized
    have fin : ∀ (t : State), t.heap = H1 → s.WarmedH t.vm → Qk D b cy cs r h' ((as.map (cnv b cs)).toArray) s (.returned (r.map (cnv b cs))) t := fun t ht _ => ⟨rfl, by rw [ht]; exact hw1, hS1.F ht⟩
    cases r with
    | none =>
      obtain ⟨d1, d2⟩ := hret
      exact W.vret B.exec B.bytes (by rw [B.returns]; exact d2) fin hS1.2.2 d1
    | some v =>
      cases v with
      | int x =>
        obtain ⟨d1, d2 | ⟨d2, d3⟩⟩ := hret
        · exact W.iret B.exec B.bytes (by rw [B.returns]; exact d2) fin hS1.2.2 d1
        · exact W.zret B.exec B.bytes (by rw [B.returns]; exact d2) (b01 d3).1 fin hS1.2.2 d1
      | long x =>
        obtain ⟨d1, d2⟩ := hret
        exact W.lret B.exec B.bytes (by rw [B.returns]; exact d2) fin hS1.2.2 d1
      | ref x =>
        obtain ⟨d1, t, d2, d3⟩ := hret
        refine W.aret B.exec B.bytes (by rw [B.returns]; exact d2) ?_ ?_ fin hS1.2.2 d1
        · cases t with
          | object n => exact Or.inl ⟨n, rfl⟩
          | array n => exact Or.inr ⟨n, rfl⟩
          | _ => cases d3
        · cases x with
          | zero => exact Or.inl rfl
          | succ x => exact Or.inr ⟨b + x, rfl⟩
      | _ => exact absurd hret id)
  rw [lg_entry_eq]
  exact G _ s.heap [] 0 0 rfl rfl hW va_S.rf (lvh_entry hcat)
theorem gwl_in {l0 : List Cond} (hl : ∀ w ∈ l0, w ∈ gwl) : GoodIn gwl l0 := fun w hw => ⟨hl w hw, good_of_word (List.mem_filter.mp (hl w hw)).2⟩
theorem wsk_in {k : Nat} (hk : k < 221) : ∀ w ∈ wsk k, w ∈ gwl := fun w hw => by
  rcases List.mem_cons.mp hw with rfl | h
  · exact (mtk_ok hk).1.1
  · exact h
section
variable {sc : Nat × (Nat → Int32)} {p : Program} {l : Launch} {e : Env} {R : Room} {s : State} {m : MethodId} {args : Array Value} {below : List Frame} {meth : Method} {c : Code} {mt : Mt} {D : va_G} {b : Nat} {cy : Nat → ClassId} {cs : Nat → Nat} {z0 y0 : Nat} {Q : State → Prop} {pc : Nat} {ls : Ls} {st r : List Value} {h : Hp}
theorem Pk_blind {as : List Value} {h1 : Hp} : FrameBlind (Pk sc D b cy cs as h1) := fun a U g mk q => by
  obtain ⟨q0, q1, q2, q3, q4, q5⟩ := q
  exact ⟨q0, q1, va_K.moved (u := U) (U := U.calling g mk a) (Vm.Alike.refl U.vm) q2, NG.warm (s := U) (U := U.calling g mk a) (State.WarmedH.refl U) q3, STA.on (s := U) (U := U.calling g mk a) (locs := []) (by omega) va_S.rf (Vm.Alike.refl U.vm) q4, q5⟩
/-- the callee's start, out of the caller's -/
theorem Pk_pre (C : Cx sc p R s m args meth c mt D b cy cs z0) {H : Heap} {locs : List Loc} {cells : Nat} (hz : z0 + cells = zc h) (hw : HW D b cy h H) (hS : va_S (Ab b) s.heap H locs) (hsize : H.size ≤ s.heap.size + cells) (as : List Value) : ∀ U : State, U.heap = H → s.WarmedH U.vm → Pk sc D b cy cs as h ((as.map (cnv b cs)).toArray) U := by
  intro U hU hW
  obtain ⟨hx, hb, hr, hml, hown, hts, hlocks, hNG, hK, hni, hfr, hlo, hsz, hsta, -⟩ := C
  have hlow : b + zc h ≤ H.size := by
    cases hn : zc h with
    | zero => have := hS.1; omega
    | succ n =>
      have := (hw.1 n _ (wl_at (by omega))).lt
      show b + (n + 1) ≤ H.size
      have e : (b + n, ceE b cy h (n + 1)).1 = b + n := rfl
      omega
  refine ⟨rfl, by rw [hU]; exact hw, va_K.moved hW.alike hK, NG.warm hW hNG, ?_, ?_⟩
  · rw [hU]
    exact STA.on (by omega) hS hW.alike hsta
  · rw [hU]
    omega
/-- behind a call -/
theorem call_go (C : Cx sc p R s m args meth c mt D b cy cs z0) {r1 : Option Value} {h1 : Hp} {H : Heap} {locs : List Loc} {cells slots : Nat} {lsA : Array Slot} {stk : List Value} {a : Array Value} (h2 : zc h ≤ zc h1) (h3 : zs h ≤ zs h1) (hz : z0 + cells = zc h) (hy : y0 + slots = zs h) (hS : va_S (Ab b) s.heap H locs) (hl : lv_has lsA (mL mt.1) (lvl b cs ls))
    (hr : va_Run p l e R s m args below meth c H locs cells slots (zc h1 - zc h) (zs h1 - zs h) (F0 m pc lsA stk) (r.map (cnv b cs)) (Qk D b cy cs r1 h1 a) (Ab b))
    (k : Go p l e R s m args below meth c mt D b cy cs z0 y0 Q (pc + 3) ls (r1.toList ++ r) h1) : W p l e R s m args below meth c H locs cells slots Q (F0 m pc lsA stk) := by
  intro T hT X
  obtain ⟨v, st₀, t, T', L, h0, X', hL, e1, e2, ⟨hv, hw', hF⟩, stp⟩ := hr T hT X
  have hv := Outcome.returned.inj hv
  subst hv
  have hS1 : va_S (Ab b) s.heap T'.heap (locs ++ L) := by
    obtain ⟨f1, f2⟩ := hF
    rw [h0] at f1 f2
    refine ⟨by rw [e1]; exact Nat.le_trans hS.1 f1, fun q g1 g2 => by rw [e1, f2 q (Nat.lt_of_lt_of_le g1 hS.1) g2]; exact hS.2.1 q g1 g2, fun q hq => ?_⟩
    rcases List.mem_append.mp hq with z | z
    · exact hS.2.2 q z
    · exact hL q z
  obtain ⟨t2, a1, b1⟩ := k lsA T'.heap (locs ++ L) (cells + (zc h1 - zc h)) (slots + (zs h1 - zs h)) (by omega) (by omega) (by rw [e1]; exact hw') hS1 hl T' rfl X'
  refine ⟨t2, stp t2 ?_, b1⟩
  have es : (r1.toList ++ r).map (cnv b cs) = (r1.map (cnv b cs)).toList ++ r.map (cnv b cs) := by
    cases r1 <;> simp
  rw [es] at a1
  exact a1
end
end
section
/-! The rows of calls. -/
theorem take_len {st r : List Value} {n : Nat} {v : Value} (h : st.drop n = v :: r) : (st.take n).length = n := by
  rw [List.length_take]
  have : st.length - n = r.length + 1 := by rw [← List.length_drop, h]; rfl
  omega
theorem take_st {st r : List Value} {n : Nat} {v : Value} (h : st.drop n = v :: r) (f : Value → Value) : st.map f = (((st.take n).reverse).map f).reverse ++ f v :: r.map f := by
  have e : st = st.take n ++ v :: r := by
    rw [← h]
    exact (List.take_append_drop n st).symm
  conv => lhs; rw [e]
  rw [List.map_append, List.map_reverse, List.reverse_reverse]
  rfl
section
variable {sc : Nat × (Nat → Int32)} {p : Program} {l : Launch} {e : Env} {R : Room} {s : State} {m : MethodId} {args : Array Value} {below : List Frame} {meth : Method} {c : Code} {mt : Mt} {D : va_G} {b : Nat} {cy : Nat → ClassId} {cs : Nat → Nat} {z0 y0 : Nat} {Q : State → Prop} {pc : Nat} {ls : Ls} {st r : List Value} {h : Hp}
theorem so_callV (C : Cx sc p R s m args meth c mt D b cy cs z0) {ix z1 z2 n a b1 d o : Nat} (hd : decode (mB mt.1) pc = .ok (.invokevirtual ix, 3)) (hf : mAt (mC mt.1) ix = some (z1, z2, 0, n, a, b1, d)) (hdrop : st.drop n = .ref o :: r) (hk : okc mt.1 (mro a) r = true ∧ zK h o = mC (mro a)) {r1 : Option Value} {h1 : Hp} (hcc : Cc sc a (.ref o :: (st.take n).reverse) h r1 h1) (hc1 : zc h1 ≤ z0 + R.cells) (hs1 : zs h1 ≤ y0 + R.slots)
    (k : Go p l e R s m args below meth c mt D b cy cs z0 y0 Q (pc + 3) ls (r1.toList ++ r) h1) : Go p l e R s m args below meth c mt D b cy cs z0 y0 Q pc ls st h := by
  intro lsA H locs cells slots hz hy hw hS hl
  refine W_sized (fun hsize => ?_)
  have C' := C
  obtain ⟨hx, hb, hr, hml, hown, hts, hlocks, hNG, hK, hni, hfr, hlo, hsz, hsta, -⟩ := C
  obtain ⟨ha, w1, w2, w3, hp, hci⟩ := mAt_ok hf
  obtain ⟨g1, g2, g3⟩ := okc_of hk.1
  obtain ⟨m1, m2, m3, m4, m5, m6, m7⟩ := (mtk_ok ha).1
  obtain ⟨C0, T, ty, hv, hin, hty, hnm, htp, hinst, hini, hown0⟩ := kds _ hci
  obtain ⟨q, rfl, hq, he⟩ := hw.obj hk.2 hci
  have hC0 : (mY (mro a)).cls = C0 := m7.symm.trans hown0
  have h2 := hcc.2.2.1
  have h3 := hcc.2.2.2.1
  rw [take_st hdrop]
  refine call_go C' h2 h3 hz hy hS hl (va_runV (C := (mY (mro a)).cls) (b := b + q) (As := ((st.take n).reverse).map (cnv b cs)) ⟨hx, hb, hml, hown, hts⟩ (met_of hcc l D b cy cs) (cwV n hts (gwl_in ?_) rfl rfl rfl ⟨rfl, m5, m6, hp⟩ ⟨?_, ?_⟩) ⟨Pk_blind, ?_, Pk_pre C' hz hw hS hsize _⟩ rfl ?_ hl.1 rfl ?_ hd ⟨?_, ?_⟩) k
  · intro w hw1
    rcases List.mem_append.mp hw1 with z | z
    · simp only [List.mem_cons, List.not_mem_nil, or_false] at z
      rcases z with rfl | rfl | rfl | rfl
      · exact w1
      · exact w2
      · exact w3
      · exact m2
    · exact wsk_in ha w z
  · show mF (mro a) + 1 ≤ R.frames
    omega
  · show 8 + (mL (mro a) + 11) + mW (mro a) ≤ R.locals
    omega
  · have := va_recv hK hw.1 hv he
    rw [hC0]
    exact this
  · rw [List.length_map, List.length_reverse, take_len hdrop]
  · exact lv_room (by rw [cnv_cats]; exact g3)
  · omega
  · omega
theorem so_callS (C : Cx sc p R s m args meth c mt D b cy cs z0) {ix z1 z2 n a b1 d : Nat} (hd : decode (mB mt.1) pc = .ok (.invokestatic ix, 3)) (hf : mAt (mC mt.1) ix = some (z1, z2, 2, n, a, b1, d)) (hk : okc mt.1 (mro a) (st.drop n) = true) (hlen : ((st.take n).reverse).length = ary a) {r1 : Option Value} {h1 : Hp} (hcc : Cc sc a ((st.take n).reverse) h r1 h1) (hc1 : zc h1 ≤ z0 + R.cells) (hs1 : zs h1 ≤ y0 + R.slots)
    (k : Go p l e R s m args below meth c mt D b cy cs z0 y0 Q (pc + 3) ls (r1.toList ++ st.drop n) h1) : Go p l e R s m args below meth c mt D b cy cs z0 y0 Q pc ls st h := by
  intro lsA H locs cells slots hz hy hw hS hl
  refine W_sized (fun hsize => ?_)
  have C' := C
  obtain ⟨hx, hb, hr, hml, hown, hts, hlocks, hNG, hK, hni, hfr, hlo, hsz, hsta, -⟩ := C
  obtain ⟨ha, w1, w2, hp⟩ := mAt_ok hf
  obtain ⟨g1, g2, g3⟩ := okc_of hk
  obtain ⟨m1, m2, m3, m4, m5, m6, m7⟩ := (mtk_ok ha).1
  have hn : n = ary a := by
    have := List.all_eq_true.mp ary_ok _ (List.mem_of_find?_eq_some hf)
    simpa using this
  have h2 := hcc.2.2.1
  have h3 := hcc.2.2.2.1
  have e : st.map (cnv b cs) = (((st.take n).reverse).map (cnv b cs)).reverse ++ (st.drop n).map (cnv b cs) := by
    rw [List.map_reverse, List.reverse_reverse, ← List.map_append, List.take_append_drop]
  rw [e]
  refine call_go C' h2 h3 hz hy hS hl (va_runS (As := ((st.take n).reverse).map (cnv b cs)) ⟨hx, hb, hml, hown, hts⟩ (met_of hcc l D b cy cs) (va_cwS n hts (gwl_in ?_) rfl rfl rfl ⟨m5, m6, hp⟩ ⟨?_, ?_⟩) ⟨Pk_blind, Pk_pre C' hz hw hS hsize _⟩ rfl ?_ hl.1 rfl ?_ hd ⟨?_, ?_⟩) k
  · intro w hw1
    rcases List.mem_append.mp hw1 with z | z
    · simp only [List.mem_cons, List.not_mem_nil, or_false] at z
      rcases z with rfl | rfl | rfl
      · exact w1
      · exact w2
      · exact m2
    · exact wsk_in ha w z
  · show mF (mro a) + 1 ≤ R.frames
    omega
  · show 8 + (mL (mro a) + 11) + mW (mro a) ≤ R.locals
    omega
  · rw [List.length_map, hlen, hn]
  · exact lv_room (by rw [cnv_cats]; exact g3)
  · omega
  · omega
theorem so_callI (C : Cx sc p R s m args meth c mt D b cy cs z0) {ix z1 z2 n a b1 d o : Nat} (hd : decode (mB mt.1) pc = .ok (.invokespecial ix, 3)) (hf : mAt (mC mt.1) ix = some (z1, z2, 3, n, a, b1, d)) (hdrop : st.drop n = .ref o :: r) (hk : okc mt.1 (mro a) r = true ∧ ¬ o = 0) {r1 : Option Value} {h1 : Hp} (hcc : Cc sc a (.ref o :: (st.take n).reverse) h r1 h1) (hc1 : zc h1 ≤ z0 + R.cells) (hs1 : zs h1 ≤ y0 + R.slots)
    (k : Go p l e R s m args below meth c mt D b cy cs z0 y0 Q (pc + 3) ls (r1.toList ++ r) h1) : Go p l e R s m args below meth c mt D b cy cs z0 y0 Q pc ls st h := by
  intro lsA H locs cells slots hz hy hw hS hl
  refine W_sized (fun hsize => ?_)
  have C' := C
  obtain ⟨hx, hb, hr, hml, hown, hts, hlocks, hNG, hK, hni, hfr, hlo, hsz, hsta, -⟩ := C
  obtain ⟨ha, w1, w2, hname, hp, hret⟩ := mAt_ok hf
  obtain ⟨g1, g2, g3⟩ := okc_of hk.1
  obtain ⟨m1, m2, m3, m4, m5, m6, m7⟩ := (mtk_ok ha).1
  obtain ⟨q, rfl⟩ : ∃ q, o = q + 1 := ⟨o - 1, by omega⟩
  have h2 := hcc.2.2.1
  have h3 := hcc.2.2.2.1
  have hwk : wsk a = Cond.code (mY (mro a)) (mB (mro a)) (mL (mro a)) none :: gwl := by
    unfold wsk
    rw [hret]
  rw [take_st hdrop]
  refine call_go C' h2 h3 hz hy hS hl (va_runI (b := b + q) (As := ((st.take n).reverse).map (cnv b cs)) ⟨hx, hb, hml, hown, hts⟩ (met_of hcc l D b cy cs) (cwI n hts (gwl_in (wsk_in ha)) hwk rfl rfl (hts _ m2) (hts _ w1) (hts _ w2) hname ⟨m5, m6, hp⟩ ⟨?_, ?_⟩) ⟨Pk_blind, Pk_pre C' hz hw hS hsize (.ref (q + 1) :: (st.take n).reverse)⟩ rfl ?_ hl.1 rfl ?_ hd ⟨?_, ?_⟩) k
  · show mF (mro a) + 1 ≤ R.frames
    omega
  · show 8 + (mL (mro a) + 11) + mW (mro a) ≤ R.locals
    omega
  · rw [List.length_map, List.length_reverse, take_len hdrop]
  · exact lv_room (by rw [cnv_cats]; exact g3)
  · omega
  · omega
theorem so_callIN (C : Cx sc p R s m args meth c mt D b cy cs z0) {ix z1 z2 n a b1 d o : Nat} (hd : decode (mB mt.1) pc = .ok (.invokespecial ix, 3)) (hf : mAt (mC mt.1) ix = some (z1, z2, 4, n, a, b1, d)) (hdrop : st.drop n = .ref o :: r) (hk : okc mt.1 (mro a) r = true ∧ ¬ o = 0) {r1 : Option Value} {h1 : Hp} (hcc : Cc sc a (.ref o :: (st.take n).reverse) h r1 h1) (hc1 : zc h1 ≤ z0 + R.cells) (hs1 : zs h1 ≤ y0 + R.slots)
    (k : Go p l e R s m args below meth c mt D b cy cs z0 y0 Q (pc + 3) ls (r1.toList ++ r) h1) : Go p l e R s m args below meth c mt D b cy cs z0 y0 Q pc ls st h := by
  intro lsA H locs cells slots hz hy hw hS hl
  refine W_sized (fun hsize => ?_)
  have C' := C
  obtain ⟨hx, hb, hr, hml, hown, hts, hlocks, hNG, hK, hni, hfr, hlo, hsz, hsta, -⟩ := C
  obtain ⟨ha, ⟨host, w1⟩, w2, hname, hp, hret⟩ := mAt_ok hf
  obtain ⟨g1, g2, g3⟩ := okc_of hk.1
  obtain ⟨m1, m2, m3, m4, m5, m6, m7⟩ := (mtk_ok ha).1
  obtain ⟨q, rfl⟩ : ∃ q, o = q + 1 := ⟨o - 1, by omega⟩
  have h2 := hcc.2.2.1
  have h3 := hcc.2.2.2.1
  have hwk : wsk a = Cond.code (mY (mro a)) (mB (mro a)) (mL (mro a)) none :: gwl := by
    unfold wsk
    rw [hret]
  rw [take_st hdrop]
  refine call_go C' h2 h3 hz hy hS hl (va_runIN (b := b + q) (As := ((st.take n).reverse).map (cnv b cs)) ⟨hx, hb, hml, hown, hts⟩ (met_of hcc l D b cy cs) ⟨va_cnB n hts (gwl_in (wsk_in ha)) hwk rfl rfl (hNG.1 _ w1) (hts _ m2) ⟨m5, m6, hp⟩ ⟨?_, ?_⟩, hname, hts _ w2⟩ ⟨Pk_blind, Pk_pre C' hz hw hS hsize (.ref (q + 1) :: (st.take n).reverse)⟩ rfl ?_ hl.1 rfl ?_ hd ⟨?_, ?_⟩) k
  · show mF (mro a) + 1 ≤ R.frames
    omega
  · show 8 + (mL (mro a) + 11) + mW (mro a) ≤ R.locals
    omega
  · rw [List.length_map, List.length_reverse, take_len hdrop]
  · exact lv_room (by rw [cnv_cats]; exact g3)
  · omega
  · omega
theorem callD_any (C : Cx sc p R s m args meth c mt D b cy cs z0) {ix n ci kk o : Nat} (hd : decode (mB mt.1) pc = .ok (.invokevirtual ix, 3)) (hds : DsP (mC mt.1) ix n ci kk) (h9 : kk < 999) (hci : ci < 12) (hdrop : st.drop n = .ref o :: r) (hk : okc mt.1 (mro kk) r = true) (hz0 : zK h o = ci) {r1 : Option Value} {h1 : Hp} (hcc : Cc sc kk (.ref o :: (st.take n).reverse) h r1 h1) (hc1 : zc h1 ≤ z0 + R.cells) (hs1 : zs h1 ≤ y0 + R.slots)
    (k : Go p l e R s m args below meth c mt D b cy cs z0 y0 Q (pc + 3) ls (r1.toList ++ r) h1) : Go p l e R s m args below meth c mt D b cy cs z0 y0 Q pc ls st h := by
  intro lsA H locs cells slots hz hy hw hS hl
  refine W_sized (fun hsize => ?_)
  have C' := C
  obtain ⟨hx, hb, hr, hml, hown, hts, hlocks, hNG, hK, hni, hfr, hlo, hsz, hsta, -⟩ := C
  obtain ⟨ha, x, w1, w2, w3, w4, w5, ⟨bb, mm, rr, w6⟩, hp⟩ := hds h9
  obtain ⟨g1, g2, g3⟩ := okc_of hk
  obtain ⟨m1, m2, m3, m4, m5, m6, m7⟩ := (mtk_ok ha).1
  obtain ⟨C0, T, ty, hv, hin, hty, hnm, htp, hinst, hini, hown0⟩ := kds _ hci
  obtain ⟨q, rfl, hq, he⟩ := hw.obj hz0 hci
  have h2 := hcc.2.2.1
  have h3 := hcc.2.2.2.1
  rw [take_st hdrop]
  refine call_go C' h2 h3 hz hy hS hl (va_runU (C := C0) (owner := RX4) (x := x) (b := b + q) (As := ((st.take n).reverse).map (cnv b cs)) (n := n) ⟨hx, hb, hml, hown, hts⟩ (met_of hcc l D b cy cs) ⟨⟨rfl, rfl, ?_, ?_, pay_in hts (gwl_in (wsk_in ha)), List.mem_cons_self⟩, hts _ m1, hts _ m2, ⟨by decide, by decide⟩, ?_, hts _ w1, hts _ w2, va_Decl.of (hts _ w5) (hts _ w6), ?_, hts _ w4⟩ ⟨Pk_blind, ?_, Pk_pre C' hz hw hS hsize (.ref (q + 1) :: (st.take n).reverse)⟩ rfl ?_ hl.1 rfl ?_ hd ⟨?_, ?_⟩) k
  · show mF (mro kk) + 1 ≤ R.frames
    omega
  · show 8 + (mL (mro kk) + 11) + mW (mro kk) ≤ R.locals
    omega
  · intro sig hsg
    unfold prm at hp
    rw [hsg] at hp
    exact (Option.some.inj hp).symm
  · have := hts _ w3
    rw [hown0] at this
    exact this
  · exact va_recv hK hw.1 hv he
  · rw [List.length_map, List.length_reverse, take_len hdrop]
  · exact lv_room (by rw [cnv_cats]; exact g3)
  · omega
  · omega
theorem so_callD (C : Cx sc p R s m args meth c mt D b cy cs z0) {ix z1 z2 n a b1 d o : Nat} (hd : decode (mB mt.1) pc = .ok (.invokevirtual ix, 3)) (hf : mAt (mC mt.1) ix = some (z1, z2, 5, n, a, b1, d)) (hdrop : st.drop n = .ref o :: r) (hk : okc mt.1 (mro (pck (zK h o) a b1 d)) r = true ∧ kin 4 (zK h o) = true ∧ pck (zK h o) a b1 d < 999) {r1 : Option Value} {h1 : Hp} (hcc : Cc sc (pck (zK h o) a b1 d) (.ref o :: (st.take n).reverse) h r1 h1) (hc1 : zc h1 ≤ z0 + R.cells) (hs1 : zs h1 ≤ y0 + R.slots)
    (k : Go p l e R s m args below meth c mt D b cy cs z0 y0 Q (pc + 3) ls (r1.toList ++ r) h1) : Go p l e R s m args below meth c mt D b cy cs z0 y0 Q pc ls st h := by
  obtain ⟨d1, d2, d3⟩ := mAt_ok hf
  obtain ⟨k1, k2, k3⟩ := hk
  have h4 : zK h o = 4 ∨ zK h o = 2 ∨ zK h o = 1 := by
    unfold kin at k2
    simp at k2
    omega
  rcases h4 with h4 | h4 | h4
  · rw [h4] at k1 k3 hcc
    exact callD_any C hd d1 k3 (by omega) hdrop k1 h4 hcc hc1 hs1 k
  · rw [h4] at k1 k3 hcc
    exact callD_any C hd d2 k3 (by omega) hdrop k1 h4 hcc hc1 hs1 k
  · rw [h4] at k1 k3 hcc
    exact callD_any C hd d3 k3 (by omega) hdrop k1 h4 hcc hc1 hs1 k
theorem so_callP (C : Cx sc p R s m args meth c mt D b cy cs z0) {ix z1 z2 n a b1 d o : Nat} (hd : decode (mB mt.1) pc = .ok (.invokespecial ix, 3)) (hf : mAt (mC mt.1) ix = some (z1, z2, 6, n, a, b1, d)) (hdrop : st.drop n = .ref o :: r) (hk : okc mt.1 (mro a) r = true ∧ kin 4 (zK h o) = true) {r1 : Option Value} {h1 : Hp} (hcc : Cc sc a (.ref o :: (st.take n).reverse) h r1 h1) (hc1 : zc h1 ≤ z0 + R.cells) (hs1 : zs h1 ≤ y0 + R.slots)
    (k : Go p l e R s m args below meth c mt D b cy cs z0 y0 Q (pc + 3) ls (r1.toList ++ r) h1) : Go p l e R s m args below meth c mt D b cy cs z0 y0 Q pc ls st h := by
  intro lsA H locs cells slots hz hy hw hS hl
  refine W_sized (fun hsize => ?_)
  have C' := C
  obtain ⟨hx, hb, hr, hml, hown, hts, hlocks, hNG, hK, hni, hfr, hlo, hsz, hsta, -⟩ := C
  obtain ⟨ha, w1, w2, w3, w4, hname, hp⟩ := mAt_ok hf
  obtain ⟨g1, g2, g3⟩ := okc_of hk.1
  obtain ⟨m1, m2, m3, m4, m5, m6, m7⟩ := (mtk_ok ha).1
  have hci : zK h o < 12 := kin_lt hk.2 (by omega)
  obtain ⟨C0, T, ty, hv, hin, hty, hnm, htp, hinst, hini, hown0⟩ := kds _ hci
  obtain ⟨q, rfl, hq, he⟩ := hw.obj rfl hci
  have h2 := hcc.2.2.1
  have h3 := hcc.2.2.2.1
  rw [take_st hdrop]
  refine call_go C' h2 h3 hz hy hS hl (va_runSU (C := C0) (b := b + q) (As := ((st.take n).reverse).map (cnv b cs)) (hK.1 _ _ hv).2 ⟨hx, hb, hml, hown, hts⟩ (met_of hcc l D b cy cs) (va_cwSU n hts (gwl_in ?_) rfl rfl rfl ⟨hname, hp⟩ ⟨?_, ?_⟩) ⟨Pk_blind, va_recv hK hw.1 hv he, Pk_pre C' hz hw hS hsize (.ref (q + 1) :: (st.take n).reverse)⟩ rfl ?_ hl.1 rfl ?_ hd ⟨?_, ?_⟩) k
  · intro w hw1
    rcases List.mem_append.mp hw1 with z | z
    · simp only [List.mem_cons, List.not_mem_nil, or_false] at z
      rcases z with rfl | rfl | rfl | rfl | rfl
      · exact w1
      · exact w2
      · exact w3
      · exact w4
      · exact m2
    · exact wsk_in ha w z
  · show mF (mro a) + 1 ≤ R.frames
    omega
  · show 8 + (mL (mro a) + 11) + mW (mro a) ≤ R.locals
    omega
  · rw [List.length_map, List.length_reverse, take_len hdrop]
  · exact lv_room (by rw [cnv_cats]; exact g3)
  · omega
  · omega
end
end
section
section
variable {sc : Nat × (Nat → Int32)} {p : Program} {l : Launch} {e : Env} {R : Room} {s : State} {m : MethodId} {args : Array Value} {below : List Frame} {meth : Method} {c : Code} {mt : Mt} {D : va_G} {b : Nat} {cy : Nat → ClassId} {cs : Nat → Nat} {z0 y0 : Nat} {Q : State → Prop} {pc : Nat} {ls : Ls} {st r : List Value} {h : Hp}
set_option maxHeartbeats 4000000 in
theorem sound_go (C : Cx sc p R s m args meth c mt D b cy cs z0) {P : Prop} {pc' : Nat} {ls' : Ls} {st' : List Value} {h1 : Hp} (hs : stp sc mt pc ls st h = some (.inl (P, pc', ls', st', h1))) (hP : P) (hc1 : zc h1 ≤ z0 + R.cells) (hs1 : zs h1 ≤ y0 + R.slots) (k : Go p l e R s m args below meth c mt D b cy cs z0 y0 Q pc' ls' st' h1) : Go p l e R s m args below meth c mt D b cy cs z0 y0 Q pc ls st h := by
  have hck : CkP mt.1 mt.2 := C.2.2.2.2.2.2.2.2.2.2.2.2.2.2.1
  have hstk : stok mt = true := C.2.2.2.2.2.2.2.2.2.2.2.2.2.2.2
  unfold stp at hs
  cases hr : cAt mt.2 pc with
  | none =>
    rw [hr] at hs
    cases hs
  | some row =>
    rw [hr] at hs
    obtain ⟨e0, hok, hmem⟩ := cAt_ok hr hck hstk
    have hst1 := List.all_eq_true.mp hstk _ hmem
    obtain ⟨q0, nx, i, tg, cv⟩ := row
    dsimp only at e0 hs hst1
    subst e0
    unfold rowOK at hok
    simp only [Bool.and_eq_true, decide_eq_true_eq] at hok
    obtain ⟨⟨hdec, hlen⟩, hxx⟩ := hok
    cases i with
    | iconst n =>
      (try dsimp only at hs); (try dsimp only at hst1); (try dsimp only at hxx)
      simp only [decide_eq_true_eq] at hlen
      subst hlen
      have hd : decode (mB mt.1) q0 = .ok (.iconst n, 1) := by simpa [ilen] using hdec
      simp only [go, Option.some.injEq, Sum.inl.injEq, Prod.mk.injEq] at hs
      obtain ⟨rfl, rfl, rfl, rfl, rfl⟩ := hs
      simp only [decide_eq_true_eq] at hxx
      subst hxx
      exact so_iconst C hd rfl k
    | bipush n =>
      (try dsimp only at hs); (try dsimp only at hst1); (try dsimp only at hxx)
      simp only [decide_eq_true_eq] at hlen
      subst hlen
      have hd : decode (mB mt.1) q0 = .ok (.bipush n, 2) := by simpa [ilen] using hdec
      simp only [go, Option.some.injEq, Sum.inl.injEq, Prod.mk.injEq] at hs
      obtain ⟨rfl, rfl, rfl, rfl, rfl⟩ := hs
      simp only [decide_eq_true_eq] at hxx
      subst hxx
      exact so_bipush C hd rfl k
    | sipush n =>
      (try dsimp only at hs); (try dsimp only at hst1); (try dsimp only at hxx)
      simp only [decide_eq_true_eq] at hlen
      subst hlen
      have hd : decode (mB mt.1) q0 = .ok (.sipush n, 3) := by simpa [ilen] using hdec
      simp only [go, Option.some.injEq, Sum.inl.injEq, Prod.mk.injEq] at hs
      obtain ⟨rfl, rfl, rfl, rfl, rfl⟩ := hs
      simp only [decide_eq_true_eq] at hxx
      subst hxx
      exact so_sipush C hd rfl k
    | lconst n =>
      (try dsimp only at hs); (try dsimp only at hst1); (try dsimp only at hxx)
      simp only [decide_eq_true_eq] at hlen
      subst hlen
      have hd : decode (mB mt.1) q0 = .ok (.lconst n, 1) := by simpa [ilen] using hdec
      simp only [go, Option.some.injEq, Sum.inl.injEq, Prod.mk.injEq] at hs
      obtain ⟨rfl, rfl, rfl, rfl, rfl⟩ := hs
      simp only [decide_eq_true_eq] at hxx
      subst hxx
      exact so_lconst C hd rfl k
    | ldc ix =>
      (try dsimp only at hs); (try dsimp only at hst1); (try dsimp only at hxx)
      simp only [decide_eq_true_eq] at hlen
      subst hlen
      have hd : decode (mB mt.1) q0 = .ok (.ldc ix, 2) := by simpa [ilen] using hdec
      simp only [go, Option.some.injEq, Sum.inl.injEq, Prod.mk.injEq] at hs
      obtain ⟨rfl, rfl, rfl, rfl, rfl⟩ := hs
      simp only [Bool.and_eq_true, List.contains_iff_mem] at hxx
      obtain ⟨hx1, hx2⟩ := hxx
      have hkt := kts _ hx1
      cases cv with
      | int v => exact so_ldc C hd hkt k
      | _ => cases hx2
    | ldc_w ix =>
      (try dsimp only at hs); (try dsimp only at hst1); (try dsimp only at hxx)
      simp only [decide_eq_true_eq] at hlen
      subst hlen
      have hd : decode (mB mt.1) q0 = .ok (.ldc_w ix, 3) := by simpa [ilen] using hdec
      simp only [go, Option.some.injEq, Sum.inl.injEq, Prod.mk.injEq] at hs
      obtain ⟨rfl, rfl, rfl, rfl, rfl⟩ := hs
      simp only [Bool.and_eq_true, List.contains_iff_mem] at hxx
      obtain ⟨hx1, hx2⟩ := hxx
      have hkt := kts _ hx1
      cases cv with
      | int v => exact so_ldc_w C hd hkt k
      | _ => cases hx2
    | ldc2_w ix =>
      (try dsimp only at hs); (try dsimp only at hst1); (try dsimp only at hxx)
      simp only [decide_eq_true_eq] at hlen
      subst hlen
      have hd : decode (mB mt.1) q0 = .ok (.ldc2_w ix, 3) := by simpa [ilen] using hdec
      simp only [go, Option.some.injEq, Sum.inl.injEq, Prod.mk.injEq] at hs
      obtain ⟨rfl, rfl, rfl, rfl, rfl⟩ := hs
      simp only [Bool.and_eq_true, List.contains_iff_mem] at hxx
      obtain ⟨hx1, hx2⟩ := hxx
      have hkt := kts _ hx1
      cases cv with
      | long v => exact so_ldc2_w C hd hkt k
      | _ => cases hx2
    | aconst_null =>
      (try dsimp only at hs); (try dsimp only at hst1); (try dsimp only at hxx)
      simp only [decide_eq_true_eq] at hlen
      subst hlen
      have hd : decode (mB mt.1) q0 = .ok (.aconst_null, 1) := by simpa [ilen] using hdec
      simp only [go, Option.some.injEq, Sum.inl.injEq, Prod.mk.injEq] at hs
      obtain ⟨rfl, rfl, rfl, rfl, rfl⟩ := hs
      exact so_null C hd k
    | iload_n j =>
      (try dsimp only at hs); (try dsimp only at hst1); (try dsimp only at hxx)
      simp only [decide_eq_true_eq] at hlen
      subst hlen
      have hd : decode (mB mt.1) q0 = .ok (.iload_n j, 1) := by simpa [ilen] using hdec
      split at hs
      · rename_i x hv
        simp only [go, Option.some.injEq, Sum.inl.injEq, Prod.mk.injEq] at hs
        obtain ⟨rfl, rfl, rfl, rfl, rfl⟩ := hs
        exact so_iload_n C hd hv k
      · cases hs
    | iload j =>
      (try dsimp only at hs); (try dsimp only at hst1); (try dsimp only at hxx)
      simp only [decide_eq_true_eq] at hlen
      subst hlen
      have hd : decode (mB mt.1) q0 = .ok (.iload j, 2) := by simpa [ilen] using hdec
      split at hs
      · rename_i x hv
        simp only [go, Option.some.injEq, Sum.inl.injEq, Prod.mk.injEq] at hs
        obtain ⟨rfl, rfl, rfl, rfl, rfl⟩ := hs
        exact so_iload C hd hv k
      · cases hs
    | lload_n j =>
      (try dsimp only at hs); (try dsimp only at hst1); (try dsimp only at hxx)
      simp only [decide_eq_true_eq] at hlen
      subst hlen
      have hd : decode (mB mt.1) q0 = .ok (.lload_n j, 1) := by simpa [ilen] using hdec
      split at hs
      · rename_i x hv
        simp only [go, Option.some.injEq, Sum.inl.injEq, Prod.mk.injEq] at hs
        obtain ⟨rfl, rfl, rfl, rfl, rfl⟩ := hs
        exact so_lload_n C hd hv k
      · cases hs
    | lload j =>
      (try dsimp only at hs); (try dsimp only at hst1); (try dsimp only at hxx)
      simp only [decide_eq_true_eq] at hlen
      subst hlen
      have hd : decode (mB mt.1) q0 = .ok (.lload j, 2) := by simpa [ilen] using hdec
      split at hs
      · rename_i x hv
        simp only [go, Option.some.injEq, Sum.inl.injEq, Prod.mk.injEq] at hs
        obtain ⟨rfl, rfl, rfl, rfl, rfl⟩ := hs
        exact so_lload C hd hv k
      · cases hs
    | aload_n j =>
      (try dsimp only at hs); (try dsimp only at hst1); (try dsimp only at hxx)
      simp only [decide_eq_true_eq] at hlen
      subst hlen
      have hd : decode (mB mt.1) q0 = .ok (.aload_n j, 1) := by simpa [ilen] using hdec
      split at hs
      · rename_i x hv
        simp only [go, Option.some.injEq, Sum.inl.injEq, Prod.mk.injEq] at hs
        obtain ⟨rfl, rfl, rfl, rfl, rfl⟩ := hs
        exact so_aload_n C hd hv k
      · rename_i x hv
        simp only [go, Option.some.injEq, Sum.inl.injEq, Prod.mk.injEq] at hs
        obtain ⟨rfl, rfl, rfl, rfl, rfl⟩ := hs
        exact so_aload_r C hd hv k
      · cases hs
    | aload j =>
      (try dsimp only at hs); (try dsimp only at hst1); (try dsimp only at hxx)
      simp only [decide_eq_true_eq] at hlen
      subst hlen
      have hd : decode (mB mt.1) q0 = .ok (.aload j, 2) := by simpa [ilen] using hdec
      split at hs
      · rename_i x hv
        simp only [go, Option.some.injEq, Sum.inl.injEq, Prod.mk.injEq] at hs
        obtain ⟨rfl, rfl, rfl, rfl, rfl⟩ := hs
        exact so_aload C hd hv k
      · cases hs
    | istore_n j =>
      (try dsimp only at hs); (try dsimp only at hst1); (try dsimp only at hxx)
      simp only [decide_eq_true_eq] at hlen
      subst hlen
      have hd : decode (mB mt.1) q0 = .ok (.istore_n j, 1) := by simpa [ilen] using hdec
      split at hs
      · simp only [go, Option.some.injEq, Sum.inl.injEq, Prod.mk.injEq] at hs
        obtain ⟨rfl, rfl, rfl, rfl, rfl⟩ := hs
        exact so_istore_n C hd (by simpa using hst1) k
      · cases hs
    | istore j =>
      (try dsimp only at hs); (try dsimp only at hst1); (try dsimp only at hxx)
      simp only [decide_eq_true_eq] at hlen
      subst hlen
      have hd : decode (mB mt.1) q0 = .ok (.istore j, 2) := by simpa [ilen] using hdec
      split at hs
      · simp only [go, Option.some.injEq, Sum.inl.injEq, Prod.mk.injEq] at hs
        obtain ⟨rfl, rfl, rfl, rfl, rfl⟩ := hs
        exact so_istore C hd (by simpa using hst1) k
      · cases hs
    | lstore_n j =>
      (try dsimp only at hs); (try dsimp only at hst1); (try dsimp only at hxx)
      simp only [decide_eq_true_eq] at hlen
      subst hlen
      have hd : decode (mB mt.1) q0 = .ok (.lstore_n j, 1) := by simpa [ilen] using hdec
      split at hs
      · simp only [go, Option.some.injEq, Sum.inl.injEq, Prod.mk.injEq] at hs
        obtain ⟨rfl, rfl, rfl, rfl, rfl⟩ := hs
        exact so_lstore_n C hd (by simpa using hst1) k
      · cases hs
    | lstore j =>
      (try dsimp only at hs); (try dsimp only at hst1); (try dsimp only at hxx)
      simp only [decide_eq_true_eq] at hlen
      subst hlen
      have hd : decode (mB mt.1) q0 = .ok (.lstore j, 2) := by simpa [ilen] using hdec
      split at hs
      · simp only [go, Option.some.injEq, Sum.inl.injEq, Prod.mk.injEq] at hs
        obtain ⟨rfl, rfl, rfl, rfl, rfl⟩ := hs
        exact so_lstore C hd (by simpa using hst1) k
      · cases hs
    | astore_n j =>
      (try dsimp only at hs); (try dsimp only at hst1); (try dsimp only at hxx)
      simp only [decide_eq_true_eq] at hlen
      subst hlen
      have hd : decode (mB mt.1) q0 = .ok (.astore_n j, 1) := by simpa [ilen] using hdec
      split at hs
      · simp only [go, Option.some.injEq, Sum.inl.injEq, Prod.mk.injEq] at hs
        obtain ⟨rfl, rfl, rfl, rfl, rfl⟩ := hs
        exact so_astore_n C hd (by simpa using hst1) k
      · cases hs
    | astore j =>
      (try dsimp only at hs); (try dsimp only at hst1); (try dsimp only at hxx)
      simp only [decide_eq_true_eq] at hlen
      subst hlen
      have hd : decode (mB mt.1) q0 = .ok (.astore j, 2) := by simpa [ilen] using hdec
      split at hs
      · simp only [go, Option.some.injEq, Sum.inl.injEq, Prod.mk.injEq] at hs
        obtain ⟨rfl, rfl, rfl, rfl, rfl⟩ := hs
        exact so_astore C hd (by simpa using hst1) k
      · cases hs
    | iinc j n =>
      (try dsimp only at hs); (try dsimp only at hst1); (try dsimp only at hxx)
      simp only [decide_eq_true_eq] at hlen
      subst hlen
      have hd : decode (mB mt.1) q0 = .ok (.iinc j n, 3) := by simpa [ilen] using hdec
      split at hs
      · rename_i x hv
        simp only [go, Option.some.injEq, Sum.inl.injEq, Prod.mk.injEq] at hs
        obtain ⟨rfl, rfl, rfl, rfl, rfl⟩ := hs
        exact so_iinc C hd (by simpa using hst1) hv k
      · cases hs
    | iadd =>
      (try dsimp only at hs); (try dsimp only at hst1); (try dsimp only at hxx)
      simp only [decide_eq_true_eq] at hlen
      subst hlen
      have hd : decode (mB mt.1) q0 = .ok (.iadd, 1) := by simpa [ilen] using hdec
      split at hs
      · simp only [go, Option.some.injEq, Sum.inl.injEq, Prod.mk.injEq] at hs
        obtain ⟨rfl, rfl, rfl, rfl, rfl⟩ := hs
        exact so_iadd C hd k
      · cases hs
    | isub =>
      (try dsimp only at hs); (try dsimp only at hst1); (try dsimp only at hxx)
      simp only [decide_eq_true_eq] at hlen
      subst hlen
      have hd : decode (mB mt.1) q0 = .ok (.isub, 1) := by simpa [ilen] using hdec
      split at hs
      · simp only [go, Option.some.injEq, Sum.inl.injEq, Prod.mk.injEq] at hs
        obtain ⟨rfl, rfl, rfl, rfl, rfl⟩ := hs
        exact so_isub C hd k
      · cases hs
    | imul =>
      (try dsimp only at hs); (try dsimp only at hst1); (try dsimp only at hxx)
      simp only [decide_eq_true_eq] at hlen
      subst hlen
      have hd : decode (mB mt.1) q0 = .ok (.imul, 1) := by simpa [ilen] using hdec
      split at hs
      · simp only [go, Option.some.injEq, Sum.inl.injEq, Prod.mk.injEq] at hs
        obtain ⟨rfl, rfl, rfl, rfl, rfl⟩ := hs
        exact so_imul C hd k
      · cases hs
    | iand =>
      (try dsimp only at hs); (try dsimp only at hst1); (try dsimp only at hxx)
      simp only [decide_eq_true_eq] at hlen
      subst hlen
      have hd : decode (mB mt.1) q0 = .ok (.iand, 1) := by simpa [ilen] using hdec
      split at hs
      · simp only [go, Option.some.injEq, Sum.inl.injEq, Prod.mk.injEq] at hs
        obtain ⟨rfl, rfl, rfl, rfl, rfl⟩ := hs
        exact so_iand C hd k
      · cases hs
    | ior =>
      (try dsimp only at hs); (try dsimp only at hst1); (try dsimp only at hxx)
      simp only [decide_eq_true_eq] at hlen
      subst hlen
      have hd : decode (mB mt.1) q0 = .ok (.ior, 1) := by simpa [ilen] using hdec
      split at hs
      · simp only [go, Option.some.injEq, Sum.inl.injEq, Prod.mk.injEq] at hs
        obtain ⟨rfl, rfl, rfl, rfl, rfl⟩ := hs
        exact so_ior C hd k
      · cases hs
    | ishl =>
      (try dsimp only at hs); (try dsimp only at hst1); (try dsimp only at hxx)
      simp only [decide_eq_true_eq] at hlen
      subst hlen
      have hd : decode (mB mt.1) q0 = .ok (.ishl, 1) := by simpa [ilen] using hdec
      split at hs
      · simp only [go, Option.some.injEq, Sum.inl.injEq, Prod.mk.injEq] at hs
        obtain ⟨rfl, rfl, rfl, rfl, rfl⟩ := hs
        exact so_ishl C hd k
      · cases hs
    | ishr =>
      (try dsimp only at hs); (try dsimp only at hst1); (try dsimp only at hxx)
      simp only [decide_eq_true_eq] at hlen
      subst hlen
      have hd : decode (mB mt.1) q0 = .ok (.ishr, 1) := by simpa [ilen] using hdec
      split at hs
      · simp only [go, Option.some.injEq, Sum.inl.injEq, Prod.mk.injEq] at hs
        obtain ⟨rfl, rfl, rfl, rfl, rfl⟩ := hs
        exact so_ishr C hd k
      · cases hs
    | iushr =>
      (try dsimp only at hs); (try dsimp only at hst1); (try dsimp only at hxx)
      simp only [decide_eq_true_eq] at hlen
      subst hlen
      have hd : decode (mB mt.1) q0 = .ok (.iushr, 1) := by simpa [ilen] using hdec
      split at hs
      · simp only [go, Option.some.injEq, Sum.inl.injEq, Prod.mk.injEq] at hs
        obtain ⟨rfl, rfl, rfl, rfl, rfl⟩ := hs
        exact so_iushr C hd k
      · cases hs
    | ladd =>
      (try dsimp only at hs); (try dsimp only at hst1); (try dsimp only at hxx)
      simp only [decide_eq_true_eq] at hlen
      subst hlen
      have hd : decode (mB mt.1) q0 = .ok (.ladd, 1) := by simpa [ilen] using hdec
      split at hs
      · simp only [go, Option.some.injEq, Sum.inl.injEq, Prod.mk.injEq] at hs
        obtain ⟨rfl, rfl, rfl, rfl, rfl⟩ := hs
        exact so_ladd C hd k
      · cases hs
    | lsub =>
      (try dsimp only at hs); (try dsimp only at hst1); (try dsimp only at hxx)
      simp only [decide_eq_true_eq] at hlen
      subst hlen
      have hd : decode (mB mt.1) q0 = .ok (.lsub, 1) := by simpa [ilen] using hdec
      split at hs
      · simp only [go, Option.some.injEq, Sum.inl.injEq, Prod.mk.injEq] at hs
        obtain ⟨rfl, rfl, rfl, rfl, rfl⟩ := hs
        exact so_lsub C hd k
      · cases hs
    | lmul =>
      (try dsimp only at hs); (try dsimp only at hst1); (try dsimp only at hxx)
      simp only [decide_eq_true_eq] at hlen
      subst hlen
      have hd : decode (mB mt.1) q0 = .ok (.lmul, 1) := by simpa [ilen] using hdec
      split at hs
      · simp only [go, Option.some.injEq, Sum.inl.injEq, Prod.mk.injEq] at hs
        obtain ⟨rfl, rfl, rfl, rfl, rfl⟩ := hs
        exact so_lmul C hd k
      · cases hs
    | lcmp =>
      (try dsimp only at hs); (try dsimp only at hst1); (try dsimp only at hxx)
      simp only [decide_eq_true_eq] at hlen
      subst hlen
      have hd : decode (mB mt.1) q0 = .ok (.lcmp, 1) := by simpa [ilen] using hdec
      split at hs
      · simp only [go, Option.some.injEq, Sum.inl.injEq, Prod.mk.injEq] at hs
        obtain ⟨rfl, rfl, rfl, rfl, rfl⟩ := hs
        exact so_lcmp C hd k
      · cases hs
    | i2l =>
      (try dsimp only at hs); (try dsimp only at hst1); (try dsimp only at hxx)
      simp only [decide_eq_true_eq] at hlen
      subst hlen
      have hd : decode (mB mt.1) q0 = .ok (.i2l, 1) := by simpa [ilen] using hdec
      split at hs
      · simp only [go, Option.some.injEq, Sum.inl.injEq, Prod.mk.injEq] at hs
        obtain ⟨rfl, rfl, rfl, rfl, rfl⟩ := hs
        exact so_i2l C hd k
      · cases hs
    | l2i =>
      (try dsimp only at hs); (try dsimp only at hst1); (try dsimp only at hxx)
      simp only [decide_eq_true_eq] at hlen
      subst hlen
      have hd : decode (mB mt.1) q0 = .ok (.l2i, 1) := by simpa [ilen] using hdec
      split at hs
      · simp only [go, Option.some.injEq, Sum.inl.injEq, Prod.mk.injEq] at hs
        obtain ⟨rfl, rfl, rfl, rfl, rfl⟩ := hs
        exact so_l2i C hd k
      · cases hs
    | i2b =>
      (try dsimp only at hs); (try dsimp only at hst1); (try dsimp only at hxx)
      simp only [decide_eq_true_eq] at hlen
      subst hlen
      have hd : decode (mB mt.1) q0 = .ok (.i2b, 1) := by simpa [ilen] using hdec
      split at hs
      · simp only [go, Option.some.injEq, Sum.inl.injEq, Prod.mk.injEq] at hs
        obtain ⟨rfl, rfl, rfl, rfl, rfl⟩ := hs
        exact so_i2b C hd k
      · cases hs
    | i2s =>
      (try dsimp only at hs); (try dsimp only at hst1); (try dsimp only at hxx)
      simp only [decide_eq_true_eq] at hlen
      subst hlen
      have hd : decode (mB mt.1) q0 = .ok (.i2s, 1) := by simpa [ilen] using hdec
      split at hs
      · simp only [go, Option.some.injEq, Sum.inl.injEq, Prod.mk.injEq] at hs
        obtain ⟨rfl, rfl, rfl, rfl, rfl⟩ := hs
        exact so_i2s C hd k
      · cases hs
    | idiv =>
      (try dsimp only at hs); (try dsimp only at hst1); (try dsimp only at hxx)
      simp only [decide_eq_true_eq] at hlen
      subst hlen
      have hd : decode (mB mt.1) q0 = .ok (.idiv, 1) := by simpa [ilen] using hdec
      split at hs
      · simp only [go, Option.some.injEq, Sum.inl.injEq, Prod.mk.injEq] at hs
        obtain ⟨rfl, rfl, rfl, rfl, rfl⟩ := hs
        exact so_idiv C hd hP k
      · cases hs
    | irem =>
      (try dsimp only at hs); (try dsimp only at hst1); (try dsimp only at hxx)
      simp only [decide_eq_true_eq] at hlen
      subst hlen
      have hd : decode (mB mt.1) q0 = .ok (.irem, 1) := by simpa [ilen] using hdec
      split at hs
      · simp only [go, Option.some.injEq, Sum.inl.injEq, Prod.mk.injEq] at hs
        obtain ⟨rfl, rfl, rfl, rfl, rfl⟩ := hs
        exact so_irem C hd hP k
      · cases hs
    | ldiv =>
      (try dsimp only at hs); (try dsimp only at hst1); (try dsimp only at hxx)
      simp only [decide_eq_true_eq] at hlen
      subst hlen
      have hd : decode (mB mt.1) q0 = .ok (.ldiv, 1) := by simpa [ilen] using hdec
      split at hs
      · simp only [go, Option.some.injEq, Sum.inl.injEq, Prod.mk.injEq] at hs
        obtain ⟨rfl, rfl, rfl, rfl, rfl⟩ := hs
        exact so_ldiv C hd hP k
      · cases hs
    | lrem =>
      (try dsimp only at hs); (try dsimp only at hst1); (try dsimp only at hxx)
      simp only [decide_eq_true_eq] at hlen
      subst hlen
      have hd : decode (mB mt.1) q0 = .ok (.lrem, 1) := by simpa [ilen] using hdec
      split at hs
      · simp only [go, Option.some.injEq, Sum.inl.injEq, Prod.mk.injEq] at hs
        obtain ⟨rfl, rfl, rfl, rfl, rfl⟩ := hs
        exact so_lrem C hd hP k
      · cases hs
    | dup =>
      (try dsimp only at hs); (try dsimp only at hst1); (try dsimp only at hxx)
      simp only [decide_eq_true_eq] at hlen
      subst hlen
      have hd : decode (mB mt.1) q0 = .ok (.dup, 1) := by simpa [ilen] using hdec
      split at hs
      · simp only [go, Option.some.injEq, Sum.inl.injEq, Prod.mk.injEq] at hs
        obtain ⟨rfl, rfl, rfl, rfl, rfl⟩ := hs
        exact so_dup C hd rfl k
      · simp only [go, Option.some.injEq, Sum.inl.injEq, Prod.mk.injEq] at hs
        obtain ⟨rfl, rfl, rfl, rfl, rfl⟩ := hs
        exact so_dup C hd rfl k
      · cases hs
    | dup2 =>
      (try dsimp only at hs); (try dsimp only at hst1); (try dsimp only at hxx)
      simp only [decide_eq_true_eq] at hlen
      subst hlen
      have hd : decode (mB mt.1) q0 = .ok (.dup2, 1) := by simpa [ilen] using hdec
      split at hs
      · simp only [go, Option.some.injEq, Sum.inl.injEq, Prod.mk.injEq] at hs
        obtain ⟨rfl, rfl, rfl, rfl, rfl⟩ := hs
        exact so_dup2 C hd rfl rfl k
      · cases hs
    | pop =>
      (try dsimp only at hs); (try dsimp only at hst1); (try dsimp only at hxx)
      simp only [decide_eq_true_eq] at hlen
      subst hlen
      have hd : decode (mB mt.1) q0 = .ok (.pop, 1) := by simpa [ilen] using hdec
      split at hs
      · simp only [go, Option.some.injEq, Sum.inl.injEq, Prod.mk.injEq] at hs
        obtain ⟨rfl, rfl, rfl, rfl, rfl⟩ := hs
        exact so_pop C hd rfl k
      · simp only [go, Option.some.injEq, Sum.inl.injEq, Prod.mk.injEq] at hs
        obtain ⟨rfl, rfl, rfl, rfl, rfl⟩ := hs
        exact so_pop C hd rfl k
      · cases hs
    | goto z =>
      (try dsimp only at hs); (try dsimp only at hst1); (try dsimp only at hxx)
      simp only [decide_eq_true_eq] at hlen
      subst hlen
      have hd : decode (mB mt.1) q0 = .ok (.goto z, 3) := by simpa [ilen] using hdec
      simp only [go, Option.some.injEq, Sum.inl.injEq, Prod.mk.injEq] at hs
      obtain ⟨rfl, rfl, rfl, rfl, rfl⟩ := hs
      exact so_goto C hd (by simpa using hxx) k
    | tableswitch d lo hi offs =>
      (try dsimp only at hs); (try dsimp only at hst1); (try dsimp only at hxx)
      simp only [Bool.and_eq_true, decide_eq_true_eq, List.all_eq_true] at hlen
      obtain ⟨⟨t1, t2⟩, t3⟩ := hlen
      split at hs
      · simp only [go, Option.some.injEq, Sum.inl.injEq, Prod.mk.injEq] at hs
        obtain ⟨rfl, rfl, rfl, rfl, rfl⟩ := hs
        exact so_tsw C hdec t1 t2 t3 k
      · cases hs
    | getfield ix =>
      (try dsimp only at hs); (try dsimp only at hst1); (try dsimp only at hxx)
      simp only [decide_eq_true_eq] at hlen
      subst hlen
      have hd : decode (mB mt.1) q0 = .ok (.getfield ix, 3) := by simpa [ilen] using hdec
      split at hs
      · rename_i z1 z2 j bb hf
        split at hs
        · simp only [go, Option.some.injEq, Sum.inl.injEq, Prod.mk.injEq] at hs
          obtain ⟨rfl, rfl, rfl, rfl, rfl⟩ := hs
          exact so_getfield C hd hf hP k
        · cases hs
      · cases hs
    | putfield ix =>
      (try dsimp only at hs); (try dsimp only at hst1); (try dsimp only at hxx)
      simp only [decide_eq_true_eq] at hlen
      subst hlen
      have hd : decode (mB mt.1) q0 = .ok (.putfield ix, 3) := by simpa [ilen] using hdec
      have hn : fin (mC mt.1) ix = true → (mY mt.1).name = "<init>" := by
        intro hq
        simp [hq] at hxx
        exact hxx
      split at hs
      · rename_i z1 z2 j bb hf
        split at hs
        · split at hs
          · rename_i g1
            simp only [go, Option.some.injEq, Sum.inl.injEq, Prod.mk.injEq] at hs
            obtain ⟨rfl, rfl, rfl, rfl, rfl⟩ := hs
            exact so_putI C hd hf hst1 hn hP (Or.inl g1) k
          · split at hs
            · rename_i g1
              simp only [go, Option.some.injEq, Sum.inl.injEq, Prod.mk.injEq] at hs
              obtain ⟨rfl, rfl, rfl, rfl, rfl⟩ := hs
              exact so_putI C hd hf hst1 hn hP.1 (Or.inr ⟨g1, hP.2⟩) k
            · cases hs
        · split at hs
          · rename_i g1
            simp only [go, Option.some.injEq, Sum.inl.injEq, Prod.mk.injEq] at hs
            obtain ⟨rfl, rfl, rfl, rfl, rfl⟩ := hs
            exact so_putA C hd hf hst1 hn hP g1 k
          · cases hs
        · cases hs
      · cases hs
    | getstatic ix =>
      (try dsimp only at hs); (try dsimp only at hst1); (try dsimp only at hxx)
      simp only [decide_eq_true_eq] at hlen
      subst hlen
      have hd : decode (mB mt.1) q0 = .ok (.getstatic ix, 3) := by simpa [ilen] using hdec
      split at hs
      · rename_i z1 z2 t hf
        simp only [go, Option.some.injEq, Sum.inl.injEq, Prod.mk.injEq] at hs
        obtain ⟨rfl, rfl, rfl, rfl, rfl⟩ := hs
        exact so_getstatic C hd hf k
      · cases hs
    | new ix =>
      (try dsimp only at hs); (try dsimp only at hst1); (try dsimp only at hxx)
      simp only [decide_eq_true_eq] at hlen
      subst hlen
      have hd : decode (mB mt.1) q0 = .ok (.new ix, 3) := by simpa [ilen] using hdec
      split at hs
      · rename_i z1 z2 kd hf
        simp only [go, Option.some.injEq, Sum.inl.injEq, Prod.mk.injEq] at hs
        obtain ⟨rfl, rfl, rfl, rfl, rfl⟩ := hs
        exact so_new C hd hf hc1 hs1 k
      · cases hs
    | newarray ty =>
      simp only [decide_eq_true_eq] at hlen
      subst hlen
      cases ty with
      | int =>
        have hd : decode (mB mt.1) q0 = .ok (.newarray .int, 2) := by simpa [ilen] using hdec
        dsimp only at hs
        split at hs
        · simp only [go, Option.some.injEq, Sum.inl.injEq, Prod.mk.injEq] at hs
          obtain ⟨rfl, rfl, rfl, rfl, rfl⟩ := hs
          exact so_newI C hd hP hc1 hs1 k
        · cases hs
      | long =>
        have hd : decode (mB mt.1) q0 = .ok (.newarray .long, 2) := by simpa [ilen] using hdec
        dsimp only at hs
        split at hs
        · simp only [go, Option.some.injEq, Sum.inl.injEq, Prod.mk.injEq] at hs
          obtain ⟨rfl, rfl, rfl, rfl, rfl⟩ := hs
          exact so_newJ C hd hP hc1 hs1 k
        · cases hs
      | boolean =>
        have hd : decode (mB mt.1) q0 = .ok (.newarray .boolean, 2) := by simpa [ilen] using hdec
        dsimp only at hs
        split at hs
        · simp only [go, Option.some.injEq, Sum.inl.injEq, Prod.mk.injEq] at hs
          obtain ⟨rfl, rfl, rfl, rfl, rfl⟩ := hs
          exact so_newZ C hd hP hc1 hs1 k
        · cases hs
      | _ => cases hs
    | anewarray ix =>
      (try dsimp only at hs); (try dsimp only at hst1); (try dsimp only at hxx)
      simp only [decide_eq_true_eq] at hlen
      subst hlen
      have hd : decode (mB mt.1) q0 = .ok (.anewarray ix, 3) := by simpa [ilen] using hdec
      split at hs
      · rename_i z1 z2 kd hf
        split at hs
        · split at hs
          · rename_i g1
            simp only [go, Option.some.injEq, Sum.inl.injEq, Prod.mk.injEq] at hs
            obtain ⟨rfl, rfl, rfl, rfl, rfl⟩ := hs
            exact so_anew C hd hf g1 hP hc1 hs1 k
          · cases hs
        · cases hs
      · cases hs
    | arraylength =>
      (try dsimp only at hs); (try dsimp only at hst1); (try dsimp only at hxx)
      simp only [decide_eq_true_eq] at hlen
      subst hlen
      have hd : decode (mB mt.1) q0 = .ok (.arraylength, 1) := by simpa [ilen] using hdec
      split at hs
      · simp only [go, Option.some.injEq, Sum.inl.injEq, Prod.mk.injEq] at hs
        obtain ⟨rfl, rfl, rfl, rfl, rfl⟩ := hs
        exact so_alen C hd hP k
      · split at hs
        · rename_i g1
          subst g1
          simp only [go, Option.some.injEq, Sum.inl.injEq, Prod.mk.injEq] at hs
          obtain ⟨rfl, rfl, rfl, rfl, rfl⟩ := hs
          exact so_slen C hd k
        · cases hs
      · cases hs
    | iaload =>
      (try dsimp only at hs); (try dsimp only at hst1); (try dsimp only at hxx)
      simp only [decide_eq_true_eq] at hlen
      subst hlen
      have hd : decode (mB mt.1) q0 = .ok (.iaload, 1) := by simpa [ilen] using hdec
      split at hs
      · simp only [go, Option.some.injEq, Sum.inl.injEq, Prod.mk.injEq] at hs
        obtain ⟨rfl, rfl, rfl, rfl, rfl⟩ := hs
        exact so_iaload C hd hP k
      · split at hs
        · rename_i g1
          subst g1
          simp only [go, Option.some.injEq, Sum.inl.injEq, Prod.mk.injEq] at hs
          obtain ⟨rfl, rfl, rfl, rfl, rfl⟩ := hs
          exact so_sload C hd hP k
        · split at hs
          · rename_i g1
            simp only [go, Option.some.injEq, Sum.inl.injEq, Prod.mk.injEq] at hs
            obtain ⟨rfl, rfl, rfl, rfl, rfl⟩ := hs
            exact so_tload C hd g1 hP k
          · cases hs
      · cases hs
    | caload =>
      (try dsimp only at hs); (try dsimp only at hst1); (try dsimp only at hxx)
      simp only [decide_eq_true_eq] at hlen
      subst hlen
      have hd : decode (mB mt.1) q0 = .ok (.caload, 1) := by simpa [ilen] using hdec
      split at hs
      · split at hs
        · rename_i g1
          subst g1
          simp only [go, Option.some.injEq, Sum.inl.injEq, Prod.mk.injEq] at hs
          obtain ⟨rfl, rfl, rfl, rfl, rfl⟩ := hs
          exact so_caload C hd hP k
        · cases hs
      · cases hs
    | laload =>
      (try dsimp only at hs); (try dsimp only at hst1); (try dsimp only at hxx)
      simp only [decide_eq_true_eq] at hlen
      subst hlen
      have hd : decode (mB mt.1) q0 = .ok (.laload, 1) := by simpa [ilen] using hdec
      split at hs
      · simp only [go, Option.some.injEq, Sum.inl.injEq, Prod.mk.injEq] at hs
        obtain ⟨rfl, rfl, rfl, rfl, rfl⟩ := hs
        exact so_laload C hd hP k
      · split at hs
        · rename_i g1
          subst g1
          simp only [go, Option.some.injEq, Sum.inl.injEq, Prod.mk.injEq] at hs
          obtain ⟨rfl, rfl, rfl, rfl, rfl⟩ := hs
          exact so_tlload C hd hP k
        · cases hs
      · cases hs
    | baload =>
      (try dsimp only at hs); (try dsimp only at hst1); (try dsimp only at hxx)
      simp only [decide_eq_true_eq] at hlen
      subst hlen
      have hd : decode (mB mt.1) q0 = .ok (.baload, 1) := by simpa [ilen] using hdec
      split at hs
      · simp only [go, Option.some.injEq, Sum.inl.injEq, Prod.mk.injEq] at hs
        obtain ⟨rfl, rfl, rfl, rfl, rfl⟩ := hs
        exact so_baload C hd hP k
      · cases hs
    | aaload =>
      (try dsimp only at hs); (try dsimp only at hst1); (try dsimp only at hxx)
      simp only [decide_eq_true_eq] at hlen
      subst hlen
      have hd : decode (mB mt.1) q0 = .ok (.aaload, 1) := by simpa [ilen] using hdec
      split at hs
      · simp only [go, Option.some.injEq, Sum.inl.injEq, Prod.mk.injEq] at hs
        obtain ⟨rfl, rfl, rfl, rfl, rfl⟩ := hs
        exact so_aaload C hd hP k
      · cases hs
    | iastore =>
      (try dsimp only at hs); (try dsimp only at hst1); (try dsimp only at hxx)
      simp only [decide_eq_true_eq] at hlen
      subst hlen
      have hd : decode (mB mt.1) q0 = .ok (.iastore, 1) := by simpa [ilen] using hdec
      split at hs
      · simp only [go, Option.some.injEq, Sum.inl.injEq, Prod.mk.injEq] at hs
        obtain ⟨rfl, rfl, rfl, rfl, rfl⟩ := hs
        exact so_iastore C hd hP k
      · cases hs
    | lastore =>
      (try dsimp only at hs); (try dsimp only at hst1); (try dsimp only at hxx)
      simp only [decide_eq_true_eq] at hlen
      subst hlen
      have hd : decode (mB mt.1) q0 = .ok (.lastore, 1) := by simpa [ilen] using hdec
      split at hs
      · simp only [go, Option.some.injEq, Sum.inl.injEq, Prod.mk.injEq] at hs
        obtain ⟨rfl, rfl, rfl, rfl, rfl⟩ := hs
        exact so_lastore C hd hP k
      · cases hs
    | bastore =>
      (try dsimp only at hs); (try dsimp only at hst1); (try dsimp only at hxx)
      simp only [decide_eq_true_eq] at hlen
      subst hlen
      have hd : decode (mB mt.1) q0 = .ok (.bastore, 1) := by simpa [ilen] using hdec
      split at hs
      · simp only [go, Option.some.injEq, Sum.inl.injEq, Prod.mk.injEq] at hs
        obtain ⟨rfl, rfl, rfl, rfl, rfl⟩ := hs
        exact so_bastore C hd hP k
      · cases hs
    | aastore =>
      (try dsimp only at hs); (try dsimp only at hst1); (try dsimp only at hxx)
      simp only [decide_eq_true_eq] at hlen
      subst hlen
      have hd : decode (mB mt.1) q0 = .ok (.aastore, 1) := by simpa [ilen] using hdec
      split at hs
      · simp only [go, Option.some.injEq, Sum.inl.injEq, Prod.mk.injEq] at hs
        obtain ⟨rfl, rfl, rfl, rfl, rfl⟩ := hs
        exact so_aastore C hd hP k
      · cases hs
    | instanceof ix =>
      (try dsimp only at hs); (try dsimp only at hst1); (try dsimp only at hxx)
      simp only [decide_eq_true_eq] at hlen
      subst hlen
      have hd : decode (mB mt.1) q0 = .ok (.instanceof ix, 3) := by simpa [ilen] using hdec
      split at hs
      · rename_i z1 z2 kd hf
        split at hs
        · split at hs
          · rename_i g1
            simp only [go, Option.some.injEq, Sum.inl.injEq, Prod.mk.injEq] at hs
            obtain ⟨rfl, rfl, rfl, rfl, rfl⟩ := hs
            exact so_inst C hd hf g1 hP k
          · cases hs
        · cases hs
      · cases hs
    | checkcast ix =>
      (try dsimp only at hs); (try dsimp only at hst1); (try dsimp only at hxx)
      simp only [decide_eq_true_eq] at hlen
      subst hlen
      have hd : decode (mB mt.1) q0 = .ok (.checkcast ix, 3) := by simpa [ilen] using hdec
      split at hs
      · split at hs
        · rename_i g1
          simp only [go, Option.some.injEq, Sum.inl.injEq, Prod.mk.injEq] at hs
          obtain ⟨rfl, rfl, rfl, rfl, rfl⟩ := hs
          exact so_cast C hd g1 hP k
        · cases hs
      · cases hs
    | invokevirtual ix =>
      (try dsimp only at hs); (try dsimp only at hst1); (try dsimp only at hxx)
      simp only [decide_eq_true_eq] at hlen
      subst hlen
      have hd : decode (mB mt.1) q0 = .ok (.invokevirtual ix, 3) := by simpa [ilen] using hdec
      split at hs
      · split at hs <;> cases hs
      · split at hs <;> cases hs
      · rename_i hf
        split at hs
        · simp only [go, Option.some.injEq, Sum.inl.injEq, Prod.mk.injEq] at hs
          obtain ⟨rfl, rfl, rfl, rfl, rfl⟩ := hs
          exact so_clone C hd hf hP hc1 hs1 k
        · cases hs
      · cases hs
    | invokespecial ix =>
      (try dsimp only at hs); (try dsimp only at hst1); (try dsimp only at hxx)
      simp only [decide_eq_true_eq] at hlen
      subst hlen
      have hd : decode (mB mt.1) q0 = .ok (.invokespecial ix, 3) := by simpa [ilen] using hdec
      split at hs
      · split at hs <;> cases hs
      · split at hs <;> cases hs
      · split at hs <;> cases hs
      · rename_i hf
        split at hs
        · simp only [go, Option.some.injEq, Sum.inl.injEq, Prod.mk.injEq] at hs
          obtain ⟨rfl, rfl, rfl, rfl, rfl⟩ := hs
          exact so_oinit C hd hf hP k
        · cases hs
      · cases hs
    | invokestatic ix =>
      (try dsimp only at hs); (try dsimp only at hst1); (try dsimp only at hxx)
      simp only [decide_eq_true_eq] at hlen
      subst hlen
      have hd : decode (mB mt.1) q0 = .ok (.invokestatic ix, 3) := by simpa [ilen] using hdec
      split at hs
      · cases hs
      · rename_i hf
        split at hs
        · simp only [go, Option.some.injEq, Sum.inl.injEq, Prod.mk.injEq] at hs
          obtain ⟨rfl, rfl, rfl, rfl, rfl⟩ := hs
          exact so_min C hd hf hP hc1 hs1 k
        · cases hs
      · rename_i hf
        split at hs
        · simp only [go, Option.some.injEq, Sum.inl.injEq, Prod.mk.injEq] at hs
          obtain ⟨rfl, rfl, rfl, rfl, rfl⟩ := hs
          exact so_copy C hd hf hP k
        · cases hs
      · cases hs
    | ifCond cc z => cases cc <;> (dsimp only at hs; split at hs <;> cases hs)
    | if_icmp cc z => cases cc <;> (dsimp only at hs; split at hs <;> cases hs)
    | if_acmp cc z => cases cc <;> (dsimp only at hs; first | (cases hs; done) | (split at hs <;> cases hs))
    | ireturn => (dsimp only at hs; split at hs <;> cases hs)
    | lreturn => (dsimp only at hs; split at hs <;> cases hs)
    | areturn => (dsimp only at hs; split at hs <;> cases hs)
    | return_ => (dsimp only at hs; split at hs <;> cases hs)
    | _ => cases hs
end
end
section
section
variable {sc : Nat × (Nat → Int32)} {p : Program} {l : Launch} {e : Env} {R : Room} {s : State} {m : MethodId} {args : Array Value} {below : List Frame} {meth : Method} {c : Code} {mt : Mt} {D : va_G} {b : Nat} {cy : Nat → ClassId} {cs : Nat → Nat} {z0 y0 : Nat} {Q : State → Prop} {pc : Nat} {ls : Ls} {st r : List Value} {h : Hp}
set_option maxHeartbeats 4000000 in
theorem sound_br (C : Cx sc p R s m args meth c mt D b cy cs z0) {P : Prop} {tg1 nx1 : Nat} {ls1 : Ls} {st1 : List Value} (hs : stp sc mt pc ls st h = some (.inr (.inl (P, tg1, nx1, ls1, st1)))) (kt : P → Go p l e R s m args below meth c mt D b cy cs z0 y0 Q tg1 ls1 st1 h) (kf : ¬ P → Go p l e R s m args below meth c mt D b cy cs z0 y0 Q nx1 ls1 st1 h) : Go p l e R s m args below meth c mt D b cy cs z0 y0 Q pc ls st h := by
  have hck : CkP mt.1 mt.2 := C.2.2.2.2.2.2.2.2.2.2.2.2.2.2.1
  have hstk : stok mt = true := C.2.2.2.2.2.2.2.2.2.2.2.2.2.2.2
  unfold stp at hs
  cases hr : cAt mt.2 pc with
  | none =>
    rw [hr] at hs
    cases hs
  | some row =>
    rw [hr] at hs
    obtain ⟨e0, hok, hmem⟩ := cAt_ok hr hck hstk
    have hst1 := List.all_eq_true.mp hstk _ hmem
    obtain ⟨q0, nx, i, tg, cv⟩ := row
    dsimp only at e0 hs hst1
    subst e0
    unfold rowOK at hok
    simp only [Bool.and_eq_true, decide_eq_true_eq] at hok
    obtain ⟨⟨hdec, hlen⟩, hxx⟩ := hok
    cases i with
    | ifCond cc z =>
      cases cc with
      | eq =>
        (try dsimp only at hs); (try dsimp only at hxx)
        simp only [decide_eq_true_eq] at hlen
        subst hlen
        have hd : decode (mB mt.1) q0 = .ok (.ifCond .eq z, 3) := by simpa [ilen] using hdec
        split at hs
        · simp only [br, Option.some.injEq, Sum.inr.injEq, Sum.inl.injEq, Prod.mk.injEq] at hs
          obtain ⟨rfl, rfl, rfl, rfl, rfl⟩ := hs
          exact so_if_eq C hd (by simpa using hxx) kt kf
        · cases hs
      | ne =>
        (try dsimp only at hs); (try dsimp only at hxx)
        simp only [decide_eq_true_eq] at hlen
        subst hlen
        have hd : decode (mB mt.1) q0 = .ok (.ifCond .ne z, 3) := by simpa [ilen] using hdec
        split at hs
        · simp only [br, Option.some.injEq, Sum.inr.injEq, Sum.inl.injEq, Prod.mk.injEq] at hs
          obtain ⟨rfl, rfl, rfl, rfl, rfl⟩ := hs
          exact so_if_ne C hd (by simpa using hxx) kt kf
        · cases hs
      | lt =>
        (try dsimp only at hs); (try dsimp only at hxx)
        simp only [decide_eq_true_eq] at hlen
        subst hlen
        have hd : decode (mB mt.1) q0 = .ok (.ifCond .lt z, 3) := by simpa [ilen] using hdec
        split at hs
        · simp only [br, Option.some.injEq, Sum.inr.injEq, Sum.inl.injEq, Prod.mk.injEq] at hs
          obtain ⟨rfl, rfl, rfl, rfl, rfl⟩ := hs
          exact so_if_lt C hd (by simpa using hxx) kt kf
        · cases hs
      | ge =>
        (try dsimp only at hs); (try dsimp only at hxx)
        simp only [decide_eq_true_eq] at hlen
        subst hlen
        have hd : decode (mB mt.1) q0 = .ok (.ifCond .ge z, 3) := by simpa [ilen] using hdec
        split at hs
        · simp only [br, Option.some.injEq, Sum.inr.injEq, Sum.inl.injEq, Prod.mk.injEq] at hs
          obtain ⟨rfl, rfl, rfl, rfl, rfl⟩ := hs
          exact so_if_ge C hd (by simpa using hxx) kt kf
        · cases hs
      | gt =>
        (try dsimp only at hs); (try dsimp only at hxx)
        simp only [decide_eq_true_eq] at hlen
        subst hlen
        have hd : decode (mB mt.1) q0 = .ok (.ifCond .gt z, 3) := by simpa [ilen] using hdec
        split at hs
        · simp only [br, Option.some.injEq, Sum.inr.injEq, Sum.inl.injEq, Prod.mk.injEq] at hs
          obtain ⟨rfl, rfl, rfl, rfl, rfl⟩ := hs
          exact so_if_gt C hd (by simpa using hxx) kt kf
        · cases hs
      | le =>
        (try dsimp only at hs); (try dsimp only at hxx)
        simp only [decide_eq_true_eq] at hlen
        subst hlen
        have hd : decode (mB mt.1) q0 = .ok (.ifCond .le z, 3) := by simpa [ilen] using hdec
        split at hs
        · simp only [br, Option.some.injEq, Sum.inr.injEq, Sum.inl.injEq, Prod.mk.injEq] at hs
          obtain ⟨rfl, rfl, rfl, rfl, rfl⟩ := hs
          exact so_if_le C hd (by simpa using hxx) kt kf
        · cases hs
    | if_icmp cc z =>
      cases cc with
      | eq =>
        (try dsimp only at hs); (try dsimp only at hxx)
        simp only [decide_eq_true_eq] at hlen
        subst hlen
        have hd : decode (mB mt.1) q0 = .ok (.if_icmp .eq z, 3) := by simpa [ilen] using hdec
        split at hs
        · simp only [br, Option.some.injEq, Sum.inr.injEq, Sum.inl.injEq, Prod.mk.injEq] at hs
          obtain ⟨rfl, rfl, rfl, rfl, rfl⟩ := hs
          exact so_icmp_eq C hd (by simpa using hxx) kt kf
        · cases hs
      | ne =>
        (try dsimp only at hs); (try dsimp only at hxx)
        simp only [decide_eq_true_eq] at hlen
        subst hlen
        have hd : decode (mB mt.1) q0 = .ok (.if_icmp .ne z, 3) := by simpa [ilen] using hdec
        split at hs
        · simp only [br, Option.some.injEq, Sum.inr.injEq, Sum.inl.injEq, Prod.mk.injEq] at hs
          obtain ⟨rfl, rfl, rfl, rfl, rfl⟩ := hs
          exact so_icmp_ne C hd (by simpa using hxx) kt kf
        · cases hs
      | lt =>
        (try dsimp only at hs); (try dsimp only at hxx)
        simp only [decide_eq_true_eq] at hlen
        subst hlen
        have hd : decode (mB mt.1) q0 = .ok (.if_icmp .lt z, 3) := by simpa [ilen] using hdec
        split at hs
        · simp only [br, Option.some.injEq, Sum.inr.injEq, Sum.inl.injEq, Prod.mk.injEq] at hs
          obtain ⟨rfl, rfl, rfl, rfl, rfl⟩ := hs
          exact so_icmp_lt C hd (by simpa using hxx) kt kf
        · cases hs
      | ge =>
        (try dsimp only at hs); (try dsimp only at hxx)
        simp only [decide_eq_true_eq] at hlen
        subst hlen
        have hd : decode (mB mt.1) q0 = .ok (.if_icmp .ge z, 3) := by simpa [ilen] using hdec
        split at hs
        · simp only [br, Option.some.injEq, Sum.inr.injEq, Sum.inl.injEq, Prod.mk.injEq] at hs
          obtain ⟨rfl, rfl, rfl, rfl, rfl⟩ := hs
          exact so_icmp_ge C hd (by simpa using hxx) kt kf
        · cases hs
      | gt =>
        (try dsimp only at hs); (try dsimp only at hxx)
        simp only [decide_eq_true_eq] at hlen
        subst hlen
        have hd : decode (mB mt.1) q0 = .ok (.if_icmp .gt z, 3) := by simpa [ilen] using hdec
        split at hs
        · simp only [br, Option.some.injEq, Sum.inr.injEq, Sum.inl.injEq, Prod.mk.injEq] at hs
          obtain ⟨rfl, rfl, rfl, rfl, rfl⟩ := hs
          exact so_icmp_gt C hd (by simpa using hxx) kt kf
        · cases hs
      | le =>
        (try dsimp only at hs); (try dsimp only at hxx)
        simp only [decide_eq_true_eq] at hlen
        subst hlen
        have hd : decode (mB mt.1) q0 = .ok (.if_icmp .le z, 3) := by simpa [ilen] using hdec
        split at hs
        · simp only [br, Option.some.injEq, Sum.inr.injEq, Sum.inl.injEq, Prod.mk.injEq] at hs
          obtain ⟨rfl, rfl, rfl, rfl, rfl⟩ := hs
          exact so_icmp_le C hd (by simpa using hxx) kt kf
        · cases hs
    | if_acmp cc z =>
      cases cc with
      | ne =>
        (try dsimp only at hs); (try dsimp only at hxx)
        simp only [decide_eq_true_eq] at hlen
        subst hlen
        have hd : decode (mB mt.1) q0 = .ok (.if_acmp .ne z, 3) := by simpa [ilen] using hdec
        split at hs
        · simp only [br, Option.some.injEq, Sum.inr.injEq, Sum.inl.injEq, Prod.mk.injEq] at hs
          obtain ⟨rfl, rfl, rfl, rfl, rfl⟩ := hs
          exact so_acmp_ne C hd (by simpa using hxx) kt kf
        · cases hs
      | _ => cases hs
    | newarray ty => cases ty <;> first | (cases hs; done) | (dsimp only at hs; split at hs <;> cases hs)
    | _ => (try dsimp only at hs); (first | (cases hs; done) | (repeat' split at hs) <;> (cases hs; done) | ((repeat' split at hs) <;> cases hs))
set_option maxHeartbeats 4000000 in
theorem sound_cl (C : Cx sc p R s m args meth c mt D b cy cs z0) {P : Prop} {kk : Nat} {as rest : List Value} (hs : stp sc mt pc ls st h = some (.inr (.inr (.inr (P, kk, as, rest))))) (hP : P) (hlen0 : as.length = ary kk) {r1 : Option Value} {h1 : Hp} (hcc : Cc sc kk as h r1 h1) (hc1 : zc h1 ≤ z0 + R.cells) (hs1 : zs h1 ≤ y0 + R.slots) (k : Go p l e R s m args below meth c mt D b cy cs z0 y0 Q (pc + 3) ls (r1.toList ++ rest) h1) : Go p l e R s m args below meth c mt D b cy cs z0 y0 Q pc ls st h := by
  have hck : CkP mt.1 mt.2 := C.2.2.2.2.2.2.2.2.2.2.2.2.2.2.1
  have hstk : stok mt = true := C.2.2.2.2.2.2.2.2.2.2.2.2.2.2.2
  unfold stp at hs
  cases hr : cAt mt.2 pc with
  | none =>
    rw [hr] at hs
    cases hs
  | some row =>
    rw [hr] at hs
    obtain ⟨e0, hok, hmem⟩ := cAt_ok hr hck hstk
    have hst1 := List.all_eq_true.mp hstk _ hmem
    obtain ⟨q0, nx, i, tg, cv⟩ := row
    dsimp only at e0 hs hst1
    subst e0
    unfold rowOK at hok
    simp only [Bool.and_eq_true, decide_eq_true_eq] at hok
    obtain ⟨⟨hdec, hlen⟩, hxx⟩ := hok
    cases i with
    | invokevirtual ix =>
      (try dsimp only at hs); (try dsimp only at hst1); (try dsimp only at hxx)
      simp only [decide_eq_true_eq] at hlen
      subst hlen
      have hd : decode (mB mt.1) q0 = .ok (.invokevirtual ix, 3) := by simpa [ilen] using hdec
      split at hs
      · rename_i hf
        split at hs
        · rename_i hdrop
          simp only [cl, Option.some.injEq, Sum.inr.injEq, Prod.mk.injEq] at hs
          obtain ⟨rfl, rfl, rfl, rfl⟩ := hs
          exact so_callV C hd hf hdrop hP hcc hc1 hs1 k
        · cases hs
      · rename_i hf
        split at hs
        · rename_i hdrop
          simp only [cl, Option.some.injEq, Sum.inr.injEq, Prod.mk.injEq] at hs
          obtain ⟨rfl, rfl, rfl, rfl⟩ := hs
          exact so_callD C hd hf hdrop hP hcc hc1 hs1 k
        · cases hs
      · split at hs <;> cases hs
      · cases hs
    | invokespecial ix =>
      (try dsimp only at hs); (try dsimp only at hst1); (try dsimp only at hxx)
      simp only [decide_eq_true_eq] at hlen
      subst hlen
      have hd : decode (mB mt.1) q0 = .ok (.invokespecial ix, 3) := by simpa [ilen] using hdec
      split at hs
      · rename_i hf
        split at hs
        · rename_i hdrop
          simp only [cl, Option.some.injEq, Sum.inr.injEq, Prod.mk.injEq] at hs
          obtain ⟨rfl, rfl, rfl, rfl⟩ := hs
          exact so_callI C hd hf hdrop hP hcc hc1 hs1 k
        · cases hs
      · rename_i hf
        split at hs
        · rename_i hdrop
          simp only [cl, Option.some.injEq, Sum.inr.injEq, Prod.mk.injEq] at hs
          obtain ⟨rfl, rfl, rfl, rfl⟩ := hs
          exact so_callIN C hd hf hdrop hP hcc hc1 hs1 k
        · cases hs
      · rename_i hf
        split at hs
        · rename_i hdrop
          simp only [cl, Option.some.injEq, Sum.inr.injEq, Prod.mk.injEq] at hs
          obtain ⟨rfl, rfl, rfl, rfl⟩ := hs
          exact so_callP C hd hf hdrop hP hcc hc1 hs1 k
        · cases hs
      · split at hs <;> cases hs
      · cases hs
    | invokestatic ix =>
      (try dsimp only at hs); (try dsimp only at hst1); (try dsimp only at hxx)
      simp only [decide_eq_true_eq] at hlen
      subst hlen
      have hd : decode (mB mt.1) q0 = .ok (.invokestatic ix, 3) := by simpa [ilen] using hdec
      split at hs
      · rename_i hf
        simp only [cl, Option.some.injEq, Sum.inr.injEq, Prod.mk.injEq] at hs
        obtain ⟨rfl, rfl, rfl, rfl⟩ := hs
        exact so_callS C hd hf hP hlen0 hcc hc1 hs1 k
      · split at hs <;> cases hs
      · split at hs <;> cases hs
      · cases hs
    | ifCond cc z => cases cc <;> (dsimp only at hs; split at hs <;> cases hs)
    | if_icmp cc z => cases cc <;> (dsimp only at hs; split at hs <;> cases hs)
    | if_acmp cc z => cases cc <;> (dsimp only at hs; first | (cases hs; done) | (split at hs <;> cases hs))
    | newarray ty => cases ty <;> first | (cases hs; done) | (dsimp only at hs; split at hs <;> cases hs)
    | _ => (try dsimp only at hs); (first | (cases hs; done) | (repeat' split at hs) <;> (cases hs; done) | ((repeat' split at hs) <;> cases hs))
set_option maxHeartbeats 4000000 in
theorem sound_rt (C : Cx sc p R s m args meth c mt D b cy cs z0) {P : Prop} {v : Option Value} (hs : stp sc mt pc ls st h = some (.inr (.inr (.inl (P, v))))) (hP : P) : RetAt mt pc v ∧ st = v.toList := by
  have hck : CkP mt.1 mt.2 := C.2.2.2.2.2.2.2.2.2.2.2.2.2.2.1
  have hstk : stok mt = true := C.2.2.2.2.2.2.2.2.2.2.2.2.2.2.2
  unfold stp at hs
  cases hr : cAt mt.2 pc with
  | none =>
    rw [hr] at hs
    cases hs
  | some row =>
    rw [hr] at hs
    obtain ⟨e0, hok, hmem⟩ := cAt_ok hr hck hstk
    have hst1 := List.all_eq_true.mp hstk _ hmem
    obtain ⟨q0, nx, i, tg, cv⟩ := row
    dsimp only at e0 hs hst1
    subst e0
    unfold rowOK at hok
    simp only [Bool.and_eq_true, decide_eq_true_eq] at hok
    obtain ⟨⟨hdec, hlen⟩, hxx⟩ := hok
    cases i with
    | ireturn =>
      (try dsimp only at hs); (try dsimp only at hst1); (try dsimp only at hxx)
      simp only [decide_eq_true_eq] at hlen
      subst hlen
      have hd : decode (mB mt.1) q0 = .ok (.ireturn, 1) := by simpa [ilen] using hdec
      split at hs
      · simp only [rt, Option.some.injEq, Sum.inr.injEq, Sum.inl.injEq, Prod.mk.injEq] at hs
        obtain ⟨rfl, rfl⟩ := hs
        exact ⟨⟨hd, hP⟩, rfl⟩
      · cases hs
    | lreturn =>
      (try dsimp only at hs); (try dsimp only at hst1); (try dsimp only at hxx)
      simp only [decide_eq_true_eq] at hlen
      subst hlen
      have hd : decode (mB mt.1) q0 = .ok (.lreturn, 1) := by simpa [ilen] using hdec
      split at hs
      · simp only [rt, Option.some.injEq, Sum.inr.injEq, Sum.inl.injEq, Prod.mk.injEq] at hs
        obtain ⟨rfl, rfl⟩ := hs
        exact ⟨⟨hd, (by revert hst1; cases mR mt.1 with | none => (intro z; cases z) | some t => (cases t <;> intro z <;> first | rfl | (cases z)))⟩, rfl⟩
      · cases hs
    | areturn =>
      (try dsimp only at hs); (try dsimp only at hst1); (try dsimp only at hxx)
      simp only [decide_eq_true_eq] at hlen
      subst hlen
      have hd : decode (mB mt.1) q0 = .ok (.areturn, 1) := by simpa [ilen] using hdec
      split at hs
      · simp only [rt, Option.some.injEq, Sum.inr.injEq, Sum.inl.injEq, Prod.mk.injEq] at hs
        obtain ⟨rfl, rfl⟩ := hs
        exact ⟨⟨hd, (by revert hst1; cases mR mt.1 with | none => (intro z; cases z) | some t => exact fun z => ⟨t, rfl, z⟩)⟩, rfl⟩
      · cases hs
    | return_ =>
      (try dsimp only at hs); (try dsimp only at hst1); (try dsimp only at hxx)
      simp only [decide_eq_true_eq] at hlen
      subst hlen
      have hd : decode (mB mt.1) q0 = .ok (.return_, 1) := by simpa [ilen] using hdec
      split at hs
      · simp only [rt, Option.some.injEq, Sum.inr.injEq, Sum.inl.injEq, Prod.mk.injEq] at hs
        obtain ⟨rfl, rfl⟩ := hs
        exact ⟨⟨hd, (by revert hst1; cases mR mt.1 with | none => (intro _; rfl) | some t => (intro z; cases z))⟩, rfl⟩
      · cases hs
    | ifCond cc z => cases cc <;> (dsimp only at hs; split at hs <;> cases hs)
    | if_icmp cc z => cases cc <;> (dsimp only at hs; split at hs <;> cases hs)
    | if_acmp cc z => cases cc <;> (dsimp only at hs; first | (cases hs; done) | (split at hs <;> cases hs))
    | newarray ty => cases ty <;> first | (cases hs; done) | (dsimp only at hs; split at hs <;> cases hs)
    | _ => (try dsimp only at hs); (first | (cases hs; done) | (repeat' split at hs) <;> (cases hs; done) | ((repeat' split at hs) <;> cases hs))
end
end
section
/-! Stretches of code, as one formula: 'bk' unfolds by computation to what is asked, and to where it goes on. -/
def nob (i : Instr) : Bool := match i with
  | .iconst _ => true
  | .bipush _ => true
  | .sipush _ => true
  | .lconst _ => true
  | .ldc _ => true
  | .ldc_w _ => true
  | .ldc2_w _ => true
  | .aconst_null => true
  | .iload_n _ => true
  | .iload _ => true
  | .lload_n _ => true
  | .lload _ => true
  | .aload_n _ => true
  | .aload _ => true
  | .istore_n _ => true
  | .istore _ => true
  | .lstore_n _ => true
  | .lstore _ => true
  | .astore_n _ => true
  | .astore _ => true
  | .iinc _ _ => true
  | .iadd => true
  | .isub => true
  | .imul => true
  | .iand => true
  | .ior => true
  | .ishl => true
  | .ishr => true
  | .iushr => true
  | .ladd => true
  | .lsub => true
  | .lmul => true
  | .lcmp => true
  | .i2l => true
  | .l2i => true
  | .i2b => true
  | .i2s => true
  | .dup => true
  | .dup2 => true
  | .pop => true
  | .goto _ => true
  | .tableswitch _ _ _ _ => true
  | .getstatic _ => true
  | .new _ => true
  | _ => false
def nobAt (mt : Mt) (pc : Nat) : Bool := match cAt mt.2 pc with
  | none => false
  | some r => nob r.2.2.1
def ob (b : Bool) (P Q : Prop) : Prop := match b with
  | true => Q
  | false => P ∧ Q
section
variable {sc : Nat × (Nat → Int32)} {mt : Mt} {pc : Nat} {ls : Ls} {st : List Value} {h : Hp}
set_option maxHeartbeats 4000000 in
theorem nob_ok {P : Prop} {x : Nx} (hs : stp sc mt pc ls st h = some (.inl (P, x))) (hn : nobAt mt pc = true) : P := by
  unfold stp at hs
  unfold nobAt at hn
  cases hr : cAt mt.2 pc with
  | none =>
    rw [hr] at hs
    cases hs
  | some row =>
    rw [hr] at hs hn
    obtain ⟨q0, nx, i, tg, cv⟩ := row
    dsimp only at hs hn
    cases i <;> first
      | (cases hn; done)
      | (dsimp only at hs; simp only [go, Option.some.injEq, Sum.inl.injEq, Prod.mk.injEq] at hs; rw [← hs.1]; trivial)
      | ((try dsimp only at hs); (repeat' split at hs) <;> first | (cases hs; done) | (simp only [go, Option.some.injEq, Sum.inl.injEq, Prod.mk.injEq] at hs; rw [← hs.1]; trivial))
set_option maxHeartbeats 4000000 in
theorem stp_mono {P : Prop} {pc' : Nat} {ls' : Ls} {st' : List Value} {h1 : Hp} (hs : stp sc mt pc ls st h = some (.inl (P, pc', ls', st', h1))) : zc h ≤ zc h1 ∧ zs h ≤ zs h1 := by
  unfold stp at hs
  cases hr : cAt mt.2 pc with
  | none =>
    rw [hr] at hs
    cases hs
  | some row =>
    rw [hr] at hs
    obtain ⟨q0, nx, i, tg, cv⟩ := row
    dsimp only at hs
    have hcp : ∀ (h2 : Hp) (c1 : Prop) (a1 a2 : Hp), (zc a1 = zc h ∧ zs a1 = zs h) → (zc a2 = zc h ∧ zs a2 = zs h) → ∀ (d : Decidable c1), zc h ≤ zc (@ite _ c1 d a1 a2) ∧ zs h ≤ zs (@ite _ c1 d a1 a2) := by
      intro h2 c1 a1 a2 e1 e2 d
      by_cases q : c1
      · rw [if_pos q, e1.1, e1.2]
        exact ⟨Nat.le_refl _, Nat.le_refl _⟩
      · rw [if_neg q, e2.1, e2.2]
        exact ⟨Nat.le_refl _, Nat.le_refl _⟩
    have fin : ∀ {P1 : Prop} {x1 : Nat} {x2 : Ls} {x3 : List Value} {x4 : Hp}, go P1 x1 x2 x3 x4 = some (.inl (P, pc', ls', st', h1)) → (zc h ≤ zc x4 ∧ zs h ≤ zs x4) → zc h ≤ zc h1 ∧ zs h ≤ zs h1 := by
      intro P1 x1 x2 x3 x4 g1 g2
      simp only [go, Option.some.injEq, Sum.inl.injEq, Prod.mk.injEq] at g1
      rw [← g1.2.2.2.2]
      exact g2
    cases i <;> first
      | (cases hs; done)
      | exact fin hs ⟨Nat.le_refl _, Nat.le_refl _⟩
      | (rename_i tt; cases tt <;> first | (cases hs; done) | ((try dsimp only at hs); (repeat' split at hs) <;> first | (cases hs; done) | exact fin hs ⟨Nat.le_refl _, Nat.le_refl _⟩ | exact fin hs ⟨Nat.le_succ _, Nat.le_add_right _ _⟩))
      | (rename_i tt zz; cases tt <;> ((try dsimp only at hs); (repeat' split at hs) <;> (cases hs; done)))
      | ((try dsimp only at hs); (repeat' split at hs) <;> first | (cases hs; done) | exact fin hs ⟨Nat.le_refl _, Nat.le_refl _⟩ | exact fin hs ⟨Nat.le_succ _, Nat.le_add_right _ _⟩ | exact fin hs (hcp h _ _ _ ⟨rfl, rfl⟩ ⟨rfl, rfl⟩ _))
end
/-- n instructions from pc on, up to the cuts; K is what is asked there -/
def bk (sc : Nat × (Nat → Int32)) (cuts : List Nat) (r : Option Value) (h' : Hp) (K : Nat → Ls → List Value → Hp → Prop) (mt : Mt) : Nat → Nat → Ls → List Value → Hp → Prop
  | 0, pc, ls, st, h => K pc ls st h
  | n + 1, pc, ls, st, h => match stp sc mt pc ls st h with
    | none => False
    | some (.inl (P, pc', ls', st', h1)) => ob (nobAt mt pc) P (match cuts.contains pc' with
      | true => K pc' ls' st' h1
      | false => bk sc cuts r h' K mt n pc' ls' st' h1)
    | some (.inr (.inl (c, tg, nx, ls', st'))) => (c → (match cuts.contains tg with
      | true => K tg ls' st' h
      | false => bk sc cuts r h' K mt n tg ls' st' h)) ∧ (¬ c → (match cuts.contains nx with
      | true => K nx ls' st' h
      | false => bk sc cuts r h' K mt n nx ls' st' h))
    | some (.inr (.inr (.inl (P, v)))) => P ∧ v = r ∧ h = h'
    | some (.inr (.inr (.inr (P, k, as, rest)))) => P ∧ as.length = ary k ∧ ∃ (r1 : Option Value) (h1 : Hp), Cc sc k as h r1 h1 ∧ (match cuts.contains (pc + 3) with
      | true => K (pc + 3) ls (r1.toList ++ rest) h1
      | false => bk sc cuts r h' K mt n (pc + 3) ls (r1.toList ++ rest) h1)
set_option maxHeartbeats 4000000 in
theorem bk_sound {sc : Nat × (Nat → Int32)} {cuts : List Nat} {r : Option Value} {h' : Hp} {mt : Mt} : ∀ (n pc : Nat) (ls : Ls) (st : List Value) (h : Hp), bk sc cuts r h' (fun pc ls st h => Rn sc mt pc ls st h r h') mt n pc ls st h → Rn sc mt pc ls st h r h' := by
  intro n
  induction n with
  | zero => exact fun pc ls st h hk => hk
  | succ n ih =>
    intro pc ls st h hk
    have cut : ∀ (pc1 : Nat) (ls1 : Ls) (st1 : List Value) (h1 : Hp), (match cuts.contains pc1 with
      | true => Rn sc mt pc1 ls1 st1 h1 r h'
      | false => bk sc cuts r h' (fun pc ls st h => Rn sc mt pc ls st h r h') mt n pc1 ls1 st1 h1) → Rn sc mt pc1 ls1 st1 h1 r h' := by
      intro pc1 ls1 st1 h1 q
      cases hc : cuts.contains pc1 with
      | true => rw [hc] at q; exact q
      | false => rw [hc] at q; exact ih pc1 ls1 st1 h1 q
    unfold bk at hk
    cases hs : stp sc mt pc ls st h with
    | none => rw [hs] at hk; exact absurd hk id
    | some x =>
      rw [hs] at hk
      match x, hs, hk with
      | .inl (P, pc', ls', st', h1), hs, hk =>
        have hP : P ∧ Rn sc mt pc' ls' st' h1 r h' := by
          dsimp only at hk
          cases hn : nobAt mt pc with
          | true => rw [hn] at hk; exact ⟨nob_ok hs hn, cut _ _ _ _ hk⟩
          | false => rw [hn] at hk; exact ⟨hk.1, cut _ _ _ _ hk.2⟩
        obtain ⟨hP, R1, R2, R3⟩ := hP
        obtain ⟨m1, m2⟩ := stp_mono hs
        refine ⟨Nat.le_trans m1 R1, Nat.le_trans m2 R2, ?_⟩
        intro p l e R s m args below meth c D b cy cs z0 y0 Q C hc1 hs1 hz hret
        exact sound_go C hs hP (Nat.le_trans R1 hc1) (Nat.le_trans R2 hs1) (R3 p l e R s m args below meth c D b cy cs z0 y0 Q C hc1 hs1 (Nat.le_trans hz m1) hret)
      | .inr (.inl (P, tg, nx, ls', st')), hs, hk =>
        obtain ⟨k1, k2⟩ := hk
        by_cases hP : P
        · obtain ⟨R1, R2, R3⟩ := cut _ _ _ _ (k1 hP)
          refine ⟨R1, R2, ?_⟩
          intro p l e R s m args below meth c D b cy cs z0 y0 Q C hc1 hs1 hz hret
          exact sound_br C hs (fun _ => R3 p l e R s m args below meth c D b cy cs z0 y0 Q C hc1 hs1 hz hret) (fun q => absurd hP q)
        · obtain ⟨R1, R2, R3⟩ := cut _ _ _ _ (k2 hP)
          refine ⟨R1, R2, ?_⟩
          intro p l e R s m args below meth c D b cy cs z0 y0 Q C hc1 hs1 hz hret
          exact sound_br C hs (fun q => absurd q hP) (fun _ => R3 p l e R s m args below meth c D b cy cs z0 y0 Q C hc1 hs1 hz hret)
      | .inr (.inr (.inl (P, v))), hs, hk =>
        obtain ⟨hP, rfl, rfl⟩ := hk
        refine ⟨Nat.le_refl _, Nat.le_refl _, ?_⟩
        intro p l e R s m args below meth c D b cy cs z0 y0 Q C hc1 hs1 hz hret lsA H locs cells slots ez ey hw hS hl
        obtain ⟨g1, g2⟩ := sound_rt C hs hP
        have := hret pc lsA H locs cells slots g1 ez ey hw hS
        rw [g2]
        have es : v.toList.map (cnv b cs) = (v.map (cnv b cs)).toList := by cases v <;> rfl
        rw [es]
        exact this
      | .inr (.inr (.inr (P, k, as, rest))), hs, hk =>
        obtain ⟨hP, hlen, r1, h1, hcc, hk⟩ := hk
        obtain ⟨R1, R2, R3⟩ := cut _ _ _ _ hk
        have m1 := hcc.2.2.1
        have m2 := hcc.2.2.2.1
        refine ⟨Nat.le_trans m1 R1, Nat.le_trans m2 R2, ?_⟩
        intro p l e R s m args below meth c D b cy cs z0 y0 Q C hc1 hs1 hz hret
        exact sound_cl C hs hP hlen hcc (Nat.le_trans R1 hc1) (Nat.le_trans R2 hs1) (R3 p l e R s m args below meth c D b cy cs z0 y0 Q C hc1 hs1 (Nat.le_trans hz m1) hret)
end
section
/-! THE CLAIM OUT OF ONE WALK OF THE LAW'S BODY. Your part is whole_start (and what it stands on); all else here is the same for every law, but numbers. -/
def R_law : String := "FourLorriesLaw"
def lw_P (b : Addr) (xs : List Int32) (args : Array Value) (s : State) : Prop := args = #[.ref b] ∧ s.IntsAt b xs ∧ xs.length ≤ 3072 ∧ (Jvm.Cond.and given_1 narrow_1).before args s = true
def lw_Q (_ : Array Value) (s : State) (o : Outcome) (t : State) : Prop := o = .returned (some (.int 1)) ∧ Framed s o t [] 600000 7302250
def lw_Z (below : List Frame) (a : Array Value) (s : State) : State → Prop := fun t => ∃ o, t.status = .running ∧ Ended t below o ∧ lw_Q a s o t
/-- the law's own end, with 1 on the stack, nothing written that was there before, its room as the claim has it -/
theorem lw_ret {p : Program} {l : Launch} {e : Env} {s : State} {m : MethodId} {below : List Frame} {meth : Method} {c : Code} {b : Nat} (hx : p.tables.exec = Jvm.exec) (hb : c.code = code) (hr : meth.sig.returnType = ret) (hlocks : meth.locks = false) {pc : Nat} {H : Heap} {ls : Array Slot} (hdg : decode code pc = .ok (.ireturn, 1)) : W p l e room_1 s m #[Value.ref b] below meth c H [] 600000 7302250 (lw_Z below #[Value.ref b] s) (F0 m pc ls [.int 1]) := by
  intro T hT X
  obtain ⟨fs, hret, hrun, hended, hW, hframe⟩ := X.leave (v := some (.int 1)) (hlocks := hlocks) (fun h => by rw [hr] at h; cases h)
  have hmeth' : T.vm.method? m = some meth := X.method'
  refine ⟨T.setFrames fs, ?_, .returned (some (.int 1)), hrun, hended, rfl, ⟨_, rfl⟩, hW, hframe⟩
  jvm_step X.here [X.here.top, hx, hb, hdg, hmeth', hr, ret, narrow_b1]
  (try refine ⟨rfl, ?_⟩); (try refine ⟨rfl, ?_⟩)
  first | (intro acts; rw [hret _ acts rfl rfl rfl]) | rw [hret _ _ rfl rfl rfl]
  exact Steps.refl _
/-- what holds at the law's entry: the machine, the code, the tables' words (any of lw_tbl by 'hts w (by decide +kernel)'), the script of L ints xs at the cell b, what the Statement gives of the start (any of its parts by flat_of_before) -/
def lw_At (p : Program) (s : State) (m : MethodId) (meth : Method) (c : Code) (b L : Nat) (xs : Nat → Int32) : Prop :=
  p.tables.exec = Jvm.exec ∧ c.code = code ∧ meth.sig.returnType = ret ∧ c.maxLocals = 4 ∧ s.vm.findClass R_law = some m.cls ∧ (∀ w ∈ lw_tbl, w.before #[Value.ref b] s = true) ∧ va_X b L xs s s.heap ∧ b < s.heap.size ∧ meth.locks = false ∧ (Jvm.Cond.and given_1 narrow_1).before #[Value.ref b] s = true
def hp0 : Hp := ((0, 0), fun _ => 99, fun _ => 0, fun _ _ => 0, fun _ _ => 0, fun _ _ => 0)
set_option maxRecDepth 20000 in
theorem st_0 {args : Array Value} {s : State} (hts : ∀ w ∈ lw_tbl, w.before args s = true) (hgv : (Jvm.Cond.and given_1 narrow_1).before args s = true) : ∃ t : Nat, va_Z (stC 0).1 (stC 0).2.1 (stC 0).2.2 (.ref t) (Ab s.heap.size) s s.heap ∧ va_T (stT 0) t (stN 0) (stv 0) (Ab s.heap.size) s s.heap := by
  have hf := flat_of_before _ hgv
  have hA : ∀ a : Nat, a < s.heap.size → ¬ Ab s.heap.size a := fun a h z => absurd z (Nat.not_le.mpr h)
  obtain ⟨t, h1, h2⟩ := va_Tof (args := args) (s := s) (tm := (.static "FourLorries" "LEAST" "[I")) (ty := .int) (N := 5) (f := stv 0) (A := Ab s.heap.size) (by decide) (hf (.arrayOf (.static "FourLorries" "LEAST" "[I") .int) (by decide +kernel)) (va_eqt (hf (.eq (.length (.static "FourLorries" "LEAST" "[I")) (.int 5)) (by decide +kernel))) (by
    intro j hj
    match j, hj with
    | 0, _ => exact va_eqt (hf (.eq (.elem (.static "FourLorries" "LEAST" "[I") (.int 0)) (.int 0)) (by decide +kernel))
    | 1, _ => exact va_eqt (hf (.eq (.elem (.static "FourLorries" "LEAST" "[I") (.int 1)) (.int 0)) (by decide +kernel))
    | 2, _ => exact va_eqt (hf (.eq (.elem (.static "FourLorries" "LEAST" "[I") (.int 2)) (.int 0)) (by decide +kernel))
    | 3, _ => exact va_eqt (hf (.eq (.elem (.static "FourLorries" "LEAST" "[I") (.int 3)) (.int 1)) (by decide +kernel))
    | 4, _ => exact va_eqt (hf (.eq (.elem (.static "FourLorries" "LEAST" "[I") (.int 4)) (.int 0)) (by decide +kernel))
    | n + 5, h => exact absurd h (by omega)) hA
  exact ⟨t, va_Zref (hts (.laysStatic "FourLorries" "LEAST" "[I") (List.mem_of_getElem? (i := 418) (by decide +kernel))) (hts (.initialized "FourLorries") (List.mem_of_getElem? (i := 73) (by decide +kernel))) h1 hA, h2⟩
set_option maxRecDepth 20000 in
theorem st_1 {args : Array Value} {s : State} (hts : ∀ w ∈ lw_tbl, w.before args s = true) (hgv : (Jvm.Cond.and given_1 narrow_1).before args s = true) : ∃ t : Nat, va_Z (stC 1).1 (stC 1).2.1 (stC 1).2.2 (.ref t) (Ab s.heap.size) s s.heap ∧ va_T (stT 1) t (stN 1) (stv 1) (Ab s.heap.size) s s.heap := by
  have hf := flat_of_before _ hgv
  have hA : ∀ a : Nat, a < s.heap.size → ¬ Ab s.heap.size a := fun a h z => absurd z (Nat.not_le.mpr h)
  obtain ⟨t, h1, h2⟩ := va_Tof (args := args) (s := s) (tm := (.static "FourLorries" "GREATEST" "[I")) (ty := .int) (N := 5) (f := stv 1) (A := Ab s.heap.size) (by decide) (hf (.arrayOf (.static "FourLorries" "GREATEST" "[I") .int) (by decide +kernel)) (va_eqt (hf (.eq (.length (.static "FourLorries" "GREATEST" "[I")) (.int 5)) (by decide +kernel))) (by
    intro j hj
    match j, hj with
    | 0, _ => exact va_eqt (hf (.eq (.elem (.static "FourLorries" "GREATEST" "[I") (.int 0)) (.int 5)) (by decide +kernel))
    | 1, _ => exact va_eqt (hf (.eq (.elem (.static "FourLorries" "GREATEST" "[I") (.int 1)) (.int 12)) (by decide +kernel))
    | 2, _ => exact va_eqt (hf (.eq (.elem (.static "FourLorries" "GREATEST" "[I") (.int 2)) (.int 12)) (by decide +kernel))
    | 3, _ => exact va_eqt (hf (.eq (.elem (.static "FourLorries" "GREATEST" "[I") (.int 3)) (.int 9)) (by decide +kernel))
    | 4, _ => exact va_eqt (hf (.eq (.elem (.static "FourLorries" "GREATEST" "[I") (.int 4)) (.int 2)) (by decide +kernel))
    | n + 5, h => exact absurd h (by omega)) hA
  exact ⟨t, va_Zref (hts (.laysStatic "FourLorries" "GREATEST" "[I") (List.mem_of_getElem? (i := 420) (by decide +kernel))) (hts (.initialized "FourLorries") (List.mem_of_getElem? (i := 73) (by decide +kernel))) h1 hA, h2⟩
set_option maxRecDepth 20000 in
theorem st_2 {args : Array Value} {s : State} (hts : ∀ w ∈ lw_tbl, w.before args s = true) (hgv : (Jvm.Cond.and given_1 narrow_1).before args s = true) : ∃ t : Nat, va_Z (stC 2).1 (stC 2).2.1 (stC 2).2.2 (.ref t) (Ab s.heap.size) s s.heap ∧ va_T (stT 2) t (stN 2) (stv 2) (Ab s.heap.size) s s.heap := by
  have hf := flat_of_before _ hgv
  have hA : ∀ a : Nat, a < s.heap.size → ¬ Ab s.heap.size a := fun a h z => absurd z (Nat.not_le.mpr h)
  obtain ⟨t, h1, h2⟩ := va_Tof (args := args) (s := s) (tm := (.static "FourLorries$TextReader" "DIGITS" "[I")) (ty := .int) (N := 4) (f := stv 2) (A := Ab s.heap.size) (by decide) (hf (.arrayOf (.static "FourLorries$TextReader" "DIGITS" "[I") .int) (by decide +kernel)) (va_eqt (hf (.eq (.length (.static "FourLorries$TextReader" "DIGITS" "[I")) (.int 4)) (by decide +kernel))) (by
    intro j hj
    match j, hj with
    | 0, _ => exact va_eqt (hf (.eq (.elem (.static "FourLorries$TextReader" "DIGITS" "[I") (.int 0)) (.int 1)) (by decide +kernel))
    | 1, _ => exact va_eqt (hf (.eq (.elem (.static "FourLorries$TextReader" "DIGITS" "[I") (.int 1)) (.int 2)) (by decide +kernel))
    | 2, _ => exact va_eqt (hf (.eq (.elem (.static "FourLorries$TextReader" "DIGITS" "[I") (.int 2)) (.int 2)) (by decide +kernel))
    | 3, _ => exact va_eqt (hf (.eq (.elem (.static "FourLorries$TextReader" "DIGITS" "[I") (.int 3)) (.int 1)) (by decide +kernel))
    | n + 4, h => exact absurd h (by omega)) hA
  exact ⟨t, va_Zref (hts (.laysStatic "FourLorries$TextReader" "DIGITS" "[I") (List.mem_of_getElem? (i := 416) (by decide +kernel))) (hts (.initialized "FourLorries$TextReader") (List.mem_of_getElem? (i := 74) (by decide +kernel))) h1 hA, h2⟩
set_option maxRecDepth 20000 in
theorem st_3 {args : Array Value} {s : State} (hts : ∀ w ∈ lw_tbl, w.before args s = true) (hgv : (Jvm.Cond.and given_1 narrow_1).before args s = true) : ∃ t : Nat, va_Z (stC 3).1 (stC 3).2.1 (stC 3).2.2 (.ref t) (Ab s.heap.size) s s.heap ∧ va_T (stT 3) t (stN 3) (stv 3) (Ab s.heap.size) s s.heap := by
  have hf := flat_of_before _ hgv
  have hA : ∀ a : Nat, a < s.heap.size → ¬ Ab s.heap.size a := fun a h z => absurd z (Nat.not_le.mpr h)
  obtain ⟨t, h1, h2⟩ := va_Tof (args := args) (s := s) (tm := (.static "FourLorries$TextReader" "LETTERS" "[C")) (ty := .char) (N := 4) (f := stv 3) (A := Ab s.heap.size) (by decide) (hf (.arrayOf (.static "FourLorries$TextReader" "LETTERS" "[C") .char) (by decide +kernel)) (va_eqt (hf (.eq (.length (.static "FourLorries$TextReader" "LETTERS" "[C")) (.int 4)) (by decide +kernel))) (by
    intro j hj
    match j, hj with
    | 0, _ => exact va_eqt (hf (.eq (.elem (.static "FourLorries$TextReader" "LETTERS" "[C") (.int 0)) (.int 115)) (by decide +kernel))
    | 1, _ => exact va_eqt (hf (.eq (.elem (.static "FourLorries$TextReader" "LETTERS" "[C") (.int 1)) (.int 104)) (by decide +kernel))
    | 2, _ => exact va_eqt (hf (.eq (.elem (.static "FourLorries$TextReader" "LETTERS" "[C") (.int 2)) (.int 101)) (by decide +kernel))
    | 3, _ => exact va_eqt (hf (.eq (.elem (.static "FourLorries$TextReader" "LETTERS" "[C") (.int 3)) (.int 119)) (by decide +kernel))
    | n + 4, h => exact absurd h (by omega)) hA
  exact ⟨t, va_Zref (hts (.laysStatic "FourLorries$TextReader" "LETTERS" "[C") (List.mem_of_getElem? (i := 414) (by decide +kernel))) (hts (.initialized "FourLorries$TextReader") (List.mem_of_getElem? (i := 74) (by decide +kernel))) h1 hA, h2⟩
set_option maxRecDepth 20000 in
theorem st_4 {args : Array Value} {s : State} (hts : ∀ w ∈ lw_tbl, w.before args s = true) (hgv : (Jvm.Cond.and given_1 narrow_1).before args s = true) : ∃ t : Nat, va_Z (stC 4).1 (stC 4).2.1 (stC 4).2.2 (.ref t) (Ab s.heap.size) s s.heap ∧ va_T (stT 4) t (stN 4) (stv 4) (Ab s.heap.size) s s.heap := by
  have hf := flat_of_before _ hgv
  have hA : ∀ a : Nat, a < s.heap.size → ¬ Ab s.heap.size a := fun a h z => absurd z (Nat.not_le.mpr h)
  obtain ⟨t, h1, h2⟩ := va_Tof (args := args) (s := s) (tm := (.static "FourLorries$Outlook" "TWELVES" "[J")) (ty := .long) (N := 5) (f := stv 4) (A := Ab s.heap.size) (by decide) (hf (.arrayOf (.static "FourLorries$Outlook" "TWELVES" "[J") .long) (by decide +kernel)) (va_eqt (hf (.eq (.length (.static "FourLorries$Outlook" "TWELVES" "[J")) (.int 5)) (by decide +kernel))) (by
    intro j hj
    match j, hj with
    | 0, _ => exact va_eqtl (hf (.eq (.elem (.static "FourLorries$Outlook" "TWELVES" "[J") (.int 0)) (.long 1)) (by decide +kernel))
    | 1, _ => exact va_eqtl (hf (.eq (.elem (.static "FourLorries$Outlook" "TWELVES" "[J") (.int 1)) (.long 12)) (by decide +kernel))
    | 2, _ => exact va_eqtl (hf (.eq (.elem (.static "FourLorries$Outlook" "TWELVES" "[J") (.int 2)) (.long 144)) (by decide +kernel))
    | 3, _ => exact va_eqtl (hf (.eq (.elem (.static "FourLorries$Outlook" "TWELVES" "[J") (.int 3)) (.long 1728)) (by decide +kernel))
    | 4, _ => exact va_eqtl (hf (.eq (.elem (.static "FourLorries$Outlook" "TWELVES" "[J") (.int 4)) (.long 20736)) (by decide +kernel))
    | n + 5, h => exact absurd h (by omega)) hA
  exact ⟨t, va_Zref (hts (.laysStatic "FourLorries$Outlook" "TWELVES" "[J") (List.mem_of_getElem? (i := 541) (by decide +kernel))) (hts (.initialized "FourLorries$Outlook") (List.mem_of_getElem? (i := 75) (by decide +kernel))) h1 hA, h2⟩
theorem ao_in {args : Array Value} {s : State} (hts : ∀ w ∈ lw_tbl, w.before args s = true) : va_AO RX0 s ∧ va_AO RX4 s ∧ va_AO RX5 s := ⟨va_AO.of (hts _ (List.mem_of_getElem? (i := 98) (by decide +kernel))), va_AO.of (hts _ (List.mem_of_getElem? (i := 199) (by decide +kernel))), va_AO.of (hts _ (List.mem_of_getElem? (i := 292) (by decide +kernel)))⟩
theorem nc_in {args : Array Value} {s : State} (hgv : (Jvm.Cond.and given_1 narrow_1).before args s = true) : va_Nc RX4 RX2 s ∧ va_Nc RX4 RX1 s ∧ va_Nc RX2 RX1 s := by
  have hf := flat_of_before _ hgv
  exact ⟨va_Nc.of (hf (.not (.castable RX4 RX2)) (by decide +kernel)), va_Nc.of (hf (.not (.castable RX4 RX1)) (by decide +kernel)), va_Nc.of (hf (.not (.castable RX2 RX1)) (by decide +kernel))⟩
theorem ng_in {args : Array Value} {s : State} (hts : ∀ w ∈ lw_tbl, w.before args s = true) (hgv : (Jvm.Cond.and given_1 narrow_1).before args s = true) : NG s := by
  obtain ⟨a1, a2, a3⟩ := ao_in hts
  obtain ⟨n1, n2, n3⟩ := nc_in hgv
  refine ⟨fun w hw => ?_, a1, a2, a3, n1, n2, n3⟩
  obtain ⟨h1, h2⟩ := List.mem_filter.mp hw
  have h3 := hts w h1
  cases w with
  | fieldLinkNest _ _ _ _ _ _ => exact va_Nw.of rfl h3
  | methodLinkNest _ _ _ _ => exact va_Nw.of rfl h3
  | castable _ _ => exact va_Nw.of rfl h3
  | _ => cases h2
theorem arr_prim {args : Array Value} {s : State} {ty : FieldType} (hp : ∀ n, ty ≠ .object n) (h : (Cond.arrayClass ty).before args s = true) : ∃ cA : ClassId, ArrOfT s cA ty ∧ va_RA s cA ty := by
  obtain ⟨cA, kA, comp, h1, h2, h3⟩ := Cond.arrayClass_spec h
  refine ⟨cA, fun n z => ⟨fun k h => (by cases h), kA, h2, comp, h3⟩, ?_⟩
  cases ty with
  | object n => exact absurd rfl (hp n)
  | _ => exact h1
theorem arr_obj {s : State} {C : String} (h : va_AO C s) : ∃ cA : ClassId, ArrOfT s cA (.object C) ∧ va_RA s cA (.object C) := by
  obtain ⟨comp, cA, kA, h1, h2, h3, h4, h5⟩ := Cond.arrayOver_spec h
  exact ⟨cA, fun n z => ⟨fun k h => (by cases h), kA, h3, comp, h4⟩, kA, comp, h3, h4, h1, h5⟩
theorem k_in {args : Array Value} {s : State} (hts : ∀ w ∈ gwl, w.before args s = true) (hao : va_AO RX0 s ∧ va_AO RX4 s ∧ va_AO RX5 s) : ∃ (D : va_G) (cy : Nat → ClassId), va_K D vwCl (tys cy) s := by
  have each : ∀ k, k < 12 → ∃ (c0 : ClassId) (i0 : Nat → Nat), ∀ q, vwCl[k]? = some q → u_Kn s q.1 q.2.1 q.2.2 c0 i0 := fun k hk => by
    obtain ⟨C0, T, ty, hv, hin, -, -, -, hinst, -⟩ := kds k hk
    obtain ⟨c0, i0, hh⟩ := u_known (C := C0) (T := T) (N := nf k) (n := nf k) hts hin (hts _ hinst)
    refine ⟨c0, i0, fun q hq => ?_⟩
    obtain rfl := Option.some.inj (hv.symm.trans hq)
    exact hh
  obtain ⟨cI, i1⟩ := arr_prim (ty := .int) (fun _ z => by cases z) (hts _ w_ar.1)
  obtain ⟨cJ, j1⟩ := arr_prim (ty := .long) (fun _ z => by cases z) (hts _ w_ar.2.1)
  obtain ⟨cZ, z1⟩ := arr_prim (ty := .boolean) (fun _ z => by cases z) (hts _ w_ar.2.2)
  obtain ⟨c5, o5⟩ := arr_obj hao.1
  obtain ⟨c6, o6⟩ := arr_obj hao.2.1
  obtain ⟨c7, o7⟩ := arr_obj hao.2.2
  refine ⟨(fun k => if h : k < 12 then Classical.choose (each k h) else cI, fun k => if h : k < 12 then Classical.choose (Classical.choose_spec (each k h)) else fun _ => 0), fun k => if k = 12 then cI else if k = 13 then cJ else if k = 14 then cZ else if k = 15 then c5 else if k = 16 then c6 else c7, ?_, ?_⟩
  · intro k q hq
    have hk : k < 12 := (List.getElem?_eq_some_iff.mp hq).1
    have := Classical.choose_spec (Classical.choose_spec (each k hk)) q hq
    dsimp only
    rw [dif_pos hk, dif_pos hk]
    exact this
  · intro k q hq
    match k, hq with
    | 0, hq => cases hq; exact i1
    | 1, hq => cases hq; exact j1
    | 2, hq => cases hq; exact z1
    | 3, hq => cases hq; exact o5
    | 4, hq => cases hq; exact o6
    | 5, hq => cases hq; exact o7
    | n + 6, hq => simp [tys] at hq
set_option maxHeartbeats 4000000 in
set_option maxRecDepth 100000 in
/-- the law, out of the little machine's run of it -/
theorem whole_open {p : Program} {e : Env} {s : State} {m : MethodId} {below : List Frame} {meth : Method} {c : Code} (l : Launch) {b L : Nat} {xs : Nat → Int32} (C0 : lw_At p s m meth c b L xs) (hrun : ∃ h', Rn (L, xs) lawM 0 (enL 4 [.retAddr 5]) [] hp0 (some (.int 1)) h' ∧ zc h' ≤ 600000 ∧ zs h' ≤ 7302250) : W p l e room_1 s m #[Value.ref b] below meth c s.heap [] 0 0 (lw_Z below #[Value.ref b] s) (entryFrame m ([Value.ref b] : List Value).toArray 4) := by
  obtain ⟨hx, hb, hr, hml, hown, hts, hX, hbl, hlocks, hgv⟩ := C0
  have hgw : ∀ w ∈ gwl, w.before #[Value.ref b] s = true := fun w hw => hts w (List.mem_filter.mp hw).1
  obtain ⟨D, cy, hK⟩ := k_in hgw (ao_in hts)
  obtain ⟨t0, a0⟩ := st_0 hts hgv
  obtain ⟨t1, a1⟩ := st_1 hts hgv
  obtain ⟨t2, a2⟩ := st_2 hts hgv
  obtain ⟨t3, a3⟩ := st_3 hts hgv
  obtain ⟨t4, a4⟩ := st_4 hts hgv
  obtain ⟨cs, hcs⟩ : ∃ cs : Nat → Nat, cs 0 = t0 ∧ cs 1 = t1 ∧ cs 2 = t2 ∧ cs 3 = t3 ∧ cs 4 = t4 ∧ cs 5 = b := ⟨fun t => if t = 0 then t0 else if t = 1 then t1 else if t = 2 then t2 else if t = 3 then t3 else if t = 4 then t4 else b, rfl, rfl, rfl, rfl, rfl, rfl⟩
  obtain ⟨e0, e1, e2, e3, e4, e5⟩ := hcs
  have hsta : STA (L, xs) s.heap.size cs s s.heap := by
    refine ⟨fun t ht => ?_, by rw [e5]; exact hX, by rw [e5]; exact hbl⟩
    match t, ht with
    | 0, _ => rw [e0]; exact a0
    | 1, _ => rw [e1]; exact a1
    | 2, _ => rw [e2]; exact a2
    | 3, _ => rw [e3]; exact a3
    | 4, _ => rw [e4]; exact a4
    | n + 5, h => exact absurd h (by omega)
  have C : Cx (L, xs) p room_1 s m #[Value.ref b] meth c lawM D s.heap.size cy cs 0 := ⟨hx, hb, hr, hml, hown, hgw, hlocks, ng_in hts hgv, hK, fun q => absurd q (by decide), by decide, by decide, rfl, hsta, ck221, stok_law⟩
  obtain ⟨h', ⟨-, -, R3⟩, hc, hsl⟩ := hrun
  have G := R3 p l e room_1 s m #[Value.ref b] below meth c D s.heap.size cy cs 0 0 (lw_Z below #[Value.ref b] s) C (by rw [Nat.zero_add]; exact hc) (by rw [Nat.zero_add]; exact hsl) (Nat.zero_le _) (by
    intro pc' lsA H1 locs1 mc ms hret hmc hms hw hS
    refine va_forget (fun q hq => hS.2.2 q hq) ?_
    refine W.widen (k := 600000) (n := 7302250) (by omega) (by omega) ?_
    exact lw_ret hx hb hr hlocks hret.1)
  have hn0 : wl s.heap.size cy hp0 = [] := rfl
  have hw0 : HW D s.heap.size cy hp0 s.heap := ⟨fun k q h => by rw [hn0] at h; simp at h, fun _ _ => rfl⟩
  rw [lg_entry_eq]
  have hl := lvh_entry (b := s.heap.size) (cs := cs) (as := [.retAddr 5]) (n := 4) (by decide)
  have ev : ([Value.retAddr 5].map (cnv s.heap.size cs)) = [Value.ref b] := by
    show [Value.ref (cs 5)] = _
    rw [e5]
  rw [ev] at hl
  exact G _ s.heap [] 0 0 rfl rfl hw0 va_S.rf hl
end
section
/-! The constructors, and fill. -/
theorem zK_nw {h : Hp} {kd n a : Nat} (ha : a ≤ zc h) : zK (nwC h kd n) a = zK h a := va_up_ne _ _ (by omega)
theorem kn {h : Hp} {kd n a b : Nat} (ha : a ≤ zc h) (k : kin b (zK h a) = true) : kin b (zK (nwC h kd n) a) = true := by rw [zK_nw ha]; exact k
theorem zc_nwC (h : Hp) (kd n : Nat) : zc (nwC h kd n) = zc h + 1 := rfl
theorem zc_upA (h : Hp) (a j v : Nat) : zc (upA h a j v) = zc h := rfl
theorem zc_upI (h : Hp) (a j : Nat) (v : Int32) : zc (upI h a j v) = zc h := rfl
theorem zK_upA (h : Hp) (a j v : Nat) : zK (upA h a j v) = zK h := rfl
theorem zK_upI (h : Hp) (a j : Nat) (v : Int32) : zK (upI h a j v) = zK h := rfl
theorem cc_of {sc : Nat × (Nat → Int32)} {k : Nat} {as : List Value} {h : Hp} {r : Option Value} {h' : Hp} (n : Nat) (h1 : decide (k < 221) = true) (h2 : decide (cats as ≤ mL (mro k)) = true) (hb : bk sc [] r h' (fun pc ls st h => Rn sc (mtk k) pc ls st h r h') (mtk k) n 0 (enL (mL (mro k)) as) [] h) : Cc sc k as h r h' := ⟨of_decide_eq_true h1, of_decide_eq_true h2, bk_sound n _ _ _ _ hb⟩
theorem cc_cut {sc : Nat × (Nat → Int32)} {k : Nat} {as : List Value} {h : Hp} {r : Option Value} {h' : Hp} (cuts : List Nat) (n : Nat) (h1 : decide (k < 221) = true) (h2 : decide (cats as ≤ mL (mro k)) = true) (hb : bk sc cuts r h' (fun pc ls st h => Rn sc (mtk k) pc ls st h r h') (mtk k) n 0 (enL (mL (mro k)) as) [] h) : Cc sc k as h r h' := ⟨of_decide_eq_true h1, of_decide_eq_true h2, bk_sound n _ _ _ _ hb⟩
def iRow (h : Hp) (a : Nat) : Hp := upA (nwC (upI (upI h a 0 (-9)) a 1 0) 12 60) a 2 (zc h + 1)
theorem c_Row_init {sc : Nat × (Nat → Int32)} {h : Hp} {a : Nat} (h0 : ¬ a = 0) (ha : a ≤ zc h) (hk : zK h a = 5) : Cc sc 45 [.ref a] h none (iRow h a) := by
  have k0 : kin 5 (zK h a) = true := by rw [hk]; rfl
  refine cc_of 40 rfl rfl ?_
  refine And.intro ⟨rfl, h0⟩ ?_
  refine And.intro k0 ?_
  refine And.intro k0 ?_
  refine And.intro ⟨by decide, by decide⟩ ?_
  refine And.intro (kn ha k0) ?_
  exact ⟨trivial, rfl, rfl⟩
def iTrace (h : Hp) (a : Nat) : Hp := upI h a 0 0
theorem c_Trace_init {sc : Nat × (Nat → Int32)} {h : Hp} {a : Nat} (h0 : ¬ a = 0) (hk : zK h a = 7) : Cc sc 63 [.ref a] h none (iTrace h a) := by
  have k0 : kin 7 (zK h a) = true := by rw [hk]; rfl
  refine cc_of 40 rfl rfl ?_
  refine And.intro ⟨rfl, h0⟩ ?_
  refine And.intro k0 ?_
  exact ⟨trivial, rfl, rfl⟩
def iReader (h : Hp) (a : Nat) : Hp := upA (nwC (upA (nwC (upI (upI (upI (upI (upI (upI (upI (upA (h) a 0 0) a 1 (0)) a 2 (0)) a 3 (0)) a 4 (0)) a 5 (0)) a 6 (0)) a 7 (0)) 12 15) a 8 (zc h + 1)) 12 5) a 9 (zc h + 2)
theorem c_Reader_init {sc : Nat × (Nat → Int32)} {h : Hp} {a : Nat} (h0 : ¬ a = 0) (ha : a ≤ zc h) (hk : zK h a = 6) : Cc sc 51 [.ref a] h none (iReader h a) := by
  have k0 : kin 6 (zK h a) = true := by rw [hk]; rfl
  refine cc_of 100 rfl rfl ?_
  refine And.intro ⟨rfl, h0⟩ ?_
  refine And.intro (by repeat (first | exact k0 | ((try simp only [zK_upA, zK_upI]); refine kn (by first | exact ha | (simp only [zc_nwC, zc_upA, zc_upI]; omega)) ?_))) ?_
  refine And.intro (by repeat (first | exact k0 | ((try simp only [zK_upA, zK_upI]); refine kn (by first | exact ha | (simp only [zc_nwC, zc_upA, zc_upI]; omega)) ?_))) ?_
  refine And.intro (by repeat (first | exact k0 | ((try simp only [zK_upA, zK_upI]); refine kn (by first | exact ha | (simp only [zc_nwC, zc_upA, zc_upI]; omega)) ?_))) ?_
  refine And.intro (by repeat (first | exact k0 | ((try simp only [zK_upA, zK_upI]); refine kn (by first | exact ha | (simp only [zc_nwC, zc_upA, zc_upI]; omega)) ?_))) ?_
  refine And.intro (by repeat (first | exact k0 | ((try simp only [zK_upA, zK_upI]); refine kn (by first | exact ha | (simp only [zc_nwC, zc_upA, zc_upI]; omega)) ?_))) ?_
  refine And.intro (by repeat (first | exact k0 | ((try simp only [zK_upA, zK_upI]); refine kn (by first | exact ha | (simp only [zc_nwC, zc_upA, zc_upI]; omega)) ?_))) ?_
  refine And.intro (by repeat (first | exact k0 | ((try simp only [zK_upA, zK_upI]); refine kn (by first | exact ha | (simp only [zc_nwC, zc_upA, zc_upI]; omega)) ?_))) ?_
  refine And.intro (by repeat (first | exact k0 | ((try simp only [zK_upA, zK_upI]); refine kn (by first | exact ha | (simp only [zc_nwC, zc_upA, zc_upI]; omega)) ?_))) ?_
  refine And.intro ⟨by decide, by decide⟩ ?_
  refine And.intro (by repeat (first | exact k0 | ((try simp only [zK_upA, zK_upI]); refine kn (by first | exact ha | (simp only [zc_nwC, zc_upA, zc_upI]; omega)) ?_))) ?_
  refine And.intro ⟨by decide, by decide⟩ ?_
  refine And.intro (by repeat (first | exact k0 | ((try simp only [zK_upA, zK_upI]); refine kn (by first | exact ha | (simp only [zc_nwC, zc_upA, zc_upI]; omega)) ?_))) ?_
  exact ⟨trivial, rfl, rfl⟩
def iOutlook (h : Hp) (a : Nat) : Hp := upA (nwC (upA (nwC (upA (nwC (upA (nwC (upA (nwC (upA (nwC (upA (nwC (upA (nwC (upI (upI (upI (upI (upI (upA (h) a 0 0) a 1 (0)) a 2 (0)) a 3 (0)) a 4 (0)) a 5 (0)) 12 3) a 6 (zc h + 1)) 12 3) a 7 (zc h + 2)) 12 216) a 8 (zc h + 3)) 13 216) a 9 (zc h + 4)) 12 216) a 10 (zc h + 5)) 13 216) a 11 (zc h + 6)) 13 216) a 12 (zc h + 7)) 13 5) a 13 (zc h + 8)
theorem c_Outlook_init {sc : Nat × (Nat → Int32)} {h : Hp} {a : Nat} (h0 : ¬ a = 0) (ha : a ≤ zc h) (hk : zK h a = 3) : Cc sc 17 [.ref a] h none (iOutlook h a) := by
  have k0 : kin 3 (zK h a) = true := by rw [hk]; rfl
  refine cc_of 100 rfl rfl ?_
  refine And.intro ⟨rfl, h0⟩ ?_
  refine And.intro (by repeat (first | exact k0 | ((try simp only [zK_upA, zK_upI]); refine kn (by first | exact ha | (simp only [zc_nwC, zc_upA, zc_upI]; omega)) ?_))) ?_
  refine And.intro (by repeat (first | exact k0 | ((try simp only [zK_upA, zK_upI]); refine kn (by first | exact ha | (simp only [zc_nwC, zc_upA, zc_upI]; omega)) ?_))) ?_
  refine And.intro (by repeat (first | exact k0 | ((try simp only [zK_upA, zK_upI]); refine kn (by first | exact ha | (simp only [zc_nwC, zc_upA, zc_upI]; omega)) ?_))) ?_
  refine And.intro (by repeat (first | exact k0 | ((try simp only [zK_upA, zK_upI]); refine kn (by first | exact ha | (simp only [zc_nwC, zc_upA, zc_upI]; omega)) ?_))) ?_
  refine And.intro (by repeat (first | exact k0 | ((try simp only [zK_upA, zK_upI]); refine kn (by first | exact ha | (simp only [zc_nwC, zc_upA, zc_upI]; omega)) ?_))) ?_
  refine And.intro (by repeat (first | exact k0 | ((try simp only [zK_upA, zK_upI]); refine kn (by first | exact ha | (simp only [zc_nwC, zc_upA, zc_upI]; omega)) ?_))) ?_
  refine And.intro ⟨by decide, by decide⟩ ?_
  refine And.intro (by repeat (first | exact k0 | ((try simp only [zK_upA, zK_upI]); refine kn (by first | exact ha | (simp only [zc_nwC, zc_upA, zc_upI]; omega)) ?_))) ?_
  refine And.intro ⟨by decide, by decide⟩ ?_
  refine And.intro (by repeat (first | exact k0 | ((try simp only [zK_upA, zK_upI]); refine kn (by first | exact ha | (simp only [zc_nwC, zc_upA, zc_upI]; omega)) ?_))) ?_
  refine And.intro ⟨by decide, by decide⟩ ?_
  refine And.intro (by repeat (first | exact k0 | ((try simp only [zK_upA, zK_upI]); refine kn (by first | exact ha | (simp only [zc_nwC, zc_upA, zc_upI]; omega)) ?_))) ?_
  refine And.intro ⟨by decide, by decide⟩ ?_
  refine And.intro (by repeat (first | exact k0 | ((try simp only [zK_upA, zK_upI]); refine kn (by first | exact ha | (simp only [zc_nwC, zc_upA, zc_upI]; omega)) ?_))) ?_
  refine And.intro ⟨by decide, by decide⟩ ?_
  refine And.intro (by repeat (first | exact k0 | ((try simp only [zK_upA, zK_upI]); refine kn (by first | exact ha | (simp only [zc_nwC, zc_upA, zc_upI]; omega)) ?_))) ?_
  refine And.intro ⟨by decide, by decide⟩ ?_
  refine And.intro (by repeat (first | exact k0 | ((try simp only [zK_upA, zK_upI]); refine kn (by first | exact ha | (simp only [zc_nwC, zc_upA, zc_upI]; omega)) ?_))) ?_
  refine And.intro ⟨by decide, by decide⟩ ?_
  refine And.intro (by repeat (first | exact k0 | ((try simp only [zK_upA, zK_upI]); refine kn (by first | exact ha | (simp only [zc_nwC, zc_upA, zc_upI]; omega)) ?_))) ?_
  refine And.intro ⟨by decide, by decide⟩ ?_
  refine And.intro (by repeat (first | exact k0 | ((try simp only [zK_upA, zK_upI]); refine kn (by first | exact ha | (simp only [zc_nwC, zc_upA, zc_upI]; omega)) ?_))) ?_
  exact ⟨trivial, rfl, rfl⟩
def iWay (h : Hp) (a : Nat) : Hp := upA (nwC (upA (nwC (upA (nwC (upA (nwC (upA (nwC (upA (nwC (upA (nwC (upA (nwC (upI (upI (upA (upA (nwC (upI (upI (upI (upI (h) a 0 (0)) a 1 (0)) a 2 (0)) a 3 (0)) 12 12) a 4 (zc h + 1)) a 5 0) a 6 (0)) a 7 (0)) 12 12) a 8 (zc h + 2)) 13 144) a 9 (zc h + 3)) 13 13) a 10 (zc h + 4)) 13 13) a 11 (zc h + 5)) 13 13) a 12 (zc h + 6)) 12 13) a 13 (zc h + 7)) 12 13) a 14 (zc h + 8)) 14 13) a 15 (zc h + 9)
theorem c_Way_init {sc : Nat × (Nat → Int32)} {h : Hp} {a : Nat} (h0 : ¬ a = 0) (ha : a ≤ zc h) (hk : zK h a = 8) : Cc sc 65 [.ref a] h none (iWay h a) := by
  have k0 : kin 8 (zK h a) = true := by rw [hk]; rfl
  refine cc_of 100 rfl rfl ?_
  refine And.intro ⟨rfl, h0⟩ ?_
  refine And.intro (by repeat (first | exact k0 | ((try simp only [zK_upA, zK_upI]); refine kn (by first | exact ha | (simp only [zc_nwC, zc_upA, zc_upI]; omega)) ?_))) ?_
  refine And.intro (by repeat (first | exact k0 | ((try simp only [zK_upA, zK_upI]); refine kn (by first | exact ha | (simp only [zc_nwC, zc_upA, zc_upI]; omega)) ?_))) ?_
  refine And.intro (by repeat (first | exact k0 | ((try simp only [zK_upA, zK_upI]); refine kn (by first | exact ha | (simp only [zc_nwC, zc_upA, zc_upI]; omega)) ?_))) ?_
  refine And.intro (by repeat (first | exact k0 | ((try simp only [zK_upA, zK_upI]); refine kn (by first | exact ha | (simp only [zc_nwC, zc_upA, zc_upI]; omega)) ?_))) ?_
  refine And.intro ⟨by decide, by decide⟩ ?_
  refine And.intro (by repeat (first | exact k0 | ((try simp only [zK_upA, zK_upI]); refine kn (by first | exact ha | (simp only [zc_nwC, zc_upA, zc_upI]; omega)) ?_))) ?_
  refine And.intro (by repeat (first | exact k0 | ((try simp only [zK_upA, zK_upI]); refine kn (by first | exact ha | (simp only [zc_nwC, zc_upA, zc_upI]; omega)) ?_))) ?_
  refine And.intro (by repeat (first | exact k0 | ((try simp only [zK_upA, zK_upI]); refine kn (by first | exact ha | (simp only [zc_nwC, zc_upA, zc_upI]; omega)) ?_))) ?_
  refine And.intro (by repeat (first | exact k0 | ((try simp only [zK_upA, zK_upI]); refine kn (by first | exact ha | (simp only [zc_nwC, zc_upA, zc_upI]; omega)) ?_))) ?_
  refine And.intro ⟨by decide, by decide⟩ ?_
  refine And.intro (by repeat (first | exact k0 | ((try simp only [zK_upA, zK_upI]); refine kn (by first | exact ha | (simp only [zc_nwC, zc_upA, zc_upI]; omega)) ?_))) ?_
  refine And.intro ⟨by decide, by decide⟩ ?_
  refine And.intro (by repeat (first | exact k0 | ((try simp only [zK_upA, zK_upI]); refine kn (by first | exact ha | (simp only [zc_nwC, zc_upA, zc_upI]; omega)) ?_))) ?_
  refine And.intro ⟨by decide, by decide⟩ ?_
  refine And.intro (by repeat (first | exact k0 | ((try simp only [zK_upA, zK_upI]); refine kn (by first | exact ha | (simp only [zc_nwC, zc_upA, zc_upI]; omega)) ?_))) ?_
  refine And.intro ⟨by decide, by decide⟩ ?_
  refine And.intro (by repeat (first | exact k0 | ((try simp only [zK_upA, zK_upI]); refine kn (by first | exact ha | (simp only [zc_nwC, zc_upA, zc_upI]; omega)) ?_))) ?_
  refine And.intro ⟨by decide, by decide⟩ ?_
  refine And.intro (by repeat (first | exact k0 | ((try simp only [zK_upA, zK_upI]); refine kn (by first | exact ha | (simp only [zc_nwC, zc_upA, zc_upI]; omega)) ?_))) ?_
  refine And.intro ⟨by decide, by decide⟩ ?_
  refine And.intro (by repeat (first | exact k0 | ((try simp only [zK_upA, zK_upI]); refine kn (by first | exact ha | (simp only [zc_nwC, zc_upA, zc_upI]; omega)) ?_))) ?_
  refine And.intro ⟨by decide, by decide⟩ ?_
  refine And.intro (by repeat (first | exact k0 | ((try simp only [zK_upA, zK_upI]); refine kn (by first | exact ha | (simp only [zc_nwC, zc_upA, zc_upI]; omega)) ?_))) ?_
  refine And.intro ⟨by decide, by decide⟩ ?_
  refine And.intro (by repeat (first | exact k0 | ((try simp only [zK_upA, zK_upI]); refine kn (by first | exact ha | (simp only [zc_nwC, zc_upA, zc_upI]; omega)) ?_))) ?_
  exact ⟨trivial, rfl, rfl⟩
end
section
/-! Arrays.fill. -/
theorem ofI1 : Int32.ofInt 1 = 1 := by decide
theorem up_up {α : Type} (f : Nat → α) (k : Nat) (v w : α) : va_up (va_up f k v) k w = va_up f k w := by
  funext j
  unfold va_up
  split <;> rfl
theorem up_same {α : Type} (f : Nat → α) (k : Nat) : va_up f k (f k) = f := by
  funext j
  unfold va_up
  split
  · rename_i e
    rw [e]
  · rfl
theorem upI_rwI (h : Hp) (a j : Nat) (f : Nat → Int32) (v : Int32) : upI (rwI h a f) a j v = rwI h a (upd f j v) := by
  show (h.1, zK h, zN h, va_up (va_up (zI h) a f) a (upd (va_up (zI h) a f a) j v), zJ h, zA h) = (h.1, zK h, zN h, va_up (zI h) a (upd f j v), zJ h, zA h)
  rw [va_up_self, up_up]
theorem upJ_rwJ (h : Hp) (a j : Nat) (f : Nat → Int64) (v : Int64) : upJ (rwJ h a f) a j v = rwJ h a (vp_updL f j v) := by
  show (h.1, zK h, zN h, zI h, va_up (va_up (zJ h) a f) a (vp_updL (va_up (zJ h) a f a) j v), zA h) = (h.1, zK h, zN h, zI h, va_up (zJ h) a (vp_updL f j v), zA h)
  rw [va_up_self, up_up]
theorem rwI_id (h : Hp) (a : Nat) : rwI h a (zI h a) = h := by
  show (h.1, zK h, zN h, va_up (zI h) a (zI h a), zJ h, zA h) = h
  rw [up_same]
theorem rwJ_id (h : Hp) (a : Nat) : rwJ h a (zJ h a) = h := by
  show (h.1, zK h, zN h, zI h, va_up (zJ h) a (zJ h a), zA h) = h
  rw [up_same]
theorem inB_nI {i n : Nat} (h : i < n) (hn : n < 2 ^ 31) : inB (nI i) n = true := inB_iff.mpr (vp_in_nI h hn)
def flI (h : Hp) (a : Nat) (v : Int32) : Hp := rwI h a (fun j => if j < zN h a then v else zI h a j)
def flJ (h : Hp) (a : Nat) (v : Int64) : Hp := rwJ h a (fun j => if j < zN h a then v else zJ h a j)
theorem fillI_loop {sc : Nat × (Nat → Int32)} {h : Hp} {a : Nat} {v : Int32} (hk : zK h a = 12) (hN : zN h a < 2 ^ 31) : ∀ (d i : Nat) (x : Int32) (f : Nat → Int32), i + d = zN h a → x = nI i → (∀ j, f j = if j < i then v else zI h a j) → Rn sc (mtk 2) 5 [some (.ref a), some (.int v), some (.int x), some (.int (nI (zN h a)))] [] (rwI h a f) none (flI h a v) := by
  intro d
  induction d with
  | zero =>
    intro i x f hi hx hf
    refine bk_sound (cuts := []) 10 _ _ _ _ ?_
    refine br_t ?_ ?_
    · rw [hx, show i = zN h a by omega]
      exact Int32.le_refl _
    · refine ⟨trivial, rfl, ?_⟩
      unfold flI
      congr 1
      funext j
      rw [hf j, show i = zN h a by omega]
  | succ d ih =>
    intro i x f hi hx hf
    refine bk_sound (cuts := [5]) 20 _ _ _ _ ?_
    refine br_f ?_ ?_
    · rw [hx]
      exact nI_ge (by omega) hN
    · refine And.intro ⟨hk, ?_⟩ ?_
      · rw [hx]
        exact inB_nI (n := zN h a) (by omega) hN
      · show Rn sc (mtk 2) 5 [some (.ref a), some (.int v), some (.int (x + Int32.ofInt 1)), some (.int (nI (zN h a)))] [] (upI (rwI h a f) a x.toNatClampNeg v) none (flI h a v)
        rw [upI_rwI]
        refine ih (i + 1) _ _ (by omega) (by rw [hx, ofI1, nI_1]) (fun j => ?_)
        rw [hx, nI_clamp (by omega)]
        unfold upd
        rw [hf j]
        by_cases e1 : j = i
        · rw [if_pos e1, if_pos (by omega)]
        · rw [if_neg e1]
          by_cases e2 : j < i
          · rw [if_pos e2, if_pos (by omega)]
          · rw [if_neg e2, if_neg (by omega)]
theorem c_fillI {sc : Nat × (Nat → Int32)} {h : Hp} {a : Nat} {v : Int32} (hk : zK h a = 12) (hN : zN h a < 2 ^ 31) : Cc sc 2 [.ref a, .int v] h none (flI h a v) := by
  refine cc_cut [5] 10 rfl rfl ?_
  refine And.intro (Or.inl hk) ?_
  have := fillI_loop (sc := sc) (v := v) hk hN (zN h a) 0 0 (zI h a) (by omega) nI_0.symm (fun j => by rw [if_neg (by omega)])
  rw [rwI_id] at this
  exact this
theorem fillJ_loop {sc : Nat × (Nat → Int32)} {h : Hp} {a : Nat} {v : Int64} (hk : zK h a = 13) (hN : zN h a < 2 ^ 31) : ∀ (d i : Nat) (x : Int32) (f : Nat → Int64), i + d = zN h a → x = nI i → (∀ j, f j = if j < i then v else zJ h a j) → Rn sc (mtk 1) 6 [some (.ref a), some (.long v), none, some (.int x), some (.int (nI (zN h a)))] [] (rwJ h a f) none (flJ h a v) := by
  intro d
  induction d with
  | zero =>
    intro i x f hi hx hf
    refine bk_sound (cuts := []) 10 _ _ _ _ ?_
    refine br_t ?_ ?_
    · rw [hx, show i = zN h a by omega]
      exact Int32.le_refl _
    · refine ⟨trivial, rfl, ?_⟩
      unfold flJ
      congr 1
      funext j
      rw [hf j, show i = zN h a by omega]
  | succ d ih =>
    intro i x f hi hx hf
    refine bk_sound (cuts := [6]) 20 _ _ _ _ ?_
    refine br_f ?_ ?_
    · rw [hx]
      exact nI_ge (by omega) hN
    · refine And.intro ⟨hk, ?_⟩ ?_
      · rw [hx]
        exact inB_nI (n := zN h a) (by omega) hN
      · show Rn sc (mtk 1) 6 [some (.ref a), some (.long v), none, some (.int (x + Int32.ofInt 1)), some (.int (nI (zN h a)))] [] (upJ (rwJ h a f) a x.toNatClampNeg v) none (flJ h a v)
        rw [upJ_rwJ]
        refine ih (i + 1) _ _ (by omega) (by rw [hx, ofI1, nI_1]) (fun j => ?_)
        rw [hx, nI_clamp (by omega)]
        unfold vp_updL
        rw [hf j]
        by_cases e1 : j = i
        · rw [if_pos e1, if_pos (by omega)]
        · rw [if_neg e1]
          by_cases e2 : j < i
          · rw [if_pos e2, if_pos (by omega)]
          · rw [if_neg e2, if_neg (by omega)]
theorem c_fillJ {sc : Nat × (Nat → Int32)} {h : Hp} {a : Nat} {v : Int64} (hk : zK h a = 13) (hN : zN h a < 2 ^ 31) : Cc sc 1 [.ref a, .long v] h none (flJ h a v) := by
  refine cc_cut [6] 10 rfl rfl ?_
  refine And.intro (Or.inr hk) ?_
  have := fillJ_loop (sc := sc) (v := v) hk hN (zN h a) 0 0 (zJ h a) (by omega) nI_0.symm (fun j => by rw [if_neg (by omega)])
  rw [rwJ_id] at this
  exact this
end
section
/-! The yard, the class and the model are made at the law's start: all numbers are known. -/
section
def f1 : Hp := nwC hp0 10 8
def f2 : Hp := upI (upA (nwC f1 15 3) 1 0 2) 1 1 0
def f3 : Hp := upA (iReader (nwC f2 6 10) 3) 1 2 3
def f4 : Hp := upA (iOutlook (nwC f3 3 14) 6) 1 3 6
def y0 : Hp := nwC f4 9 7
def y1 : Hp := upI (upA (nwC y0 16 12) 15 0 16) 15 1 0
def y2 : Hp := upI (upA (nwC y1 12 12) 15 2 17) 15 3 3
def y3 : Hp := upA (upI (upI (upI (nwC y2 12 3) 18 (0 : Int32).toNatClampNeg 2) 18 (1 : Int32).toNatClampNeg 2) 18 (2 : Int32).toNatClampNeg 2) 15 4 18
def y4 : Hp := upI (upA (iWay (nwC y3 8 16) 19) 15 5 19) 15 6 0
def y5 : Hp := flI y4 17 (-9)
def f5 : Hp := upA y5 1 4 15
def f6 : Hp := upA (nwC f5 17 4) 1 5 29
def f7 : Hp := upI (upA (iTrace (nwC f6 7 1) 30) 1 6 30) 1 7 0
def g0 : Hp := upA (iRow (nwC f7 5 3) 31) 29 ((0 : Int32)).toNatClampNeg 31
def g1 : Hp := upA (iRow (nwC g0 5 3) 33) 29 ((0 : Int32) + Int32.ofInt 1).toNatClampNeg 33
def g2 : Hp := upA (iRow (nwC g1 5 3) 35) 29 ((0 : Int32) + Int32.ofInt 1 + Int32.ofInt 1).toNatClampNeg 35
def g3 : Hp := upA (iRow (nwC g2 5 3) 37) 29 ((0 : Int32) + Int32.ofInt 1 + Int32.ofInt 1 + Int32.ofInt 1).toNatClampNeg 37
set_option maxRecDepth 100000 in
set_option maxHeartbeats 4000000 in
theorem c_Yard_made {sc : Nat × (Nat → Int32)} : Cc sc 78 [.ref 15] y0 none y5 := by
  refine cc_of 100 rfl rfl ?_
  refine And.intro ⟨rfl, by decide⟩ ?_
  refine And.intro ⟨by decide, by decide⟩ ?_
  refine And.intro rfl ?_
  refine And.intro rfl ?_
  refine And.intro ⟨by decide, by decide⟩ ?_
  refine And.intro rfl ?_
  refine And.intro rfl ?_
  refine And.intro ⟨by decide, by decide⟩ ?_
  refine And.intro ⟨rfl, rfl⟩ ?_
  refine And.intro ⟨rfl, rfl⟩ ?_
  refine And.intro ⟨rfl, rfl⟩ ?_
  refine And.intro rfl ?_
  refine And.intro ⟨rfl, by decide⟩ (And.intro rfl (Exists.intro none (Exists.intro (iWay (nwC y3 8 16) 19) (And.intro (c_Way_init (h := nwC y3 8 16) (a := 19) (by decide) (by decide) rfl) ?_))))
  refine And.intro rfl ?_
  refine And.intro ⟨rfl, Or.inl rfl⟩ ?_
  refine And.intro rfl ?_
  refine And.intro rfl (And.intro rfl (Exists.intro none (Exists.intro y5 (And.intro (c_fillI (h := y4) (a := 17) (v := -9) rfl (by decide)) ?_))))
  exact ⟨trivial, rfl, rfl⟩
set_option maxRecDepth 100000 in
set_option maxHeartbeats 4000000 in
theorem c_FL_made {sc : Nat × (Nat → Int32)} : Cc sc 90 [.ref 1] f1 none g3 := by
  refine cc_of 200 rfl rfl ?_
  refine And.intro ⟨rfl, by decide⟩ ?_
  refine And.intro ⟨by decide, by decide⟩ ?_
  refine And.intro rfl ?_
  refine And.intro rfl ?_
  refine And.intro ⟨rfl, by decide⟩ (And.intro rfl (Exists.intro none (Exists.intro (iReader (nwC f2 6 10) 3) (And.intro (c_Reader_init (h := nwC f2 6 10) (a := 3) (by decide) (by decide) rfl) ?_))))
  refine And.intro rfl ?_
  refine And.intro ⟨rfl, by decide⟩ (And.intro rfl (Exists.intro none (Exists.intro (iOutlook (nwC f3 3 14) 6) (And.intro (c_Outlook_init (h := nwC f3 3 14) (a := 6) (by decide) (by decide) rfl) ?_))))
  refine And.intro rfl ?_
  refine And.intro ⟨rfl, by decide⟩ (And.intro rfl (Exists.intro none (Exists.intro y5 (And.intro c_Yard_made ?_))))
  refine And.intro rfl ?_
  refine And.intro ⟨by decide, by decide⟩ ?_
  refine And.intro rfl ?_
  refine And.intro ⟨rfl, by decide⟩ (And.intro rfl (Exists.intro none (Exists.intro (iTrace (nwC f6 7 1) 30) (And.intro (c_Trace_init (h := nwC f6 7 1) (a := 30) (by decide) rfl) ?_))))
  refine And.intro rfl ?_
  refine And.intro rfl ?_
  refine br_f (by decide) ?_
  refine And.intro rfl ?_
  refine And.intro ⟨rfl, by decide⟩ (And.intro rfl (Exists.intro none (Exists.intro (iRow (nwC f7 5 3) 31) (And.intro (c_Row_init (h := nwC f7 5 3) (a := 31) (by decide) (by decide) rfl) ?_))))
  refine And.intro ⟨rfl, Or.inr (Or.inr ⟨rfl, rfl⟩)⟩ ?_
  refine br_f (by decide) ?_
  refine And.intro rfl ?_
  refine And.intro ⟨rfl, by decide⟩ (And.intro rfl (Exists.intro none (Exists.intro (iRow (nwC g0 5 3) 33) (And.intro (c_Row_init (h := nwC g0 5 3) (a := 33) (by decide) (by decide) rfl) ?_))))
  refine And.intro ⟨rfl, Or.inr (Or.inr ⟨rfl, rfl⟩)⟩ ?_
  refine br_f (by decide) ?_
  refine And.intro rfl ?_
  refine And.intro ⟨rfl, by decide⟩ (And.intro rfl (Exists.intro none (Exists.intro (iRow (nwC g1 5 3) 35) (And.intro (c_Row_init (h := nwC g1 5 3) (a := 35) (by decide) (by decide) rfl) ?_))))
  refine And.intro ⟨rfl, Or.inr (Or.inr ⟨rfl, rfl⟩)⟩ ?_
  refine br_f (by decide) ?_
  refine And.intro rfl ?_
  refine And.intro ⟨rfl, by decide⟩ (And.intro rfl (Exists.intro none (Exists.intro (iRow (nwC g2 5 3) 37) (And.intro (c_Row_init (h := nwC g2 5 3) (a := 37) (by decide) (by decide) rfl) ?_))))
  refine And.intro ⟨rfl, Or.inr (Or.inr ⟨rfl, rfl⟩)⟩ ?_
  refine br_t (by decide) ?_
  exact ⟨trivial, rfl, rfl⟩
def m0 : Hp := nwC g3 11 38
def ma0 : Hp := upA (nwC m0 12 3) 39 2 40
def ma1 : Hp := upA (nwC ma0 12 3) 39 3 41
def ma2 : Hp := upA (nwC ma1 12 3) 39 4 42
def ma3 : Hp := upA (nwC ma2 12 15) 39 5 43
def ma4 : Hp := upA (nwC ma3 12 45) 39 6 44
def ma5 : Hp := upA (nwC ma4 12 5) 39 12 45
def ma6 : Hp := upA (nwC ma5 12 15) 39 13 46
def ma7 : Hp := upA (nwC ma6 13 216) 39 14 47
def ma8 : Hp := upA (nwC ma7 13 216) 39 15 48
def ma9 : Hp := upA (nwC ma8 13 216) 39 16 49
def ma10 : Hp := upA (nwC ma9 13 216) 39 17 50
def ma11 : Hp := upA (nwC ma10 12 12) 39 19 51
def ma12 : Hp := upA (nwC ma11 12 12) 39 20 52
def ma13 : Hp := upA (nwC ma12 12 12) 39 21 53
def ma14 : Hp := upA (nwC ma13 14 12) 39 22 54
def ma15 : Hp := upA (nwC ma14 14 12) 39 23 55
def ma16 : Hp := upA (nwC ma15 12 12) 39 24 56
def ma17 : Hp := upA (nwC ma16 12 12) 39 25 57
def ma18 : Hp := upA (nwC ma17 12 3) 39 27 58
def ma19 : Hp := upA (nwC ma18 12 53248) 39 28 59
def ma20 : Hp := upA (nwC ma19 12 12) 39 30 60
def ma21 : Hp := upA (nwC ma20 12 4) 39 33 61
def ma22 : Hp := upA (nwC ma21 12 4) 39 34 62
def ma23 : Hp := upA (nwC ma22 12 240) 39 35 63
def ma24 : Hp := upA (nwC ma23 12 60) 39 36 64
def mb : Hp := upI ma24 39 26 3
def mc0 : Hp := upI mb 58 ((0 : Int32)).toNatClampNeg 2
def mc1 : Hp := upI mc0 58 ((0 : Int32) + Int32.ofInt 1).toNatClampNeg 2
def mc2 : Hp := upI mc1 58 ((0 : Int32) + Int32.ofInt 1 + Int32.ofInt 1).toNatClampNeg 2
def mc3 : Hp := upI mc2 57 ((0 : Int32)).toNatClampNeg (-9)
def mc4 : Hp := upI mc3 57 ((0 : Int32) + Int32.ofInt 1).toNatClampNeg (-9)
def mc5 : Hp := upI mc4 57 ((0 : Int32) + Int32.ofInt 1 + Int32.ofInt 1).toNatClampNeg (-9)
def mc6 : Hp := upI mc5 57 ((0 : Int32) + Int32.ofInt 1 + Int32.ofInt 1 + Int32.ofInt 1).toNatClampNeg (-9)
def mc7 : Hp := upI mc6 57 ((0 : Int32) + Int32.ofInt 1 + Int32.ofInt 1 + Int32.ofInt 1 + Int32.ofInt 1).toNatClampNeg (-9)
def mc8 : Hp := upI mc7 57 ((0 : Int32) + Int32.ofInt 1 + Int32.ofInt 1 + Int32.ofInt 1 + Int32.ofInt 1 + Int32.ofInt 1).toNatClampNeg (-9)
def mc9 : Hp := upI mc8 57 ((0 : Int32) + Int32.ofInt 1 + Int32.ofInt 1 + Int32.ofInt 1 + Int32.ofInt 1 + Int32.ofInt 1 + Int32.ofInt 1).toNatClampNeg (-9)
def mc10 : Hp := upI mc9 57 ((0 : Int32) + Int32.ofInt 1 + Int32.ofInt 1 + Int32.ofInt 1 + Int32.ofInt 1 + Int32.ofInt 1 + Int32.ofInt 1 + Int32.ofInt 1).toNatClampNeg (-9)
def mc11 : Hp := upI mc10 57 ((0 : Int32) + Int32.ofInt 1 + Int32.ofInt 1 + Int32.ofInt 1 + Int32.ofInt 1 + Int32.ofInt 1 + Int32.ofInt 1 + Int32.ofInt 1 + Int32.ofInt 1).toNatClampNeg (-9)
def mc12 : Hp := upI mc11 57 ((0 : Int32) + Int32.ofInt 1 + Int32.ofInt 1 + Int32.ofInt 1 + Int32.ofInt 1 + Int32.ofInt 1 + Int32.ofInt 1 + Int32.ofInt 1 + Int32.ofInt 1 + Int32.ofInt 1).toNatClampNeg (-9)
def mc13 : Hp := upI mc12 57 ((0 : Int32) + Int32.ofInt 1 + Int32.ofInt 1 + Int32.ofInt 1 + Int32.ofInt 1 + Int32.ofInt 1 + Int32.ofInt 1 + Int32.ofInt 1 + Int32.ofInt 1 + Int32.ofInt 1 + Int32.ofInt 1).toNatClampNeg (-9)
def mc14 : Hp := upI mc13 57 ((0 : Int32) + Int32.ofInt 1 + Int32.ofInt 1 + Int32.ofInt 1 + Int32.ofInt 1 + Int32.ofInt 1 + Int32.ofInt 1 + Int32.ofInt 1 + Int32.ofInt 1 + Int32.ofInt 1 + Int32.ofInt 1 + Int32.ofInt 1).toNatClampNeg (-9)
def mc15 : Hp := upI mc14 61 ((0 : Int32)).toNatClampNeg (-1)
def mc16 : Hp := upI mc15 61 ((0 : Int32) + Int32.ofInt 1).toNatClampNeg (-1)
def mc17 : Hp := upI mc16 61 ((0 : Int32) + Int32.ofInt 1 + Int32.ofInt 1).toNatClampNeg (-1)
def mc18 : Hp := upI mc17 61 ((0 : Int32) + Int32.ofInt 1 + Int32.ofInt 1 + Int32.ofInt 1).toNatClampNeg (-1)
def hI : Hp := mc18
set_option maxRecDepth 100000 in
set_option maxHeartbeats 8000000 in
theorem c_Model_made {sc : Nat × (Nat → Int32)} : Cc sc 138 [.ref 39] m0 none hI := by
  refine cc_of 600 rfl rfl ?_
  refine And.intro ⟨rfl, by decide⟩ ?_
  refine And.intro ⟨by decide, by decide⟩ ?_
  refine And.intro rfl ?_
  refine And.intro ⟨by decide, by decide⟩ ?_
  refine And.intro rfl ?_
  refine And.intro ⟨by decide, by decide⟩ ?_
  refine And.intro rfl ?_
  refine And.intro ⟨by decide, by decide⟩ ?_
  refine And.intro rfl ?_
  refine And.intro ⟨by decide, by decide⟩ ?_
  refine And.intro rfl ?_
  refine And.intro ⟨by decide, by decide⟩ ?_
  refine And.intro rfl ?_
  refine And.intro ⟨by decide, by decide⟩ ?_
  refine And.intro rfl ?_
  refine And.intro ⟨by decide, by decide⟩ ?_
  refine And.intro rfl ?_
  refine And.intro ⟨by decide, by decide⟩ ?_
  refine And.intro rfl ?_
  refine And.intro ⟨by decide, by decide⟩ ?_
  refine And.intro rfl ?_
  refine And.intro ⟨by decide, by decide⟩ ?_
  refine And.intro rfl ?_
  refine And.intro ⟨by decide, by decide⟩ ?_
  refine And.intro rfl ?_
  refine And.intro ⟨by decide, by decide⟩ ?_
  refine And.intro rfl ?_
  refine And.intro ⟨by decide, by decide⟩ ?_
  refine And.intro rfl ?_
  refine And.intro ⟨by decide, by decide⟩ ?_
  refine And.intro rfl ?_
  refine And.intro ⟨by decide, by decide⟩ ?_
  refine And.intro rfl ?_
  refine And.intro ⟨by decide, by decide⟩ ?_
  refine And.intro rfl ?_
  refine And.intro ⟨by decide, by decide⟩ ?_
  refine And.intro rfl ?_
  refine And.intro ⟨by decide, by decide⟩ ?_
  refine And.intro rfl ?_
  refine And.intro ⟨by decide, by decide⟩ ?_
  refine And.intro rfl ?_
  refine And.intro ⟨by decide, by decide⟩ ?_
  refine And.intro rfl ?_
  refine And.intro ⟨by decide, by decide⟩ ?_
  refine And.intro rfl ?_
  refine And.intro ⟨by decide, by decide⟩ ?_
  refine And.intro rfl ?_
  refine And.intro ⟨by decide, by decide⟩ ?_
  refine And.intro rfl ?_
  refine And.intro ⟨by decide, by decide⟩ ?_
  refine And.intro rfl ?_
  refine And.intro rfl ?_
  refine br_f (by decide) ?_
  refine And.intro rfl ?_
  refine And.intro ⟨rfl, rfl⟩ ?_
  refine br_f (by decide) ?_
  refine And.intro rfl ?_
  refine And.intro ⟨rfl, rfl⟩ ?_
  refine br_f (by decide) ?_
  refine And.intro rfl ?_
  refine And.intro ⟨rfl, rfl⟩ ?_
  refine br_t (by decide) ?_
  refine br_f (by decide) ?_
  refine And.intro rfl ?_
  refine And.intro ⟨rfl, rfl⟩ ?_
  refine br_f (by decide) ?_
  refine And.intro rfl ?_
  refine And.intro ⟨rfl, rfl⟩ ?_
  refine br_f (by decide) ?_
  refine And.intro rfl ?_
  refine And.intro ⟨rfl, rfl⟩ ?_
  refine br_f (by decide) ?_
  refine And.intro rfl ?_
  refine And.intro ⟨rfl, rfl⟩ ?_
  refine br_f (by decide) ?_
  refine And.intro rfl ?_
  refine And.intro ⟨rfl, rfl⟩ ?_
  refine br_f (by decide) ?_
  refine And.intro rfl ?_
  refine And.intro ⟨rfl, rfl⟩ ?_
  refine br_f (by decide) ?_
  refine And.intro rfl ?_
  refine And.intro ⟨rfl, rfl⟩ ?_
  refine br_f (by decide) ?_
  refine And.intro rfl ?_
  refine And.intro ⟨rfl, rfl⟩ ?_
  refine br_f (by decide) ?_
  refine And.intro rfl ?_
  refine And.intro ⟨rfl, rfl⟩ ?_
  refine br_f (by decide) ?_
  refine And.intro rfl ?_
  refine And.intro ⟨rfl, rfl⟩ ?_
  refine br_f (by decide) ?_
  refine And.intro rfl ?_
  refine And.intro ⟨rfl, rfl⟩ ?_
  refine br_f (by decide) ?_
  refine And.intro rfl ?_
  refine And.intro ⟨rfl, rfl⟩ ?_
  refine br_t (by decide) ?_
  refine br_f (by decide) ?_
  refine And.intro rfl ?_
  refine And.intro ⟨rfl, rfl⟩ ?_
  refine br_f (by decide) ?_
  refine And.intro rfl ?_
  refine And.intro ⟨rfl, rfl⟩ ?_
  refine br_f (by decide) ?_
  refine And.intro rfl ?_
  refine And.intro ⟨rfl, rfl⟩ ?_
  refine br_f (by decide) ?_
  refine And.intro rfl ?_
  refine And.intro ⟨rfl, rfl⟩ ?_
  refine br_t (by decide) ?_
  exact ⟨trivial, rfl, rfl⟩
set_option maxRecDepth 100000 in
set_option maxHeartbeats 8000000 in
theorem law_pro {sc : Nat × (Nat → Int32)} {r : Option Value} {h' : Hp} (k : Rn sc lawM 18 [some (.retAddr 5), some (.ref 1), some (.ref 39), some (.int 0)] [] hI r h') : Rn sc lawM 0 (enL 4 [.retAddr 5]) [] hp0 r h' := by
  refine bk_sound (cuts := [18]) 30 _ _ _ _ ?_
  refine And.intro ⟨rfl, by decide⟩ (And.intro rfl (Exists.intro none (Exists.intro g3 (And.intro c_FL_made ?_))))
  refine And.intro ⟨rfl, by decide⟩ (And.intro rfl (Exists.intro none (Exists.intro hI (And.intro c_Model_made ?_))))
  exact k
end
end
section
/-! The shape of what the law makes first: cells 1 .. 64. Of these the class has 1 .. 38, the model 39 .. 64. -/
def K0s : List Nat := [99, 10, 15, 6, 12, 12, 3, 12, 12, 12, 13, 12, 13, 13, 13, 9, 16, 12, 12, 8, 12, 12, 13, 13, 13, 13, 12, 12, 14, 17, 7, 5, 12, 5, 12, 5, 12, 5, 12, 11, 12, 12, 12, 12, 12, 12, 12, 13, 13, 13, 13, 12, 12, 12, 14, 14, 12, 12, 12, 12, 12, 12, 12, 12, 12]
def N0s : List Nat := [0, 8, 3, 10, 15, 5, 14, 3, 3, 216, 216, 216, 216, 216, 5, 7, 12, 12, 3, 16, 12, 12, 144, 13, 13, 13, 13, 13, 13, 4, 1, 3, 60, 3, 60, 3, 60, 3, 60, 38, 3, 3, 3, 15, 45, 5, 15, 216, 216, 216, 216, 12, 12, 12, 12, 12, 12, 12, 3, 53248, 12, 4, 4, 240, 60]
def FAs : List (Nat × Nat × Nat) := [(1, 0, 2), (1, 2, 3), (1, 3, 6), (1, 4, 15), (1, 5, 29), (1, 6, 30), (3, 8, 4), (3, 9, 5), (6, 6, 7), (6, 7, 8), (6, 8, 9), (6, 9, 10), (6, 10, 11), (6, 11, 12), (6, 12, 13), (6, 13, 14), (15, 0, 16), (15, 2, 17), (15, 4, 18), (15, 5, 19), (19, 4, 20), (19, 8, 21), (19, 9, 22), (19, 10, 23), (19, 11, 24), (19, 12, 25), (19, 13, 26), (19, 14, 27), (19, 15, 28), (29, 0, 31), (29, 1, 33), (29, 2, 35), (29, 3, 37), (31, 2, 32), (33, 2, 34), (35, 2, 36), (37, 2, 38), (39, 2, 40), (39, 3, 41), (39, 4, 42), (39, 5, 43), (39, 6, 44), (39, 12, 45), (39, 13, 46), (39, 14, 47), (39, 15, 48), (39, 16, 49), (39, 17, 50), (39, 19, 51), (39, 20, 52), (39, 21, 53), (39, 22, 54), (39, 23, 55), (39, 24, 56), (39, 25, 57), (39, 27, 58), (39, 28, 59), (39, 30, 60), (39, 33, 61), (39, 34, 62), (39, 35, 63), (39, 36, 64)]
def K0 (a : Nat) : Nat := K0s.getD a 99
def N0 (a : Nat) : Nat := N0s.getD a 0
def fa (a j : Nat) : Option (Nat × Nat × Nat) := FAs.find? (fun q => q.1 == a && q.2.1 == j)
def Shp (h : Hp) : Prop := (∀ a, a < 65 → zK h a = K0 a ∧ zN h a = N0 a) ∧ ∀ q ∈ FAs, zA h q.1 q.2.1 = q.2.2
/-- the same heap, its first cells' kinds, lengths and rows by computation -/
def nh (h : Hp) : Hp := (h.1, fun a => if a < 65 then K0 a else zK h a, fun a => if a < 65 then N0 a else zN h a, zI h, zJ h, fun a j => if a < 65 then (match fa a j with
  | some q => q.2.2
  | none => zA h a j) else zA h a j)
theorem nh_eq {h : Hp} (hs : Shp h) : nh h = h := by
  have e1 : (fun a => if a < 65 then K0 a else zK h a) = zK h := by
    funext a
    split
    · rename_i q
      exact ((hs.1 a q).1).symm
    · rfl
  have e2 : (fun a => if a < 65 then N0 a else zN h a) = zN h := by
    funext a
    split
    · rename_i q
      exact ((hs.1 a q).2).symm
    · rfl
  have e3 : (fun a j => if a < 65 then (match fa a j with
  | some q => q.2.2
  | none => zA h a j) else zA h a j) = zA h := by
    funext a j
    split
    · split
      · rename_i q hq
        have h1 := List.find?_some hq
        have h2 := hs.2 q (List.mem_of_find?_eq_some hq)
        simp only [Bool.and_eq_true, beq_iff_eq] at h1
        rw [← h1.1, ← h1.2, h2]
      · rfl
    · rfl
  unfold nh
  rw [e1, e2, e3]
theorem nh_K {h : Hp} {a : Nat} (ha : 65 ≤ a) : zK (nh h) a = zK h a := if_neg (by omega)
theorem nh_N {h : Hp} {a : Nat} (ha : 65 ≤ a) : zN (nh h) a = zN h a := if_neg (by omega)
theorem nh_A {h : Hp} {a j : Nat} (ha : 65 ≤ a) : zA (nh h) a j = zA h a j := if_neg (by omega)
/-- by the same heap in its plain form -/
theorem cc_nh {sc : Nat × (Nat → Int32)} {k : Nat} {as : List Value} {h : Hp} {r : Option Value} {F : Hp → Hp} (hs : Shp h) (H : Cc sc k as (nh h) r (F (nh h))) : Cc sc k as h r (F h) := by
  rw [nh_eq hs] at H
  exact H
set_option maxRecDepth 100000 in
theorem shp_hI : Shp hI := by
  constructor
  · intro a ha
    have : ∀ a : Fin 65, zK hI a.val = K0 a.val ∧ zN hI a.val = N0 a.val := by decide +kernel
    exact this ⟨a, ha⟩
  · decide +kernel
theorem size_hI : zc hI = 64 ∧ zs hI ≤ 60000 := by decide +kernel
end
section
/-! Small tests of both sides. -/
def bI (b : Bool) : Int32 := if b then 1 else 0
theorem bI_ne {P : Prop} [Decidable P] (h : P) : ¬ bI (decide P) = 0 := by
  rw [decide_eq_true h]
  decide
theorem bI_eq {P : Prop} [Decidable P] (h : ¬ P) : bI (decide P) = 0 := by
  rw [decide_eq_false h]
  rfl
theorem bI_01 (b : Bool) : bI b = 0 ∨ bI b = 1 := by cases b <;> simp [bI]
theorem i_lt (a b : Int32) : a < b ↔ a.toInt < b.toInt := Int32.lt_iff_toInt_lt
theorem i_le (a b : Int32) : a ≤ b ↔ a.toInt ≤ b.toInt := Int32.le_iff_toInt_le
theorem l_lt (a b : Int64) : a < b ↔ a.toInt < b.toInt := Int64.lt_iff_toInt_lt
theorem l_le (a b : Int64) : a ≤ b ↔ a.toInt ≤ b.toInt := Int64.le_iff_toInt_le
theorem wide (k : Int32) : k.toInt64.toInt = k.toInt := Int32.toInt_toInt64 k
theorem cmp_lt (x y : Int64) : lg_cmp x y < 0 ↔ x.toInt < y.toInt := by
  unfold lg_cmp
  by_cases h1 : x > y
  · rw [if_pos h1]
    have : y.toInt < x.toInt := (l_lt y x).mp h1
    constructor
    · intro q
      exact absurd q (by decide)
    · intro q
      omega
  · rw [if_neg h1]
    by_cases h2 : x = y
    · rw [if_pos h2, h2]
      constructor
      · intro q
        exact absurd q (by decide)
      · intro q
        omega
    · rw [if_neg h2]
      constructor
      · intro _
        have h3 : ¬ y.toInt < x.toInt := fun q => h1 ((l_lt y x).mpr q)
        have h4 : ¬ x.toInt = y.toInt := fun q => h2 (Int64.toInt_inj.mp q)
        omega
      · intro _
        decide
theorem cmp_gt (x y : Int64) : 0 < lg_cmp x y ↔ y.toInt < x.toInt := by
  unfold lg_cmp
  by_cases h1 : x > y
  · rw [if_pos h1]
    have : y.toInt < x.toInt := (l_lt y x).mp h1
    constructor
    · intro q
      exact this
    · intro q
      decide
  · rw [if_neg h1]
    have h3 : ¬ y.toInt < x.toInt := fun q => h1 ((l_lt y x).mpr q)
    by_cases h2 : x = y
    · rw [if_pos h2]
      constructor
      · intro q
        exact absurd q (by decide)
      · intro q
        exact absurd q h3
    · rw [if_neg h2]
      constructor
      · intro q
        exact absurd q (by decide)
      · intro q
        exact absurd q h3
section
variable {sc : Nat × (Nat → Int32)} {h : Hp}
theorem c_in (v l u : Int64) : Cc sc 139 [.long v, .long l, .long u] h (some (.int (bI (decide (l.toInt ≤ v.toInt ∧ v.toInt ≤ u.toInt))))) h := by
  refine cc_of 30 rfl rfl ?_
  refine br_c (fun q => ?_) (fun q => ?_)
  · have q := (cmp_lt v l).mp q
    exact ⟨Or.inr ⟨rfl, Or.inl rfl⟩, by rw [bI_eq (by omega)], rfl⟩
  · have q : ¬ v.toInt < l.toInt := fun z => q ((cmp_lt v l).mpr z)
    refine br_c (fun w => ?_) (fun w => ?_)
    · have w := (cmp_gt v u).mp w
      exact ⟨Or.inr ⟨rfl, Or.inl rfl⟩, by rw [bI_eq (by omega)], rfl⟩
    · have w : ¬ u.toInt < v.toInt := fun z => w ((cmp_gt v u).mpr z)
      exact ⟨Or.inr ⟨rfl, Or.inr rfl⟩, by rw [decide_eq_true (by omega)]; rfl, rfl⟩
theorem rng_of {k N : Int32} {n : Int} (hN : N.toInt = n) : (k < 0 ∨ N ≤ k) ↔ ¬ (0 ≤ k.toInt ∧ k.toInt < n) := by
  rw [i_lt, i_le, hN]
  have : (0 : Int32).toInt = 0 := by decide
  omega
theorem c_isSheet (k : Int32) : Cc sc 131 [.int k] h (some (.int (bI (decide (0 ≤ k.toInt ∧ k.toInt < 4))))) h := by
  refine cc_of 20 rfl rfl ?_
  refine br_c (fun q => ?_) (fun q => br_c (fun w => ?_) (fun w => ?_))
  · exact ⟨Or.inr ⟨rfl, Or.inl rfl⟩, by rw [bI_eq ((rng_of (N := 4) (n := 4) (by decide)).mp (Or.inl q))], rfl⟩
  · exact ⟨Or.inr ⟨rfl, Or.inl rfl⟩, by rw [bI_eq ((rng_of (N := 4) (n := 4) (by decide)).mp (Or.inr w))], rfl⟩
  · exact ⟨Or.inr ⟨rfl, Or.inr rfl⟩, by rw [decide_eq_true (Decidable.not_not.mp fun z => ((rng_of (N := 4) (n := 4) (by decide)).mpr z).elim q w)]; rfl, rfl⟩
theorem c_isLane (k : Int32) : Cc sc 132 [.int k] h (some (.int (bI (decide (0 ≤ k.toInt ∧ k.toInt < 3))))) h := by
  refine cc_of 20 rfl rfl ?_
  refine br_c (fun q => ?_) (fun q => br_c (fun w => ?_) (fun w => ?_))
  · exact ⟨Or.inr ⟨rfl, Or.inl rfl⟩, by rw [bI_eq ((rng_of (N := 3) (n := 3) (by decide)).mp (Or.inl q))], rfl⟩
  · exact ⟨Or.inr ⟨rfl, Or.inl rfl⟩, by rw [bI_eq ((rng_of (N := 3) (n := 3) (by decide)).mp (Or.inr w))], rfl⟩
  · exact ⟨Or.inr ⟨rfl, Or.inr rfl⟩, by rw [decide_eq_true (Decidable.not_not.mp fun z => ((rng_of (N := 3) (n := 3) (by decide)).mpr z).elim q w)]; rfl, rfl⟩
theorem c_isYardLorry (k : Int32) : Cc sc 129 [.int k] h (some (.int (bI (decide (0 ≤ k.toInt ∧ k.toInt < 4))))) h := by
  refine cc_of 20 rfl rfl ?_
  refine br_c (fun q => ?_) (fun q => br_c (fun w => ?_) (fun w => ?_))
  · exact ⟨Or.inr ⟨rfl, Or.inl rfl⟩, by rw [bI_eq ((rng_of (N := 4) (n := 4) (by decide)).mp (Or.inl q))], rfl⟩
  · exact ⟨Or.inr ⟨rfl, Or.inl rfl⟩, by rw [bI_eq ((rng_of (N := 4) (n := 4) (by decide)).mp (Or.inr w))], rfl⟩
  · exact ⟨Or.inr ⟨rfl, Or.inr rfl⟩, by rw [decide_eq_true (Decidable.not_not.mp fun z => ((rng_of (N := 4) (n := 4) (by decide)).mpr z).elim q w)]; rfl, rfl⟩
theorem c_isYardSort (k : Int32) : Cc sc 130 [.int k] h (some (.int (bI (decide (0 ≤ k.toInt ∧ k.toInt < 3))))) h := by
  refine cc_of 20 rfl rfl ?_
  refine br_c (fun q => ?_) (fun q => br_c (fun w => ?_) (fun w => ?_))
  · exact ⟨Or.inr ⟨rfl, Or.inl rfl⟩, by rw [bI_eq ((rng_of (N := 3) (n := 3) (by decide)).mp (Or.inl q))], rfl⟩
  · exact ⟨Or.inr ⟨rfl, Or.inl rfl⟩, by rw [bI_eq ((rng_of (N := 3) (n := 3) (by decide)).mp (Or.inr w))], rfl⟩
  · exact ⟨Or.inr ⟨rfl, Or.inr rfl⟩, by rw [decide_eq_true (Decidable.not_not.mp fun z => ((rng_of (N := 3) (n := 3) (by decide)).mpr z).elim q w)]; rfl, rfl⟩
/-- a test of the model: not within 0 .. u -/
theorem bI_not (b : Bool) : (if bI b = 0 then (1 : Int32) else 0) = bI (!b) := by cases b <;> rfl
theorem c_noSheet (k : Int32) : Cc sc 206 [.int k] h (some (.int (bI (decide (¬ (0 ≤ k.toInt ∧ k.toInt < 4)))))) h := by
  refine cc_of 20 rfl rfl ?_
  refine And.intro rfl (And.intro rfl (Exists.intro _ (Exists.intro _ (And.intro (c_in k.toInt64 0 3) ?_))))
  have e : ((0 : Int64).toInt ≤ k.toInt64.toInt ∧ k.toInt64.toInt ≤ (3 : Int64).toInt) ↔ (0 ≤ k.toInt ∧ k.toInt < 4) := by
    rw [wide, show (0 : Int64).toInt = 0 by decide, show (3 : Int64).toInt = 3 by decide]
    omega
  refine br_c (fun q => ?_) (fun q => ?_)
  · have q1 : 0 ≤ k.toInt ∧ k.toInt < 4 := Decidable.not_not.mp fun z => q (bI_eq (fun w => z (e.mp w)))
    exact ⟨Or.inr ⟨rfl, Or.inl rfl⟩, by rw [bI_eq (fun z => z q1)], rfl⟩
  · have q1 : ¬ (0 ≤ k.toInt ∧ k.toInt < 4) := fun z => q (bI_ne (e.mpr z))
    exact ⟨Or.inr ⟨rfl, Or.inr rfl⟩, by rw [decide_eq_true q1]; rfl, rfl⟩
theorem c_refused (hs : Shp h) (v : Int32) : Cc sc 143 [.ref 39, .int v] h (some (.int v)) (upI h 39 0 0) := by
  refine cc_nh (F := fun h => upI h 39 0 0) hs (cc_of 20 rfl rfl ?_)
  exact And.intro rfl ⟨Or.inl rfl, rfl, rfl⟩
theorem c_failed (hs : Shp h) (v : Int32) : Cc sc 144 [.ref 39, .int v] h (some (.int (-10 - v))) (upI h 39 0 v) := by
  refine cc_nh (F := fun h => upI h 39 0 v) hs (cc_of 20 rfl rfl ?_)
  exact And.intro rfl ⟨Or.inl rfl, rfl, rfl⟩
theorem c_lost : Cc sc 140 [] h (some (.long (-9223372036854775808))) h := cc_of 20 rfl rfl ⟨trivial, rfl, rfl⟩
theorem c_failedLong (hs : Shp h) (v : Int32) : Cc sc 145 [.ref 39, .int v] h (some (.long (-9223372036854775808))) (upI h 39 0 v) := by
  refine cc_nh (F := fun h => upI h 39 0 v) hs (cc_of 20 rfl rfl ?_)
  refine And.intro rfl ?_
  refine And.intro rfl (And.intro rfl (Exists.intro _ (Exists.intro _ (And.intro c_lost ?_))))
  exact ⟨trivial, rfl, rfl⟩
theorem c_faulty (hs : Shp h) (v : Int32) : Cc sc 133 [.ref 1, .int v] h (some (.int (-10 - v))) (upI h 1 7 v) := by
  refine cc_nh (F := fun h => upI h 1 7 v) hs (cc_of 20 rfl rfl ?_)
  exact And.intro rfl ⟨Or.inl rfl, rfl, rfl⟩
theorem c_fault_x (hs : Shp h) : Cc sc 123 [.ref 1] h (some (.int (zI h 1 7))) h := by
  refine cc_nh (F := fun h => h) hs (cc_of 20 rfl rfl ?_)
  exact And.intro rfl ⟨Or.inl rfl, rfl, rfl⟩
theorem c_fault_m (hs : Shp h) : Cc sc 219 [.ref 39] h (some (.int (zI h 39 0))) h := by
  refine cc_nh (F := fun h => h) hs (cc_of 20 rfl rfl ?_)
  exact And.intro rfl ⟨Or.inl rfl, rfl, rfl⟩
theorem c_trace_x (hs : Shp h) : Cc sc 122 [.ref 1] h (some (.int (zI h 30 0))) h := by
  refine cc_nh (F := fun h => h) hs (cc_of 20 rfl rfl ?_)
  exact And.intro rfl (And.intro rfl ⟨Or.inl rfl, rfl, rfl⟩)
theorem c_trace_m (hs : Shp h) : Cc sc 218 [.ref 39] h (some (.int (zI h 39 37))) h := by
  refine cc_nh (F := fun h => h) hs (cc_of 20 rfl rfl ?_)
  exact And.intro rfl ⟨Or.inl rfl, rfl, rfl⟩
end
end
section
/-! What the class's cells and the model's say alike (tables that are kept apart). -/
def plI (x : Option Nat) : Int32 := match x with
  | none => -9
  | some x => nI x
def pkd (kd : Nat) : Nat := if kd = 0 then 4 else if kd = 1 then 2 else 1
def mnW (w : Nat) : Nat := if w = 3 then 1 else 0
def mxW (w : Nat) : Nat := if w = 0 then 5 else if w = 3 then 9 else if w = 4 then 2 else 12
/-- faults, trace, spoils, odds -/
def SimA (h : Hp) : Prop := zI h 1 7 = zI h 39 0 ∧ zI h 30 0 = zI h 39 37 ∧ zI h 15 3 = zI h 39 26 ∧ ∀ j, j < 3 → zI h 18 j = zI h 58 j
/-- a sheet -/
def RowOK (h : Hp) (k : Nat) : Prop := (zI h 61 k = -1 ∧ zI h (31 + 2 * k) 0 = -9) ∨ ∃ n ln : Nat, n ≤ 60 ∧ ln ≤ 2 ∧ zI h 61 k = nI n ∧ zI h (31 + 2 * k) 1 = nI n ∧ zI h 62 k = nI ln ∧ zI h (31 + 2 * k) 0 = nI ln ∧ ∀ j, j < n → zI h (32 + 2 * k) j = zI h 63 (60 * k + j)
def SimR (h : Hp) : Prop := ∀ k, k < 4 → RowOK h k
def CampOK (h : Hp) (j : Nat) : Prop := ∃ c nb br L S P : Nat, zA h 2 j = c ∧ zA h c 3 = nb ∧ zA h c 4 = br ∧ 65 ≤ c ∧ 65 ≤ nb ∧ 65 ≤ br ∧ nb ≠ br ∧ zK h c = 0 ∧ zK h nb = 12 ∧ zN h nb = 15 ∧ zK h br = 12 ∧ zN h br = 5 ∧ 1 ≤ L ∧ L ≤ 4 ∧ 1 ≤ S ∧ S ≤ 3 ∧ P ≤ 9 ∧ zI h c 0 = nI L ∧ zI h 40 j = nI L ∧ zI h c 1 = nI S ∧ zI h 41 j = nI S ∧ zI h c 2 = nI P ∧ zI h 42 j = nI P ∧ (∀ s w, s < S → w < 5 → ∃ v, mnW w ≤ v ∧ v ≤ mxW w ∧ zI h nb (5 * s + w) = nI v ∧ zI h 44 (15 * j + 5 * s + w) = nI v) ∧ (∀ k, k ≤ L → ∃ v, v ≤ 9 ∧ (k = 0 → v = 0) ∧ zI h br k = nI v ∧ zI h 43 (5 * j + k) = nI v)
def SimC (h : Hp) : Prop := ∃ nc : Nat, nc ≤ 3 ∧ zI h 1 1 = nI nc ∧ zI h 39 1 = nI nc ∧ (∀ j, j < nc → CampOK h j) ∧ ∀ i j, i < nc → j < nc → i ≠ j → zA h 2 i ≠ zA h 2 j ∧ zA h (zA h 2 i) 3 ≠ zA h (zA h 2 j) 3 ∧ zA h (zA h 2 i) 3 ≠ zA h (zA h 2 j) 4
def PartOK (h : Hp) (p : Nat) : Prop := ∃ (a kd st hr : Nat) (gd hd : Bool) (pl : Option Nat), zA h 16 p = a ∧ 65 ≤ a ∧ kd ≤ 2 ∧ zK h a = pkd kd ∧ zI h a 0 = nI p ∧ st ≤ 2 ∧ zI h a 1 = nI st ∧ 1 ≤ hr ∧ hr ≤ 9 ∧ zI h a 2 = nI hr ∧ zI h a 3 = bI gd ∧ zI h a 4 = bI hd ∧ zI h a 5 = plI pl ∧ zI h 51 p = nI kd ∧ zI h 52 p = nI st ∧ zI h 53 p = nI hr ∧ zI h 54 p = bI gd ∧ zI h 55 p = bI hd ∧ zI h 56 p = plI pl ∧ (∀ x, pl = some x → x < 12 ∧ zI h 17 x = nI p ∧ hd = false)
def SimP (h : Hp) : Prop := ∃ np : Nat, np ≤ 12 ∧ zI h 15 1 = nI np ∧ zI h 39 18 = nI np ∧ (∀ p, p < np → PartOK h p) ∧ (∀ p, np ≤ p → p < 12 → zI h 55 p = 0) ∧ (∀ x, x < 12 → (zI h 17 x = -9 ∧ zI h 57 x = -9) ∨ ∃ p, p < np ∧ zI h 17 x = nI p ∧ zI h 57 x = nI p ∧ zI h 56 p = nI x) ∧ ∀ p q, p < np → q < np → p ≠ q → zA h 16 p ≠ zA h 16 q
/-- nothing behind the last cell -/
def SimZ (h : Hp) : Prop := 64 ≤ zc h ∧ zc h ≤ 200 ∧ zs h ≤ 61000 ∧ ∀ a, zc h < a → zK h a = 99
theorem SimA_congr {h g : Hp} (e1 : zI g 1 7 = zI h 1 7) (e2 : zI g 39 0 = zI h 39 0) (e3 : zI g 30 0 = zI h 30 0) (e4 : zI g 39 37 = zI h 39 37) (e5 : zI g 15 3 = zI h 15 3) (e6 : zI g 39 26 = zI h 39 26) (e7 : zI g 18 = zI h 18) (e8 : zI g 58 = zI h 58) (hA : SimA h) : SimA g := by
  unfold SimA
  rw [e1, e2, e3, e4, e5, e6, e7, e8]
  exact hA
theorem RowOK_congr {h g : Hp} {k : Nat} (e1 : zI g 61 k = zI h 61 k) (e2 : zI g 62 k = zI h 62 k) (e3 : ∀ j, j < 60 → zI g 63 (60 * k + j) = zI h 63 (60 * k + j)) (e4 : zI g (31 + 2 * k) = zI h (31 + 2 * k)) (e5 : zI g (32 + 2 * k) = zI h (32 + 2 * k)) (hR : RowOK h k) : RowOK g k := by
  unfold RowOK
  rw [e1, e2, e4, e5]
  rcases hR with q | ⟨n, ln, h1, h2, h3, h4, h5, h6, h7⟩
  · exact Or.inl q
  · exact Or.inr ⟨n, ln, h1, h2, h3, h4, h5, h6, fun j hj => by rw [e3 j (by omega)]; exact h7 j hj⟩
theorem CampOK_congr {h g : Hp} {j : Nat} (e1 : ∀ a, 40 ≤ a → a ≤ 44 → zI g a = zI h a) (e2 : ∀ a, 65 ≤ a → zI g a = zI h a) (e3 : zA g 2 = zA h 2) (e4 : ∀ a, 65 ≤ a → zA g a = zA h a) (e5 : ∀ a, 65 ≤ a → zK g a = zK h a) (e6 : ∀ a, 65 ≤ a → zN g a = zN h a) (hC : CampOK h j) : CampOK g j := by
  obtain ⟨c, nb, br, L, S, P, q1, q2, q3, q4, q5, q6, q7, q8, q9, q10, q11, q12, q13, q14, q15, q16, q17, q18, q19, q20, q21, q22, q23, q24, q25⟩ := hC
  refine ⟨c, nb, br, L, S, P, by rw [e3]; exact q1, by rw [e4 c q4]; exact q2, by rw [e4 c q4]; exact q3, q4, q5, q6, q7, by rw [e5 c q4]; exact q8, by rw [e5 nb q5]; exact q9, by rw [e6 nb q5]; exact q10, by rw [e5 br q6]; exact q11, by rw [e6 br q6]; exact q12, q13, q14, q15, q16, q17, ?_⟩
  rw [e2 c q4, e2 nb q5, e2 br q6, e1 40 (by omega) (by omega), e1 41 (by omega) (by omega), e1 42 (by omega) (by omega), e1 43 (by omega) (by omega), e1 44 (by omega) (by omega)]
  exact ⟨q18, q19, q20, q21, q22, q23, q24, q25⟩
theorem SimC_congr {h g : Hp} (a1 : zI g 1 1 = zI h 1 1) (a2 : zI g 39 1 = zI h 39 1) (e1 : ∀ a, 40 ≤ a → a ≤ 44 → zI g a = zI h a) (e2 : ∀ a, 65 ≤ a → zI g a = zI h a) (e3 : zA g 2 = zA h 2) (e4 : ∀ a, 65 ≤ a → zA g a = zA h a) (e5 : ∀ a, 65 ≤ a → zK g a = zK h a) (e6 : ∀ a, 65 ≤ a → zN g a = zN h a) (hC : SimC h) : SimC g := by
  obtain ⟨nc, c1, c2, c3, c4, c5⟩ := hC
  refine ⟨nc, c1, by rw [a1]; exact c2, by rw [a2]; exact c3, fun j hj => CampOK_congr e1 e2 e3 e4 e5 e6 (c4 j hj), fun i j hi hj hij => ?_⟩
  obtain ⟨c, nb, br, L, S, P, q1, q2, q3, q4, -⟩ := c4 i hi
  obtain ⟨c', nb', br', L', S', P', w1, w2, w3, w4, -⟩ := c4 j hj
  have := c5 i j hi hj hij
  rw [e3, e4 (zA h 2 i) (by omega), e4 (zA h 2 j) (by omega)]
  exact this
theorem PartOK_congr {h g : Hp} {p : Nat} (e1 : ∀ a, 51 ≤ a → a ≤ 56 → zI g a = zI h a) (e2 : ∀ a, 65 ≤ a → zI g a = zI h a) (e3 : zA g 16 = zA h 16) (e5 : ∀ a, 65 ≤ a → zK g a = zK h a) (e6 : zI g 17 = zI h 17) (hC : PartOK h p) : PartOK g p := by
  obtain ⟨a, kd, st, hr, gd, hd, pl, q1, q2, q3, q4, q5⟩ := hC
  refine ⟨a, kd, st, hr, gd, hd, pl, by rw [e3]; exact q1, q2, q3, by rw [e5 a q2]; exact q4, ?_⟩
  rw [e2 a q2, e1 51 (by omega) (by omega), e1 52 (by omega) (by omega), e1 53 (by omega) (by omega), e1 54 (by omega) (by omega), e1 55 (by omega) (by omega), e1 56 (by omega) (by omega), e6]
  exact q5
theorem SimP_congr {h g : Hp} (a1 : zI g 15 1 = zI h 15 1) (a2 : zI g 39 18 = zI h 39 18) (e1 : ∀ a, 51 ≤ a → a ≤ 57 → zI g a = zI h a) (e2 : ∀ a, 65 ≤ a → zI g a = zI h a) (e3 : zA g 16 = zA h 16) (e5 : ∀ a, 65 ≤ a → zK g a = zK h a) (e6 : zI g 17 = zI h 17) (hP : SimP h) : SimP g := by
  obtain ⟨np, c1, c2, c3, c4, c5, c6, c7⟩ := hP
  refine ⟨np, c1, by rw [a1]; exact c2, by rw [a2]; exact c3, fun p hp => PartOK_congr (fun a q1 q2 => e1 a q1 (by omega)) e2 e3 e5 e6 (c4 p hp), ?_, ?_, by rw [e3]; exact c7⟩
  · rw [e1 55 (by omega) (by omega)]
    exact c5
  · rw [e6, e1 57 (by omega) (by omega), e1 56 (by omega) (by omega)]
    exact c6
def nwL (h : Hp) (ks : List Nat) : Hp := ks.foldl (fun h k => nwC h k 0) h
theorem nwL_99 : ∀ (ks : List Nat) (h : Hp), (∀ a, zc h < a → zK h a = 99) → ∀ a, zc h + ks.length < a → zK (nwL h ks) a = 99 := by
  intro ks
  induction ks with
  | nil => exact fun h q a ha => q a (by simpa using ha)
  | cons k ks ih =>
    intro h q a ha
    refine ih (nwC h k 0) (fun b hb => ?_) a ?_
    · have e : zc (nwC h k 0) = zc h + 1 := rfl
      rw [show zK (nwC h k 0) b = zK h b from va_up_ne _ _ (by omega)]
      exact q b (by omega)
    · have e : zc (nwC h k 0) = zc h + 1 := rfl
      simp only [List.length_cons] at ha
      omega
/-- all but the two tables -/
def Sim0 (h : Hp) : Prop := Shp h ∧ SimA h ∧ SimR h ∧ SimC h ∧ SimP h ∧ SimZ h
set_option maxRecDepth 100000 in
theorem sim0_hI : Sim0 hI := by
  refine ⟨shp_hI, ?_, ?_, ?_, ?_, ?_⟩
  · refine ⟨by decide +kernel, by decide +kernel, by decide +kernel, ?_⟩
    have : ∀ j : Fin 3, zI hI 18 j.val = zI hI 58 j.val := by decide +kernel
    exact fun j hj => this ⟨j, hj⟩
  · have : ∀ k : Fin 4, zI hI 61 k.val = -1 ∧ zI hI (31 + 2 * k.val) 0 = -9 := by decide +kernel
    exact fun k hk => Or.inl (this ⟨k, hk⟩)
  · exact ⟨0, by omega, by decide +kernel, by decide +kernel, fun j hj => absurd hj (by omega), fun i j hi => absurd hi (by omega)⟩
  · refine ⟨0, by omega, by decide +kernel, by decide +kernel, fun p hp => absurd hp (by omega), ?_, ?_, fun p q hp => absurd hp (by omega)⟩
    · have : ∀ p : Fin 12, zI hI 55 p.val = 0 := by decide +kernel
      exact fun p _ hp => this ⟨p, hp⟩
    · have : ∀ p : Fin 12, zI hI 17 p.val = -9 ∧ zI hI 57 p.val = -9 := by decide +kernel
      exact fun x hx => Or.inl (this ⟨x, hx⟩)
  · refine ⟨by decide +kernel, by decide +kernel, by decide +kernel, fun a ha => ?_⟩
    have h64 : zc hI = 64 := size_hI.1
    have h1 := nwL_99 (K0s.drop 1) hp0 (fun a _ => rfl) a (by rw [h64] at ha; exact ha)
    exact h1
end
section
/-! Numbers: comparisons by toInt. Frames: what a call leaves as it was. -/
theorem i_eq (a b : Int32) : a = b ↔ a.toInt = b.toInt := Int32.toInt_inj.symm
theorem bI_z (b : Bool) : bI b = 0 ↔ b = false := by cases b <;> simp [bI]
theorem bI_tz (b : Bool) : (bI b).toInt = 0 ↔ b = false := by cases b <;> simp [bI]
theorem bI_o (b : Bool) : bI b = 1 ↔ b = true := by cases b <;> simp [bI]
theorem bI_inj {a b : Bool} : bI a = bI b ↔ a = b := by cases a <;> cases b <;> simp [bI]
theorem tm1 : (-1 : Int32).toInt = -1 := by decide
theorem tm2 : (-2 : Int32).toInt = -2 := by decide
theorem tm3 : (-3 : Int32).toInt = -3 := by decide
theorem tm4 : (-4 : Int32).toInt = -4 := by decide
theorem tm9 : (-9 : Int32).toInt = -9 := by decide
theorem i_bd (a : Int32) : -2147483648 ≤ a.toInt ∧ a.toInt ≤ 2147483647 := by
  have h1 := Int32.le_toInt a
  have h2 := Int32.toInt_lt a
  constructor <;> omega
theorem i_of {a : Int32} {n : Nat} (h1 : 0 ≤ a.toInt) (h2 : a.toInt < n) (hn : n ≤ 2 ^ 31) : ∃ j : Nat, j < n ∧ a = nI j := by
  obtain ⟨j, hj, rfl⟩ := nI_of (x := a) (fun q => by rw [i_lt] at q; simp only [Int32.reduceToInt] at q; omega)
  rw [nI_toInt hj] at h2
  exact ⟨j, by omega, rfl⟩
theorem i_sub {a b : Int32} (h1 : -2147483648 ≤ a.toInt - b.toInt) (h2 : a.toInt - b.toInt ≤ 2147483647) : (a - b).toInt = a.toInt - b.toInt := by
  rw [Int32.toInt_sub]
  exact Int.bmod_eq_of_le (by omega) (by omega)
theorem i_add {a b : Int32} (h1 : -2147483648 ≤ a.toInt + b.toInt) (h2 : a.toInt + b.toInt ≤ 2147483647) : (a + b).toInt = a.toInt + b.toInt := by
  rw [Int32.toInt_add]
  exact Int.bmod_eq_of_le (by omega) (by omega)
theorem l_add {a b : Int64} (h1 : -9223372036854775808 ≤ a.toInt + b.toInt) (h2 : a.toInt + b.toInt ≤ 9223372036854775807) : (a + b).toInt = a.toInt + b.toInt := by
  rw [Int64.toInt_add]
  exact Int.bmod_eq_of_le (by omega) (by omega)
theorem l_sub {a b : Int64} (h1 : -9223372036854775808 ≤ a.toInt - b.toInt) (h2 : a.toInt - b.toInt ≤ 9223372036854775807) : (a - b).toInt = a.toInt - b.toInt := by
  rw [Int64.toInt_sub]
  exact Int.bmod_eq_of_le (by omega) (by omega)
theorem l_mul {a b : Int64} (h1 : -9223372036854775808 ≤ a.toInt * b.toInt) (h2 : a.toInt * b.toInt ≤ 9223372036854775807) : (a * b).toInt = a.toInt * b.toInt := by
  rw [Int64.toInt_mul]
  exact Int.bmod_eq_of_le (by omega) (by omega)
theorem cmp_le0 (x y : Int64) : lg_cmp x y ≤ 0 ↔ x.toInt ≤ y.toInt := by
  have := cmp_gt x y
  rw [i_le, show (0 : Int32).toInt = 0 by decide]
  rw [i_lt, show (0 : Int32).toInt = 0 by decide] at this
  omega
theorem cmp_ge0 (x y : Int64) : 0 ≤ lg_cmp x y ↔ y.toInt ≤ x.toInt := by
  have := cmp_lt x y
  rw [i_le, show (0 : Int32).toInt = 0 by decide]
  rw [i_lt, show (0 : Int32).toInt = 0 by decide] at this
  omega
theorem cmp_eq0 (x y : Int64) : lg_cmp x y = 0 ↔ x.toInt = y.toInt := by
  have h1 := cmp_le0 x y
  have h2 := cmp_ge0 x y
  rw [i_le, show (0 : Int32).toInt = 0 by decide] at h1 h2
  rw [i_eq, show (0 : Int32).toInt = 0 by decide]
  omega
def inP (L : List (Nat × Nat)) (a j : Nat) : Bool := L.any fun q => q.1 == a && (q.2 == 1000 || q.2 == j)
def lowP (L : List (Nat × Nat)) : Bool := L.all fun q => decide (q.1 < 65)
def frP (L : List (Nat × Nat)) (a : Nat) : Bool := L.all fun q => q.1 != a
theorem lowP_in {L : List (Nat × Nat)} (h : lowP L = true) {a : Nat} (ha : 65 ≤ a) (j : Nat) : inP L a j = false := by
  unfold inP
  rw [List.any_eq_false]
  intro q hq
  have := List.all_eq_true.mp h q hq
  have := of_decide_eq_true this
  simp only [Bool.and_eq_true, beq_iff_eq, not_and]
  omega
theorem frP_in {L : List (Nat × Nat)} {a : Nat} (h : frP L a = true) (j : Nat) : inP L a j = false := by
  unfold inP
  rw [List.any_eq_false]
  intro q hq
  have := List.all_eq_true.mp h q hq
  simp only [bne_iff_ne] at this
  simp [this]
theorem inP_sub {L M : List (Nat × Nat)} (h : ∀ q ∈ L, q ∈ M) {a j : Nat} (hM : inP M a j = false) : inP L a j = false := by
  unfold inP at *
  rw [List.any_eq_false] at *
  exact fun q hq => hM q (h q hq)
/-- g is h but for the slots of L (slot 1000: the whole cell) -/
def Fr (L : List (Nat × Nat)) (h g : Hp) : Prop := g.1 = h.1 ∧ zK g = zK h ∧ zN g = zN h ∧ zA g = zA h ∧ ∀ a j, inP L a j = false → zI g a j = zI h a j ∧ zJ g a j = zJ h a j
theorem Fr.refl (L : List (Nat × Nat)) (h : Hp) : Fr L h h := ⟨rfl, rfl, rfl, rfl, fun _ _ _ => ⟨rfl, rfl⟩⟩
theorem Fr.trans {L : List (Nat × Nat)} {h g f : Hp} (a : Fr L h g) (b : Fr L g f) : Fr L h f :=
  ⟨b.1.trans a.1, b.2.1.trans a.2.1, b.2.2.1.trans a.2.2.1, b.2.2.2.1.trans a.2.2.2.1, fun x j q => ⟨(b.2.2.2.2 x j q).1.trans (a.2.2.2.2 x j q).1, (b.2.2.2.2 x j q).2.trans (a.2.2.2.2 x j q).2⟩⟩
theorem Fr.sub {L M : List (Nat × Nat)} {h g : Hp} (a : Fr L h g) (hs : ∀ q ∈ L, q ∈ M) : Fr M h g :=
  ⟨a.1, a.2.1, a.2.2.1, a.2.2.2.1, fun x j q => a.2.2.2.2 x j (inP_sub hs q)⟩
theorem Fr.upI {L : List (Nat × Nat)} {h g : Hp} (f : Fr L h g) {a j : Nat} {v : Int32} (hin : inP L a j = true) : Fr L h (upI g a j v) := by
  refine ⟨f.1, f.2.1, f.2.2.1, f.2.2.2.1, fun x i q => ⟨?_, (f.2.2.2.2 x i q).2⟩⟩
  rw [zI_upI]
  by_cases e1 : x = a
  · by_cases e2 : i = j
    · rw [e1, e2, hin] at q
      cases q
    · rw [if_pos e1, if_neg e2, ← e1]
      exact (f.2.2.2.2 x i q).1
  · rw [if_neg e1]
    exact (f.2.2.2.2 x i q).1
theorem Fr.upJ {L : List (Nat × Nat)} {h g : Hp} (f : Fr L h g) {a j : Nat} {v : Int64} (hin : inP L a j = true) : Fr L h (upJ g a j v) := by
  refine ⟨f.1, f.2.1, f.2.2.1, f.2.2.2.1, fun x i q => ⟨(f.2.2.2.2 x i q).1, ?_⟩⟩
  rw [zJ_upJ]
  by_cases e1 : x = a
  · by_cases e2 : i = j
    · rw [e1, e2, hin] at q
      cases q
    · rw [if_pos e1, if_neg e2, ← e1]
      exact (f.2.2.2.2 x i q).2
  · rw [if_neg e1]
    exact (f.2.2.2.2 x i q).2
theorem Fr.rwI {L : List (Nat × Nat)} {h g : Hp} (f : Fr L h g) {a : Nat} {v : Nat → Int32} (hin : (a, 1000) ∈ L) : Fr L h (rwI g a v) := by
  refine ⟨f.1, f.2.1, f.2.2.1, f.2.2.2.1, fun x i q => ⟨?_, (f.2.2.2.2 x i q).2⟩⟩
  have : x ≠ a := fun e => by
    unfold inP at q
    rw [List.any_eq_false] at q
    exact q _ hin (by simp [e])
  show va_up (zI g) a v x i = zI h x i
  rw [va_up_ne _ _ this]
  exact (f.2.2.2.2 x i q).1
theorem Fr.rwJ {L : List (Nat × Nat)} {h g : Hp} (f : Fr L h g) {a : Nat} {v : Nat → Int64} (hin : (a, 1000) ∈ L) : Fr L h (rwJ g a v) := by
  refine ⟨f.1, f.2.1, f.2.2.1, f.2.2.2.1, fun x i q => ⟨(f.2.2.2.2 x i q).1, ?_⟩⟩
  have : x ≠ a := fun e => by
    unfold inP at q
    rw [List.any_eq_false] at q
    exact q _ hin (by simp [e])
  show va_up (zJ g) a v x i = zJ h x i
  rw [va_up_ne _ _ this]
  exact (f.2.2.2.2 x i q).2
theorem inP_of {L : List (Nat × Nat)} {a : Nat} (h : (a, 1000) ∈ L) (j : Nat) : inP L a j = true := by
  unfold inP
  rw [List.any_eq_true]
  exact ⟨_, h, by simp⟩
theorem Fr.I {L : List (Nat × Nat)} {h g : Hp} (f : Fr L h g) {a : Nat} (q : frP L a = true) : zI g a = zI h a := funext fun j => (f.2.2.2.2 a j (frP_in q j)).1
theorem Fr.J {L : List (Nat × Nat)} {h g : Hp} (f : Fr L h g) {a : Nat} (q : frP L a = true) : zJ g a = zJ h a := funext fun j => (f.2.2.2.2 a j (frP_in q j)).2
theorem Fr.s {L : List (Nat × Nat)} {h g : Hp} (f : Fr L h g) {a j : Nat} (q : inP L a j = false) : zI g a j = zI h a j := (f.2.2.2.2 a j q).1
theorem Fr.hi {L : List (Nat × Nat)} {h g : Hp} (f : Fr L h g) (q : lowP L = true) {a : Nat} (ha : 65 ≤ a) : zI g a = zI h a := funext fun j => (f.2.2.2.2 a j (lowP_in q ha j)).1
theorem Fr.K {L : List (Nat × Nat)} {h g : Hp} (f : Fr L h g) : zK g = zK h := f.2.1
theorem Fr.N {L : List (Nat × Nat)} {h g : Hp} (f : Fr L h g) : zN g = zN h := f.2.2.1
theorem Fr.A {L : List (Nat × Nat)} {h g : Hp} (f : Fr L h g) : zA g = zA h := f.2.2.2.1
theorem Fr.shp {L : List (Nat × Nat)} {h g : Hp} (f : Fr L h g) (hs : Shp h) : Shp g := by
  unfold Shp
  rw [f.K, f.N, f.A]
  exact hs
theorem Fr.simC {L : List (Nat × Nat)} {h g : Hp} (f : Fr L h g) (q1 : (!inP L 1 1 && !inP L 39 1 && frP L 40 && frP L 41 && frP L 42 && frP L 43 && frP L 44 && lowP L) = true) (s : SimC h) : SimC g := by
  simp only [Bool.and_eq_true, Bool.not_eq_true'] at q1
  obtain ⟨⟨⟨⟨⟨⟨⟨q1, q2⟩, q3⟩, q4⟩, q5⟩, q6⟩, q7⟩, q8⟩ := q1
  refine SimC_congr (f.s q1) (f.s q2) ?_ (fun a ha => f.hi q8 ha) (by rw [f.A]) (fun a _ => by rw [f.A]) (fun a _ => by rw [f.K]) (fun a _ => by rw [f.N]) s
  intro a h1 h2
  have : a = 40 ∨ a = 41 ∨ a = 42 ∨ a = 43 ∨ a = 44 := by omega
  rcases this with rfl | rfl | rfl | rfl | rfl
  · exact f.I q3
  · exact f.I q4
  · exact f.I q5
  · exact f.I q6
  · exact f.I q7
theorem Fr.simP {L : List (Nat × Nat)} {h g : Hp} (f : Fr L h g) (q1 : (!inP L 15 1 && !inP L 39 18 && frP L 51 && frP L 52 && frP L 53 && frP L 54 && frP L 55 && frP L 56 && frP L 57 && frP L 17 && lowP L) = true) (s : SimP h) : SimP g := by
  simp only [Bool.and_eq_true, Bool.not_eq_true'] at q1
  obtain ⟨⟨⟨⟨⟨⟨⟨⟨⟨⟨q1, q2⟩, q3⟩, q4⟩, q5⟩, q6⟩, q7⟩, q8⟩, q9⟩, q10⟩, q11⟩ := q1
  refine SimP_congr (f.s q1) (f.s q2) ?_ (fun a ha => f.hi q11 ha) (by rw [f.A]) (fun a _ => by rw [f.K]) (f.I q10) s
  intro a h1 h2
  have : a = 51 ∨ a = 52 ∨ a = 53 ∨ a = 54 ∨ a = 55 ∨ a = 56 ∨ a = 57 := by omega
  rcases this with rfl | rfl | rfl | rfl | rfl | rfl | rfl
  · exact f.I q3
  · exact f.I q4
  · exact f.I q5
  · exact f.I q6
  · exact f.I q7
  · exact f.I q8
  · exact f.I q9
theorem Fr.simZ {L : List (Nat × Nat)} {h g : Hp} (f : Fr L h g) (s : SimZ h) : SimZ g := by
  unfold SimZ
  rw [show zc g = zc h by rw [show zc g = g.1.1 from rfl, f.1], show zs g = zs h by rw [show zs g = g.1.2 from rfl, f.1], f.K]
  exact s
theorem Fr.simA {L : List (Nat × Nat)} {h g : Hp} (f : Fr L h g) (q1 : (!inP L 1 7 && !inP L 39 0 && !inP L 30 0 && !inP L 39 37 && !inP L 15 3 && !inP L 39 26 && frP L 18 && frP L 58) = true) (s : SimA h) : SimA g := by
  simp only [Bool.and_eq_true, Bool.not_eq_true'] at q1
  obtain ⟨⟨⟨⟨⟨⟨⟨q1, q2⟩, q3⟩, q4⟩, q5⟩, q6⟩, q7⟩, q8⟩ := q1
  exact SimA_congr (f.s q1) (f.s q2) (f.s q3) (f.s q4) (f.s q5) (f.s q6) (f.I q7) (f.I q8) s
/-- with other faults, alike -/
theorem Fr.simA0 {L : List (Nat × Nat)} {h g : Hp} (f : Fr L h g) (q1 : (!inP L 30 0 && !inP L 39 37 && !inP L 15 3 && !inP L 39 26 && frP L 18 && frP L 58) = true) (e : zI g 1 7 = zI g 39 0) (s : SimA h) : SimA g := by
  simp only [Bool.and_eq_true, Bool.not_eq_true'] at q1
  obtain ⟨⟨⟨⟨⟨q3, q4⟩, q5⟩, q6⟩, q7⟩, q8⟩ := q1
  refine ⟨e, ?_⟩
  rw [f.s q3, f.s q4, f.s q5, f.s q6, f.I q7, f.I q8]
  exact s.2
theorem Fr.rowOK {L : List (Nat × Nat)} {h g : Hp} (f : Fr L h g) {k : Nat} (q1 : (!inP L 61 k && !inP L 62 k && frP L 63 && frP L (31 + 2 * k) && frP L (32 + 2 * k)) = true) (s : RowOK h k) : RowOK g k := by
  simp only [Bool.and_eq_true, Bool.not_eq_true'] at q1
  obtain ⟨⟨⟨⟨q3, q4⟩, q5⟩, q6⟩, q7⟩ := q1
  exact RowOK_congr (f.s q3) (f.s q4) (fun j _ => by rw [f.I q5]) (f.I q6) (f.I q7) s
theorem Fr.simR {L : List (Nat × Nat)} {h g : Hp} (f : Fr L h g) (q1 : (frP L 61 && frP L 62 && frP L 63 && (List.range 8).all (fun i => frP L (31 + i))) = true) (s : SimR h) : SimR g := by
  simp only [Bool.and_eq_true] at q1
  obtain ⟨⟨⟨q3, q4⟩, q5⟩, q6⟩ := q1
  intro k hk
  have q7 := fun i hi => List.all_eq_true.mp q6 i (List.mem_range.mpr hi)
  refine f.rowOK ?_ (s k hk)
  simp only [Bool.and_eq_true, Bool.not_eq_true']
  refine ⟨⟨⟨⟨frP_in q3 k, frP_in q4 k⟩, q5⟩, q7 (2 * k) (by omega)⟩, ?_⟩
  have := q7 (1 + 2 * k) (by omega)
  rw [show 31 + (1 + 2 * k) = 32 + 2 * k by omega] at this
  exact this
end
section
/-! Sheets. -/
/-- touches nothing that the two tables rest on -/
def okT (L : List (Nat × Nat)) : Bool := lowP L && [2, 6, 7, 8, 9, 10, 11, 19, 20, 40, 41, 42, 43, 44, 51, 52, 53, 54, 55, 56].all (frP L) && !inP L 15 6 && !inP L 15 1 && !inP L 1 1 && !inP L 39 1 && !inP L 39 18
def Kp (h g : Hp) : Prop := ∃ L, Fr L h g ∧ okT L = true
def Op0 (sc : Nat × (Nat → Int32)) (kx km : Nat) (as : List Value) (h : Hp) : Prop := ∃ r h1 h2, Cc sc kx (.ref 1 :: as) h (some r) h1 ∧ Cc sc km (.ref 39 :: as) h1 (some r) h2 ∧ Sim0 h2 ∧ Kp h h2
section
variable {sc : Nat × (Nat → Int32)} {h : Hp}
theorem shp_nh (hs : Shp h) : Shp (nh h) := by rw [nh_eq hs]; exact hs
theorem c_isNothing {a : Nat} (hk : zK h a = 5) : Cc sc 46 [.ref a] h (some (.int (bI (decide (zI h a 0 = -9))))) h := by
  have k0 : kin 5 (zK h a) = true := by rw [hk]; rfl
  refine cc_of 20 rfl rfl ?_
  refine And.intro (k0) ?_
  refine br_c (fun q => ?_) (fun q => ?_)
  · exact ⟨Or.inr ⟨rfl, Or.inl rfl⟩, by rw [bI_eq q], rfl⟩
  · exact ⟨Or.inr ⟨rfl, Or.inr rfl⟩, by rw [decide_eq_true (Decidable.not_not.mp q)]; rfl, rfl⟩
theorem c_lacks {a : Nat} (hk : zK h a = 5) (i n : Int32) (h1 : 0 ≤ n.toInt) (h2 : 0 ≤ (zI h a 1).toInt) : Cc sc 48 [.ref a, .int i, .int n] h (some (.int (bI (decide (i.toInt < 0 ∨ (zI h a 1).toInt < i.toInt + n.toInt))))) h := by
  have k0 : kin 5 (zK h a) = true := by rw [hk]; rfl
  have b1 := i_bd i
  have b2 := i_bd n
  have b3 := i_bd (zI h a 1)
  have es : (zI h a 1 - n).toInt = (zI h a 1).toInt - n.toInt := i_sub (by omega) (by omega)
  refine cc_of 20 rfl rfl ?_
  refine br_c (fun q => ?_) (fun q => ?_)
  · rw [i_lt, show (0 : Int32).toInt = 0 by decide] at q
    exact ⟨Or.inr ⟨rfl, Or.inr rfl⟩, by rw [decide_eq_true (Or.inl q)]; rfl, rfl⟩
  · rw [i_lt, show (0 : Int32).toInt = 0 by decide] at q
    refine And.intro (k0) ?_
    refine br_c (fun w => ?_) (fun w => ?_)
    · rw [i_le, es] at w
      exact ⟨Or.inr ⟨rfl, Or.inl rfl⟩, by rw [bI_eq (by omega)], rfl⟩
    · rw [i_le, es] at w
      exact ⟨Or.inr ⟨rfl, Or.inr rfl⟩, by rw [decide_eq_true (by omega)]; rfl, rfl⟩
def nar (ln v : Int32) : Int32 := if ln = 0 then v.toInt8.toInt32 else if ln = 1 then v.toInt16.toInt32 else v
theorem c_write {a c i : Nat} (hk : zK h a = 5) (hc : zA h a 2 = c) (hkc : zK h c = 12) (hnc : zN h c = 60) (hi : i < 60) (v : Int32) : Cc sc 49 [.ref a, .int (nI i), .int v] h none (upI h c i (nar (zI h a 0) v)) := by
  have k0 : kin 5 (zK h a) = true := by rw [hk]; rfl
  have ei : (nI i).toNatClampNeg = i := nI_clamp (by omega)
  subst hc
  have ka : zK h (zA h a 2) = 12 ∧ inB (nI i) (zN h (zA h a 2)) = true := ⟨hkc, by rw [hnc]; exact inB_nI hi (by decide)⟩
  refine cc_of 30 rfl rfl ?_
  refine And.intro (k0) ?_
  refine br_c (fun q => ?_) (fun q => ?_)
  · refine And.intro (k0) ?_
    refine br_c (fun w => ?_) (fun w => ?_)
    · refine And.intro (k0) ?_
      refine And.intro (ka) ?_
      exact ⟨trivial, rfl, by rw [ei, nar, if_neg q, if_neg w]⟩
    · refine And.intro (k0) ?_
      refine And.intro (ka) ?_
      exact ⟨trivial, rfl, by rw [ei, nar, if_neg q, if_pos (Decidable.not_not.mp w)]⟩
  · refine And.intro (k0) ?_
    refine And.intro (ka) ?_
    exact ⟨trivial, rfl, by rw [ei, nar, if_pos (Decidable.not_not.mp q)]⟩
theorem c_begin {a c : Nat} (hk : zK h a = 5) (hc : zA h a 2 = c) (hkc : zK h c = 12) (hnc : zN h c = 60) (ln n : Int32) : Cc sc 47 [.ref a, .int ln, .int n] h none (flI (upI (upI h a 0 ln) a 1 n) c 0) := by
  have k0 : kin 5 (zK h a) = true := by rw [hk]; rfl
  subst hc
  refine cc_of 30 rfl rfl ?_
  refine And.intro (k0) ?_
  refine And.intro (k0) ?_
  refine And.intro (k0) ?_
  refine And.intro rfl (And.intro rfl (Exists.intro _ (Exists.intro _ (And.intro (c_fillI (h := upI (upI h a 0 ln) a 1 n) (a := zA h a 2) (v := 0) hkc (by show zN h (zA h a 2) < 2 ^ 31; rw [hnc]; decide)) ?_))))
  exact ⟨trivial, rfl, rfl⟩
theorem c_noCell (hs : Shp h) {k : Nat} (hk : k < 4) (i : Int32) : Cc sc 209 [.ref 39, .int (nI k), .int i] h (some (.int (if (zI h 61 k).toInt < 0 then 1 else if 0 ≤ i.toInt ∧ i.toInt < (zI h 61 k).toInt then 0 else 3))) h := by
  have ek : (nI k).toNatClampNeg = k := nI_clamp (by omega)
  have ik : inB (nI k) 4 = true := inB_nI hk (by decide)
  have b := i_bd (zI h 61 k)
  have e1 : ((zI h 61 k).toInt64 - 1).toInt = (zI h 61 k).toInt - 1 := by
    rw [l_sub] <;> rw [wide, show (1 : Int64).toInt = 1 by decide] <;> omega
  refine cc_nh (F := fun h => h) hs (cc_of 40 rfl rfl ?_)
  refine And.intro rfl ?_
  refine And.intro (⟨rfl, ik⟩) ?_
  rw [ek]
  by_cases q : (zI h 61 k).toInt < 0
  · rw [if_pos q]
    refine br_f (show ¬ ((0 : Int32) ≤ zI h 61 k) by first | assumption | (simp (discharger := omega) only [i_lt, i_le, i_eq, bI_tz, decide_eq_false_iff_not, Int32.reduceToInt, nI_toInt, tm1, tm2, tm3, tm4, tm9]; done) | (simp (discharger := omega) only [i_lt, i_le, i_eq, bI_tz, decide_eq_false_iff_not, Int32.reduceToInt, nI_toInt, tm1, tm2, tm3, tm4, tm9]; omega) | omega) ?_
    exact ⟨Or.inl rfl, rfl, rfl⟩
  · rw [if_neg q]
    refine br_t (show (0 : Int32) ≤ zI h 61 k by first | assumption | (simp (discharger := omega) only [i_lt, i_le, i_eq, bI_tz, decide_eq_false_iff_not, Int32.reduceToInt, nI_toInt, tm1, tm2, tm3, tm4, tm9]; done) | (simp (discharger := omega) only [i_lt, i_le, i_eq, bI_tz, decide_eq_false_iff_not, Int32.reduceToInt, nI_toInt, tm1, tm2, tm3, tm4, tm9]; omega) | omega) ?_
    refine And.intro rfl ?_
    refine And.intro (⟨rfl, ik⟩) ?_
    rw [ek]
    refine And.intro rfl (And.intro rfl (Exists.intro _ (Exists.intro _ (And.intro (c_in i.toInt64 0 ((zI h 61 k).toInt64 - 1)) ?_))))
    rw [e1, wide, show (0 : Int64).toInt = 0 by decide]
    by_cases w : 0 ≤ i.toInt ∧ i.toInt < (zI h 61 k).toInt
    · rw [if_pos w]
      refine br_f (by first | assumption | (simp (discharger := omega) only [i_lt, i_le, i_eq, bI_tz, decide_eq_false_iff_not, Int32.reduceToInt, nI_toInt, tm1, tm2, tm3, tm4, tm9]; done) | (simp (discharger := omega) only [i_lt, i_le, i_eq, bI_tz, decide_eq_false_iff_not, Int32.reduceToInt, nI_toInt, tm1, tm2, tm3, tm4, tm9]; omega) | omega) ?_
      exact ⟨Or.inl rfl, rfl, rfl⟩
    · rw [if_neg w]
      refine br_t (by first | assumption | (simp (discharger := omega) only [i_lt, i_le, i_eq, bI_tz, decide_eq_false_iff_not, Int32.reduceToInt, nI_toInt, tm1, tm2, tm3, tm4, tm9]; done) | (simp (discharger := omega) only [i_lt, i_le, i_eq, bI_tz, decide_eq_false_iff_not, Int32.reduceToInt, nI_toInt, tm1, tm2, tm3, tm4, tm9]; omega) | omega) ?_
      exact ⟨Or.inl rfl, rfl, rfl⟩
end
end
section
/-! What camp and drive look at first; the calls on sheets. -/
section
variable {sc : Nat × (Nat → Int32)} {h : Hp}
theorem upI_upI (h : Hp) (a j : Nat) (v w : Int32) : upI (upI h a j v) a j w = upI h a j w := by
  unfold upI
  show (h.1, zK h, zN h, va_up (va_up (zI h) a (upd (zI h a) j v)) a (upd (va_up (zI h) a (upd (zI h a) j v) a) j w), zJ h, zA h) = _
  rw [va_up_self, up_up]
  have : upd (upd (zI h a) j v) j w = upd (zI h a) j w := by
    funext i
    unfold upd
    split <;> rfl
  rw [this]
theorem c_takeRow (hs : Shp h) {a : Nat} (hk : zK h a = 5) (ln : Int32) : Cc sc 134 [.ref 1, .ref a, .int ln] h (some (.int (if zI h a 0 = -9 then -11 else if zI h a 0 = ln then 0 else -12))) (if zI h a 0 = -9 then upI h 1 7 1 else if zI h a 0 = ln then h else upI h 1 7 2) := by
  have k0 : kin 5 (zK h a) = true := by rw [hk]; rfl
  have k1 : zK h 1 = 10 := (hs.1 1 (by decide)).1
  refine cc_of 30 rfl rfl ?_
  refine And.intro ⟨rfl, hk⟩ (And.intro rfl (Exists.intro _ (Exists.intro _ (And.intro (c_isNothing hk) ?_))))
  by_cases q : zI h a 0 = -9
  · rw [if_pos q, if_pos q]
    refine br_f (by rw [bI_z, q]; decide) ?_
    refine And.intro ⟨rfl, k1⟩ (And.intro rfl (Exists.intro _ (Exists.intro _ (And.intro (c_faulty hs 1) ?_))))
    exact ⟨Or.inl rfl, rfl, rfl⟩
  · rw [if_neg q, if_neg q]
    refine br_t (by rw [bI_z]; exact decide_eq_false q) ?_
    refine And.intro (k0) ?_
    by_cases w : zI h a 0 = ln
    · rw [if_pos w, if_pos w]
      refine br_f (fun z => z w) ?_
      exact ⟨Or.inl rfl, rfl, rfl⟩
    · rw [if_neg w, if_neg w]
      refine br_t w ?_
      refine And.intro ⟨rfl, k1⟩ (And.intro rfl (Exists.intro _ (Exists.intro _ (And.intro (c_faulty hs 2) ?_))))
      exact ⟨Or.inl rfl, rfl, rfl⟩
def tk (sz ln : Nat → Int32) (k lane i n : Int32) : Int32 × Int32 :=
  if 0 ≤ k.toInt ∧ k.toInt < 4 then
    if 0 ≤ lane.toInt ∧ lane.toInt < 3 then
      if (sz k.toNatClampNeg).toInt < 0 then (-11, 1) else if ln k.toNatClampNeg = lane then
        if n.toInt < 0 then (-14, 4) else if i.toInt < 0 ∨ (sz k.toNatClampNeg).toInt < i.toInt + n.toInt then (-13, 3) else (0, 0)
      else (-12, 2)
    else (-2, 0)
  else (-1, 0)
theorem RowOK_ln {h : Hp} {k : Nat} (r : RowOK h k) : ((zI h 61 k).toInt < 0 ↔ zI h (31 + 2 * k) 0 = -9) ∧ (¬ (zI h 61 k).toInt < 0 → zI h (31 + 2 * k) 0 = zI h 62 k ∧ zI h (31 + 2 * k) 1 = zI h 61 k) := by
  rcases r with ⟨h1, h2⟩ | ⟨n, ln, h1, h2, h3, h4, h5, h6, h7⟩
  · rw [h1, h2]
    exact ⟨⟨fun _ => rfl, fun _ => by decide⟩, fun q => absurd (by decide) q⟩
  · rw [h3, h4, h5, h6, nI_toInt (by omega)]
    refine ⟨⟨fun q => absurd q (by omega), fun q => ?_⟩, fun _ => ⟨rfl, rfl⟩⟩
    exact absurd q (by first | assumption | (simp (discharger := omega) only [i_lt, i_le, i_eq, bI_tz, decide_eq_false_iff_not, Int32.reduceToInt, nI_toInt, tm1, tm2, tm3, tm4, tm9]; done) | (simp (discharger := omega) only [i_lt, i_le, i_eq, bI_tz, decide_eq_false_iff_not, Int32.reduceToInt, nI_toInt, tm1, tm2, tm3, tm4, tm9]; omega) | omega)
theorem c_takeCells (hs : Shp h) (hr : SimR h) (k lane i n : Int32) : Cc sc 135 [.ref 1, .int k, .int lane, .int i, .int n] h (some (.int (tk (zI h 61) (zI h 62) k lane i n).1)) (upI h 1 7 (tk (zI h 61) (zI h 62) k lane i n).2) := by
  unfold tk
  by_cases q1 : 0 ≤ k.toInt ∧ k.toInt < 4
  · rw [if_pos q1]
    obtain ⟨j, hj, rfl⟩ := i_of q1.1 (n := 4) q1.2 (by decide)
    have ij : inB (nI j) 4 = true := inB_nI hj (by decide)
    have ej : (nI j).toNatClampNeg = j := nI_clamp (by omega)
    rw [ej]
    by_cases q2 : 0 ≤ lane.toInt ∧ lane.toInt < 3
    · rw [if_pos q2]
      obtain rfl | rfl | rfl | rfl : j = 0 ∨ j = 1 ∨ j = 2 ∨ j = 3 := by omega
      · obtain ⟨r1, r2⟩ := RowOK_ln (hr 0 (by decide))
        have kr : zK (nh h) 31 = 5 := rfl
        by_cases q3 : (zI h 61 0).toInt < 0
        · rw [if_pos q3]
          have e0 : zI h 31 0 = -9 := r1.mp q3
          refine cc_nh (F := fun h => upI h 1 7 1) hs (cc_of 60 rfl rfl ?_)
          refine And.intro rfl ?_
          refine And.intro rfl (And.intro rfl (Exists.intro _ (Exists.intro _ (And.intro (c_isSheet _) ?_))))
          refine br_t (by first | assumption | (simp (discharger := omega) only [i_lt, i_le, i_eq, bI_tz, decide_eq_false_iff_not, Int32.reduceToInt, nI_toInt, tm1, tm2, tm3, tm4, tm9]; done) | (simp (discharger := omega) only [i_lt, i_le, i_eq, bI_tz, decide_eq_false_iff_not, Int32.reduceToInt, nI_toInt, tm1, tm2, tm3, tm4, tm9]; omega) | omega) ?_
          refine And.intro rfl (And.intro rfl (Exists.intro _ (Exists.intro _ (And.intro (c_isLane _) ?_))))
          refine br_t (by first | assumption | (simp (discharger := omega) only [i_lt, i_le, i_eq, bI_tz, decide_eq_false_iff_not, Int32.reduceToInt, nI_toInt, tm1, tm2, tm3, tm4, tm9]; done) | (simp (discharger := omega) only [i_lt, i_le, i_eq, bI_tz, decide_eq_false_iff_not, Int32.reduceToInt, nI_toInt, tm1, tm2, tm3, tm4, tm9]; omega) | omega) ?_
          refine And.intro rfl ?_
          refine And.intro (⟨rfl, ij⟩) ?_
          refine And.intro ⟨rfl, rfl⟩ (And.intro rfl (Exists.intro _ (Exists.intro _ (And.intro (c_takeRow (h := upI (nh h) 1 7 0) (a := 31) (shp_nh hs) kr lane) ?_))))
          have e1 : zI (upI (nh h) 1 7 0) 31 0 = -9 := e0
          rw [if_pos e1, if_pos e1, upI_upI]
          refine br_f (by decide) ?_
          exact ⟨Or.inl rfl, rfl, rfl⟩
        · rw [if_neg q3]
          obtain ⟨r3, r4⟩ := r2 q3
          have e9 : ¬ zI (upI (nh h) 1 7 0) 31 0 = -9 := fun z => q3 (r1.mpr z)
          by_cases q4 : zI h 62 0 = lane
          · rw [if_pos q4]
            have e0 : zI (upI (nh h) 1 7 0) 31 0 = lane := r3.trans q4
            have e8 : zI (upI (nh h) 1 7 0) 31 1 = zI h 61 0 := r4
            by_cases q5 : n.toInt < 0
            · rw [if_pos q5]
              refine cc_nh (F := fun h => upI h 1 7 4) hs (cc_of 60 rfl rfl ?_)
              refine And.intro rfl ?_
              refine And.intro rfl (And.intro rfl (Exists.intro _ (Exists.intro _ (And.intro (c_isSheet _) ?_))))
              refine br_t (by first | assumption | (simp (discharger := omega) only [i_lt, i_le, i_eq, bI_tz, decide_eq_false_iff_not, Int32.reduceToInt, nI_toInt, tm1, tm2, tm3, tm4, tm9]; done) | (simp (discharger := omega) only [i_lt, i_le, i_eq, bI_tz, decide_eq_false_iff_not, Int32.reduceToInt, nI_toInt, tm1, tm2, tm3, tm4, tm9]; omega) | omega) ?_
              refine And.intro rfl (And.intro rfl (Exists.intro _ (Exists.intro _ (And.intro (c_isLane _) ?_))))
              refine br_t (by first | assumption | (simp (discharger := omega) only [i_lt, i_le, i_eq, bI_tz, decide_eq_false_iff_not, Int32.reduceToInt, nI_toInt, tm1, tm2, tm3, tm4, tm9]; done) | (simp (discharger := omega) only [i_lt, i_le, i_eq, bI_tz, decide_eq_false_iff_not, Int32.reduceToInt, nI_toInt, tm1, tm2, tm3, tm4, tm9]; omega) | omega) ?_
              refine And.intro rfl ?_
              refine And.intro (⟨rfl, ij⟩) ?_
              refine And.intro ⟨rfl, rfl⟩ (And.intro rfl (Exists.intro _ (Exists.intro _ (And.intro (c_takeRow (h := upI (nh h) 1 7 0) (a := 31) (shp_nh hs) kr lane) ?_))))
              rw [if_neg e9, if_neg e9, if_pos e0, if_pos e0]
              refine br_t (by rfl) ?_
              refine br_f (show ¬ ((0 : Int32) ≤ n) by first | assumption | (simp (discharger := omega) only [i_lt, i_le, i_eq, bI_tz, decide_eq_false_iff_not, Int32.reduceToInt, nI_toInt, tm1, tm2, tm3, tm4, tm9]; done) | (simp (discharger := omega) only [i_lt, i_le, i_eq, bI_tz, decide_eq_false_iff_not, Int32.reduceToInt, nI_toInt, tm1, tm2, tm3, tm4, tm9]; omega) | omega) ?_
              refine And.intro ⟨rfl, rfl⟩ (And.intro rfl (Exists.intro _ (Exists.intro _ (And.intro (c_faulty (h := upI (nh h) 1 7 0) (shp_nh hs) 4) ?_))))
              rw [upI_upI]
              exact ⟨Or.inl rfl, rfl, rfl⟩
            · rw [if_neg q5]
              have hl := c_lacks (sc := sc) (h := upI (nh h) 1 7 0) (a := 31) kr i n (by omega) (by rw [e8]; omega)
              rw [e8] at hl
              by_cases q6 : i.toInt < 0 ∨ (zI h 61 0).toInt < i.toInt + n.toInt
              · rw [if_pos q6]
                refine cc_nh (F := fun h => upI h 1 7 3) hs (cc_of 60 rfl rfl ?_)
                refine And.intro rfl ?_
                refine And.intro rfl (And.intro rfl (Exists.intro _ (Exists.intro _ (And.intro (c_isSheet _) ?_))))
                refine br_t (by first | assumption | (simp (discharger := omega) only [i_lt, i_le, i_eq, bI_tz, decide_eq_false_iff_not, Int32.reduceToInt, nI_toInt, tm1, tm2, tm3, tm4, tm9]; done) | (simp (discharger := omega) only [i_lt, i_le, i_eq, bI_tz, decide_eq_false_iff_not, Int32.reduceToInt, nI_toInt, tm1, tm2, tm3, tm4, tm9]; omega) | omega) ?_
                refine And.intro rfl (And.intro rfl (Exists.intro _ (Exists.intro _ (And.intro (c_isLane _) ?_))))
                refine br_t (by first | assumption | (simp (discharger := omega) only [i_lt, i_le, i_eq, bI_tz, decide_eq_false_iff_not, Int32.reduceToInt, nI_toInt, tm1, tm2, tm3, tm4, tm9]; done) | (simp (discharger := omega) only [i_lt, i_le, i_eq, bI_tz, decide_eq_false_iff_not, Int32.reduceToInt, nI_toInt, tm1, tm2, tm3, tm4, tm9]; omega) | omega) ?_
                refine And.intro rfl ?_
                refine And.intro (⟨rfl, ij⟩) ?_
                refine And.intro ⟨rfl, rfl⟩ (And.intro rfl (Exists.intro _ (Exists.intro _ (And.intro (c_takeRow (h := upI (nh h) 1 7 0) (a := 31) (shp_nh hs) kr lane) ?_))))
                rw [if_neg e9, if_neg e9, if_pos e0, if_pos e0]
                refine br_t (by rfl) ?_
                refine br_t (show (0 : Int32) ≤ n by first | assumption | (simp (discharger := omega) only [i_lt, i_le, i_eq, bI_tz, decide_eq_false_iff_not, Int32.reduceToInt, nI_toInt, tm1, tm2, tm3, tm4, tm9]; done) | (simp (discharger := omega) only [i_lt, i_le, i_eq, bI_tz, decide_eq_false_iff_not, Int32.reduceToInt, nI_toInt, tm1, tm2, tm3, tm4, tm9]; omega) | omega) ?_
                refine And.intro rfl ?_
                refine And.intro (⟨rfl, ij⟩) ?_
                refine And.intro ⟨rfl, rfl⟩ (And.intro rfl (Exists.intro _ (Exists.intro _ (And.intro (hl) ?_))))
                refine br_f (by rw [decide_eq_true q6]; decide) ?_
                refine And.intro ⟨rfl, rfl⟩ (And.intro rfl (Exists.intro _ (Exists.intro _ (And.intro (c_faulty (h := upI (nh h) 1 7 0) (shp_nh hs) 3) ?_))))
                rw [upI_upI]
                exact ⟨Or.inl rfl, rfl, rfl⟩
              · rw [if_neg q6]
                refine cc_nh (F := fun h => upI h 1 7 0) hs (cc_of 60 rfl rfl ?_)
                refine And.intro rfl ?_
                refine And.intro rfl (And.intro rfl (Exists.intro _ (Exists.intro _ (And.intro (c_isSheet _) ?_))))
                refine br_t (by first | assumption | (simp (discharger := omega) only [i_lt, i_le, i_eq, bI_tz, decide_eq_false_iff_not, Int32.reduceToInt, nI_toInt, tm1, tm2, tm3, tm4, tm9]; done) | (simp (discharger := omega) only [i_lt, i_le, i_eq, bI_tz, decide_eq_false_iff_not, Int32.reduceToInt, nI_toInt, tm1, tm2, tm3, tm4, tm9]; omega) | omega) ?_
                refine And.intro rfl (And.intro rfl (Exists.intro _ (Exists.intro _ (And.intro (c_isLane _) ?_))))
                refine br_t (by first | assumption | (simp (discharger := omega) only [i_lt, i_le, i_eq, bI_tz, decide_eq_false_iff_not, Int32.reduceToInt, nI_toInt, tm1, tm2, tm3, tm4, tm9]; done) | (simp (discharger := omega) only [i_lt, i_le, i_eq, bI_tz, decide_eq_false_iff_not, Int32.reduceToInt, nI_toInt, tm1, tm2, tm3, tm4, tm9]; omega) | omega) ?_
                refine And.intro rfl ?_
                refine And.intro (⟨rfl, ij⟩) ?_
                refine And.intro ⟨rfl, rfl⟩ (And.intro rfl (Exists.intro _ (Exists.intro _ (And.intro (c_takeRow (h := upI (nh h) 1 7 0) (a := 31) (shp_nh hs) kr lane) ?_))))
                rw [if_neg e9, if_neg e9, if_pos e0, if_pos e0]
                refine br_t (by rfl) ?_
                refine br_t (show (0 : Int32) ≤ n by first | assumption | (simp (discharger := omega) only [i_lt, i_le, i_eq, bI_tz, decide_eq_false_iff_not, Int32.reduceToInt, nI_toInt, tm1, tm2, tm3, tm4, tm9]; done) | (simp (discharger := omega) only [i_lt, i_le, i_eq, bI_tz, decide_eq_false_iff_not, Int32.reduceToInt, nI_toInt, tm1, tm2, tm3, tm4, tm9]; omega) | omega) ?_
                refine And.intro rfl ?_
                refine And.intro (⟨rfl, ij⟩) ?_
                refine And.intro ⟨rfl, rfl⟩ (And.intro rfl (Exists.intro _ (Exists.intro _ (And.intro (hl) ?_))))
                refine br_t (by rw [decide_eq_false q6]; decide) ?_
                exact ⟨Or.inl rfl, rfl, rfl⟩
          · rw [if_neg q4]
            have e0 : ¬ zI (upI (nh h) 1 7 0) 31 0 = lane := fun z => q4 (r3.symm.trans z)
            refine cc_nh (F := fun h => upI h 1 7 2) hs (cc_of 60 rfl rfl ?_)
            refine And.intro rfl ?_
            refine And.intro rfl (And.intro rfl (Exists.intro _ (Exists.intro _ (And.intro (c_isSheet _) ?_))))
            refine br_t (by first | assumption | (simp (discharger := omega) only [i_lt, i_le, i_eq, bI_tz, decide_eq_false_iff_not, Int32.reduceToInt, nI_toInt, tm1, tm2, tm3, tm4, tm9]; done) | (simp (discharger := omega) only [i_lt, i_le, i_eq, bI_tz, decide_eq_false_iff_not, Int32.reduceToInt, nI_toInt, tm1, tm2, tm3, tm4, tm9]; omega) | omega) ?_
            refine And.intro rfl (And.intro rfl (Exists.intro _ (Exists.intro _ (And.intro (c_isLane _) ?_))))
            refine br_t (by first | assumption | (simp (discharger := omega) only [i_lt, i_le, i_eq, bI_tz, decide_eq_false_iff_not, Int32.reduceToInt, nI_toInt, tm1, tm2, tm3, tm4, tm9]; done) | (simp (discharger := omega) only [i_lt, i_le, i_eq, bI_tz, decide_eq_false_iff_not, Int32.reduceToInt, nI_toInt, tm1, tm2, tm3, tm4, tm9]; omega) | omega) ?_
            refine And.intro rfl ?_
            refine And.intro (⟨rfl, ij⟩) ?_
            refine And.intro ⟨rfl, rfl⟩ (And.intro rfl (Exists.intro _ (Exists.intro _ (And.intro (c_takeRow (h := upI (nh h) 1 7 0) (a := 31) (shp_nh hs) kr lane) ?_))))
            rw [if_neg e9, if_neg e9, if_neg e0, if_neg e0, upI_upI]
            refine br_f (by decide) ?_
            exact ⟨Or.inl rfl, rfl, rfl⟩
      · obtain ⟨r1, r2⟩ := RowOK_ln (hr 1 (by decide))
        have kr : zK (nh h) 33 = 5 := rfl
        by_cases q3 : (zI h 61 1).toInt < 0
        · rw [if_pos q3]
          have e0 : zI h 33 0 = -9 := r1.mp q3
          refine cc_nh (F := fun h => upI h 1 7 1) hs (cc_of 60 rfl rfl ?_)
          refine And.intro rfl ?_
          refine And.intro rfl (And.intro rfl (Exists.intro _ (Exists.intro _ (And.intro (c_isSheet _) ?_))))
          refine br_t (by first | assumption | (simp (discharger := omega) only [i_lt, i_le, i_eq, bI_tz, decide_eq_false_iff_not, Int32.reduceToInt, nI_toInt, tm1, tm2, tm3, tm4, tm9]; done) | (simp (discharger := omega) only [i_lt, i_le, i_eq, bI_tz, decide_eq_false_iff_not, Int32.reduceToInt, nI_toInt, tm1, tm2, tm3, tm4, tm9]; omega) | omega) ?_
          refine And.intro rfl (And.intro rfl (Exists.intro _ (Exists.intro _ (And.intro (c_isLane _) ?_))))
          refine br_t (by first | assumption | (simp (discharger := omega) only [i_lt, i_le, i_eq, bI_tz, decide_eq_false_iff_not, Int32.reduceToInt, nI_toInt, tm1, tm2, tm3, tm4, tm9]; done) | (simp (discharger := omega) only [i_lt, i_le, i_eq, bI_tz, decide_eq_false_iff_not, Int32.reduceToInt, nI_toInt, tm1, tm2, tm3, tm4, tm9]; omega) | omega) ?_
          refine And.intro rfl ?_
          refine And.intro (⟨rfl, ij⟩) ?_
          refine And.intro ⟨rfl, rfl⟩ (And.intro rfl (Exists.intro _ (Exists.intro _ (And.intro (c_takeRow (h := upI (nh h) 1 7 0) (a := 33) (shp_nh hs) kr lane) ?_))))
          have e1 : zI (upI (nh h) 1 7 0) 33 0 = -9 := e0
          rw [if_pos e1, if_pos e1, upI_upI]
          refine br_f (by decide) ?_
          exact ⟨Or.inl rfl, rfl, rfl⟩
        · rw [if_neg q3]
          obtain ⟨r3, r4⟩ := r2 q3
          have e9 : ¬ zI (upI (nh h) 1 7 0) 33 0 = -9 := fun z => q3 (r1.mpr z)
          by_cases q4 : zI h 62 1 = lane
          · rw [if_pos q4]
            have e0 : zI (upI (nh h) 1 7 0) 33 0 = lane := r3.trans q4
            have e8 : zI (upI (nh h) 1 7 0) 33 1 = zI h 61 1 := r4
            by_cases q5 : n.toInt < 0
            · rw [if_pos q5]
              refine cc_nh (F := fun h => upI h 1 7 4) hs (cc_of 60 rfl rfl ?_)
              refine And.intro rfl ?_
              refine And.intro rfl (And.intro rfl (Exists.intro _ (Exists.intro _ (And.intro (c_isSheet _) ?_))))
              refine br_t (by first | assumption | (simp (discharger := omega) only [i_lt, i_le, i_eq, bI_tz, decide_eq_false_iff_not, Int32.reduceToInt, nI_toInt, tm1, tm2, tm3, tm4, tm9]; done) | (simp (discharger := omega) only [i_lt, i_le, i_eq, bI_tz, decide_eq_false_iff_not, Int32.reduceToInt, nI_toInt, tm1, tm2, tm3, tm4, tm9]; omega) | omega) ?_
              refine And.intro rfl (And.intro rfl (Exists.intro _ (Exists.intro _ (And.intro (c_isLane _) ?_))))
              refine br_t (by first | assumption | (simp (discharger := omega) only [i_lt, i_le, i_eq, bI_tz, decide_eq_false_iff_not, Int32.reduceToInt, nI_toInt, tm1, tm2, tm3, tm4, tm9]; done) | (simp (discharger := omega) only [i_lt, i_le, i_eq, bI_tz, decide_eq_false_iff_not, Int32.reduceToInt, nI_toInt, tm1, tm2, tm3, tm4, tm9]; omega) | omega) ?_
              refine And.intro rfl ?_
              refine And.intro (⟨rfl, ij⟩) ?_
              refine And.intro ⟨rfl, rfl⟩ (And.intro rfl (Exists.intro _ (Exists.intro _ (And.intro (c_takeRow (h := upI (nh h) 1 7 0) (a := 33) (shp_nh hs) kr lane) ?_))))
              rw [if_neg e9, if_neg e9, if_pos e0, if_pos e0]
              refine br_t (by rfl) ?_
              refine br_f (show ¬ ((0 : Int32) ≤ n) by first | assumption | (simp (discharger := omega) only [i_lt, i_le, i_eq, bI_tz, decide_eq_false_iff_not, Int32.reduceToInt, nI_toInt, tm1, tm2, tm3, tm4, tm9]; done) | (simp (discharger := omega) only [i_lt, i_le, i_eq, bI_tz, decide_eq_false_iff_not, Int32.reduceToInt, nI_toInt, tm1, tm2, tm3, tm4, tm9]; omega) | omega) ?_
              refine And.intro ⟨rfl, rfl⟩ (And.intro rfl (Exists.intro _ (Exists.intro _ (And.intro (c_faulty (h := upI (nh h) 1 7 0) (shp_nh hs) 4) ?_))))
              rw [upI_upI]
              exact ⟨Or.inl rfl, rfl, rfl⟩
            · rw [if_neg q5]
              have hl := c_lacks (sc := sc) (h := upI (nh h) 1 7 0) (a := 33) kr i n (by omega) (by rw [e8]; omega)
              rw [e8] at hl
              by_cases q6 : i.toInt < 0 ∨ (zI h 61 1).toInt < i.toInt + n.toInt
              · rw [if_pos q6]
                refine cc_nh (F := fun h => upI h 1 7 3) hs (cc_of 60 rfl rfl ?_)
                refine And.intro rfl ?_
                refine And.intro rfl (And.intro rfl (Exists.intro _ (Exists.intro _ (And.intro (c_isSheet _) ?_))))
                refine br_t (by first | assumption | (simp (discharger := omega) only [i_lt, i_le, i_eq, bI_tz, decide_eq_false_iff_not, Int32.reduceToInt, nI_toInt, tm1, tm2, tm3, tm4, tm9]; done) | (simp (discharger := omega) only [i_lt, i_le, i_eq, bI_tz, decide_eq_false_iff_not, Int32.reduceToInt, nI_toInt, tm1, tm2, tm3, tm4, tm9]; omega) | omega) ?_
                refine And.intro rfl (And.intro rfl (Exists.intro _ (Exists.intro _ (And.intro (c_isLane _) ?_))))
                refine br_t (by first | assumption | (simp (discharger := omega) only [i_lt, i_le, i_eq, bI_tz, decide_eq_false_iff_not, Int32.reduceToInt, nI_toInt, tm1, tm2, tm3, tm4, tm9]; done) | (simp (discharger := omega) only [i_lt, i_le, i_eq, bI_tz, decide_eq_false_iff_not, Int32.reduceToInt, nI_toInt, tm1, tm2, tm3, tm4, tm9]; omega) | omega) ?_
                refine And.intro rfl ?_
                refine And.intro (⟨rfl, ij⟩) ?_
                refine And.intro ⟨rfl, rfl⟩ (And.intro rfl (Exists.intro _ (Exists.intro _ (And.intro (c_takeRow (h := upI (nh h) 1 7 0) (a := 33) (shp_nh hs) kr lane) ?_))))
                rw [if_neg e9, if_neg e9, if_pos e0, if_pos e0]
                refine br_t (by rfl) ?_
                refine br_t (show (0 : Int32) ≤ n by first | assumption | (simp (discharger := omega) only [i_lt, i_le, i_eq, bI_tz, decide_eq_false_iff_not, Int32.reduceToInt, nI_toInt, tm1, tm2, tm3, tm4, tm9]; done) | (simp (discharger := omega) only [i_lt, i_le, i_eq, bI_tz, decide_eq_false_iff_not, Int32.reduceToInt, nI_toInt, tm1, tm2, tm3, tm4, tm9]; omega) | omega) ?_
                refine And.intro rfl ?_
                refine And.intro (⟨rfl, ij⟩) ?_
                refine And.intro ⟨rfl, rfl⟩ (And.intro rfl (Exists.intro _ (Exists.intro _ (And.intro (hl) ?_))))
                refine br_f (by rw [decide_eq_true q6]; decide) ?_
                refine And.intro ⟨rfl, rfl⟩ (And.intro rfl (Exists.intro _ (Exists.intro _ (And.intro (c_faulty (h := upI (nh h) 1 7 0) (shp_nh hs) 3) ?_))))
                rw [upI_upI]
                exact ⟨Or.inl rfl, rfl, rfl⟩
              · rw [if_neg q6]
                refine cc_nh (F := fun h => upI h 1 7 0) hs (cc_of 60 rfl rfl ?_)
                refine And.intro rfl ?_
                refine And.intro rfl (And.intro rfl (Exists.intro _ (Exists.intro _ (And.intro (c_isSheet _) ?_))))
                refine br_t (by first | assumption | (simp (discharger := omega) only [i_lt, i_le, i_eq, bI_tz, decide_eq_false_iff_not, Int32.reduceToInt, nI_toInt, tm1, tm2, tm3, tm4, tm9]; done) | (simp (discharger := omega) only [i_lt, i_le, i_eq, bI_tz, decide_eq_false_iff_not, Int32.reduceToInt, nI_toInt, tm1, tm2, tm3, tm4, tm9]; omega) | omega) ?_
                refine And.intro rfl (And.intro rfl (Exists.intro _ (Exists.intro _ (And.intro (c_isLane _) ?_))))
                refine br_t (by first | assumption | (simp (discharger := omega) only [i_lt, i_le, i_eq, bI_tz, decide_eq_false_iff_not, Int32.reduceToInt, nI_toInt, tm1, tm2, tm3, tm4, tm9]; done) | (simp (discharger := omega) only [i_lt, i_le, i_eq, bI_tz, decide_eq_false_iff_not, Int32.reduceToInt, nI_toInt, tm1, tm2, tm3, tm4, tm9]; omega) | omega) ?_
                refine And.intro rfl ?_
                refine And.intro (⟨rfl, ij⟩) ?_
                refine And.intro ⟨rfl, rfl⟩ (And.intro rfl (Exists.intro _ (Exists.intro _ (And.intro (c_takeRow (h := upI (nh h) 1 7 0) (a := 33) (shp_nh hs) kr lane) ?_))))
                rw [if_neg e9, if_neg e9, if_pos e0, if_pos e0]
                refine br_t (by rfl) ?_
                refine br_t (show (0 : Int32) ≤ n by first | assumption | (simp (discharger := omega) only [i_lt, i_le, i_eq, bI_tz, decide_eq_false_iff_not, Int32.reduceToInt, nI_toInt, tm1, tm2, tm3, tm4, tm9]; done) | (simp (discharger := omega) only [i_lt, i_le, i_eq, bI_tz, decide_eq_false_iff_not, Int32.reduceToInt, nI_toInt, tm1, tm2, tm3, tm4, tm9]; omega) | omega) ?_
                refine And.intro rfl ?_
                refine And.intro (⟨rfl, ij⟩) ?_
                refine And.intro ⟨rfl, rfl⟩ (And.intro rfl (Exists.intro _ (Exists.intro _ (And.intro (hl) ?_))))
                refine br_t (by rw [decide_eq_false q6]; decide) ?_
                exact ⟨Or.inl rfl, rfl, rfl⟩
          · rw [if_neg q4]
            have e0 : ¬ zI (upI (nh h) 1 7 0) 33 0 = lane := fun z => q4 (r3.symm.trans z)
            refine cc_nh (F := fun h => upI h 1 7 2) hs (cc_of 60 rfl rfl ?_)
            refine And.intro rfl ?_
            refine And.intro rfl (And.intro rfl (Exists.intro _ (Exists.intro _ (And.intro (c_isSheet _) ?_))))
            refine br_t (by first | assumption | (simp (discharger := omega) only [i_lt, i_le, i_eq, bI_tz, decide_eq_false_iff_not, Int32.reduceToInt, nI_toInt, tm1, tm2, tm3, tm4, tm9]; done) | (simp (discharger := omega) only [i_lt, i_le, i_eq, bI_tz, decide_eq_false_iff_not, Int32.reduceToInt, nI_toInt, tm1, tm2, tm3, tm4, tm9]; omega) | omega) ?_
            refine And.intro rfl (And.intro rfl (Exists.intro _ (Exists.intro _ (And.intro (c_isLane _) ?_))))
            refine br_t (by first | assumption | (simp (discharger := omega) only [i_lt, i_le, i_eq, bI_tz, decide_eq_false_iff_not, Int32.reduceToInt, nI_toInt, tm1, tm2, tm3, tm4, tm9]; done) | (simp (discharger := omega) only [i_lt, i_le, i_eq, bI_tz, decide_eq_false_iff_not, Int32.reduceToInt, nI_toInt, tm1, tm2, tm3, tm4, tm9]; omega) | omega) ?_
            refine And.intro rfl ?_
            refine And.intro (⟨rfl, ij⟩) ?_
            refine And.intro ⟨rfl, rfl⟩ (And.intro rfl (Exists.intro _ (Exists.intro _ (And.intro (c_takeRow (h := upI (nh h) 1 7 0) (a := 33) (shp_nh hs) kr lane) ?_))))
            rw [if_neg e9, if_neg e9, if_neg e0, if_neg e0, upI_upI]
            refine br_f (by decide) ?_
            exact ⟨Or.inl rfl, rfl, rfl⟩
      · obtain ⟨r1, r2⟩ := RowOK_ln (hr 2 (by decide))
        have kr : zK (nh h) 35 = 5 := rfl
        by_cases q3 : (zI h 61 2).toInt < 0
        · rw [if_pos q3]
          have e0 : zI h 35 0 = -9 := r1.mp q3
          refine cc_nh (F := fun h => upI h 1 7 1) hs (cc_of 60 rfl rfl ?_)
          refine And.intro rfl ?_
          refine And.intro rfl (And.intro rfl (Exists.intro _ (Exists.intro _ (And.intro (c_isSheet _) ?_))))
          refine br_t (by first | assumption | (simp (discharger := omega) only [i_lt, i_le, i_eq, bI_tz, decide_eq_false_iff_not, Int32.reduceToInt, nI_toInt, tm1, tm2, tm3, tm4, tm9]; done) | (simp (discharger := omega) only [i_lt, i_le, i_eq, bI_tz, decide_eq_false_iff_not, Int32.reduceToInt, nI_toInt, tm1, tm2, tm3, tm4, tm9]; omega) | omega) ?_
          refine And.intro rfl (And.intro rfl (Exists.intro _ (Exists.intro _ (And.intro (c_isLane _) ?_))))
          refine br_t (by first | assumption | (simp (discharger := omega) only [i_lt, i_le, i_eq, bI_tz, decide_eq_false_iff_not, Int32.reduceToInt, nI_toInt, tm1, tm2, tm3, tm4, tm9]; done) | (simp (discharger := omega) only [i_lt, i_le, i_eq, bI_tz, decide_eq_false_iff_not, Int32.reduceToInt, nI_toInt, tm1, tm2, tm3, tm4, tm9]; omega) | omega) ?_
          refine And.intro rfl ?_
          refine And.intro (⟨rfl, ij⟩) ?_
          refine And.intro ⟨rfl, rfl⟩ (And.intro rfl (Exists.intro _ (Exists.intro _ (And.intro (c_takeRow (h := upI (nh h) 1 7 0) (a := 35) (shp_nh hs) kr lane) ?_))))
          have e1 : zI (upI (nh h) 1 7 0) 35 0 = -9 := e0
          rw [if_pos e1, if_pos e1, upI_upI]
          refine br_f (by decide) ?_
          exact ⟨Or.inl rfl, rfl, rfl⟩
        · rw [if_neg q3]
          obtain ⟨r3, r4⟩ := r2 q3
          have e9 : ¬ zI (upI (nh h) 1 7 0) 35 0 = -9 := fun z => q3 (r1.mpr z)
          by_cases q4 : zI h 62 2 = lane
          · rw [if_pos q4]
            have e0 : zI (upI (nh h) 1 7 0) 35 0 = lane := r3.trans q4
            have e8 : zI (upI (nh h) 1 7 0) 35 1 = zI h 61 2 := r4
            by_cases q5 : n.toInt < 0
            · rw [if_pos q5]
              refine cc_nh (F := fun h => upI h 1 7 4) hs (cc_of 60 rfl rfl ?_)
              refine And.intro rfl ?_
              refine And.intro rfl (And.intro rfl (Exists.intro _ (Exists.intro _ (And.intro (c_isSheet _) ?_))))
              refine br_t (by first | assumption | (simp (discharger := omega) only [i_lt, i_le, i_eq, bI_tz, decide_eq_false_iff_not, Int32.reduceToInt, nI_toInt, tm1, tm2, tm3, tm4, tm9]; done) | (simp (discharger := omega) only [i_lt, i_le, i_eq, bI_tz, decide_eq_false_iff_not, Int32.reduceToInt, nI_toInt, tm1, tm2, tm3, tm4, tm9]; omega) | omega) ?_
              refine And.intro rfl (And.intro rfl (Exists.intro _ (Exists.intro _ (And.intro (c_isLane _) ?_))))
              refine br_t (by first | assumption | (simp (discharger := omega) only [i_lt, i_le, i_eq, bI_tz, decide_eq_false_iff_not, Int32.reduceToInt, nI_toInt, tm1, tm2, tm3, tm4, tm9]; done) | (simp (discharger := omega) only [i_lt, i_le, i_eq, bI_tz, decide_eq_false_iff_not, Int32.reduceToInt, nI_toInt, tm1, tm2, tm3, tm4, tm9]; omega) | omega) ?_
              refine And.intro rfl ?_
              refine And.intro (⟨rfl, ij⟩) ?_
              refine And.intro ⟨rfl, rfl⟩ (And.intro rfl (Exists.intro _ (Exists.intro _ (And.intro (c_takeRow (h := upI (nh h) 1 7 0) (a := 35) (shp_nh hs) kr lane) ?_))))
              rw [if_neg e9, if_neg e9, if_pos e0, if_pos e0]
              refine br_t (by rfl) ?_
              refine br_f (show ¬ ((0 : Int32) ≤ n) by first | assumption | (simp (discharger := omega) only [i_lt, i_le, i_eq, bI_tz, decide_eq_false_iff_not, Int32.reduceToInt, nI_toInt, tm1, tm2, tm3, tm4, tm9]; done) | (simp (discharger := omega) only [i_lt, i_le, i_eq, bI_tz, decide_eq_false_iff_not, Int32.reduceToInt, nI_toInt, tm1, tm2, tm3, tm4, tm9]; omega) | omega) ?_
              refine And.intro ⟨rfl, rfl⟩ (And.intro rfl (Exists.intro _ (Exists.intro _ (And.intro (c_faulty (h := upI (nh h) 1 7 0) (shp_nh hs) 4) ?_))))
              rw [upI_upI]
              exact ⟨Or.inl rfl, rfl, rfl⟩
            · rw [if_neg q5]
              have hl := c_lacks (sc := sc) (h := upI (nh h) 1 7 0) (a := 35) kr i n (by omega) (by rw [e8]; omega)
              rw [e8] at hl
              by_cases q6 : i.toInt < 0 ∨ (zI h 61 2).toInt < i.toInt + n.toInt
              · rw [if_pos q6]
                refine cc_nh (F := fun h => upI h 1 7 3) hs (cc_of 60 rfl rfl ?_)
                refine And.intro rfl ?_
                refine And.intro rfl (And.intro rfl (Exists.intro _ (Exists.intro _ (And.intro (c_isSheet _) ?_))))
                refine br_t (by first | assumption | (simp (discharger := omega) only [i_lt, i_le, i_eq, bI_tz, decide_eq_false_iff_not, Int32.reduceToInt, nI_toInt, tm1, tm2, tm3, tm4, tm9]; done) | (simp (discharger := omega) only [i_lt, i_le, i_eq, bI_tz, decide_eq_false_iff_not, Int32.reduceToInt, nI_toInt, tm1, tm2, tm3, tm4, tm9]; omega) | omega) ?_
                refine And.intro rfl (And.intro rfl (Exists.intro _ (Exists.intro _ (And.intro (c_isLane _) ?_))))
                refine br_t (by first | assumption | (simp (discharger := omega) only [i_lt, i_le, i_eq, bI_tz, decide_eq_false_iff_not, Int32.reduceToInt, nI_toInt, tm1, tm2, tm3, tm4, tm9]; done) | (simp (discharger := omega) only [i_lt, i_le, i_eq, bI_tz, decide_eq_false_iff_not, Int32.reduceToInt, nI_toInt, tm1, tm2, tm3, tm4, tm9]; omega) | omega) ?_
                refine And.intro rfl ?_
                refine And.intro (⟨rfl, ij⟩) ?_
                refine And.intro ⟨rfl, rfl⟩ (And.intro rfl (Exists.intro _ (Exists.intro _ (And.intro (c_takeRow (h := upI (nh h) 1 7 0) (a := 35) (shp_nh hs) kr lane) ?_))))
                rw [if_neg e9, if_neg e9, if_pos e0, if_pos e0]
                refine br_t (by rfl) ?_
                refine br_t (show (0 : Int32) ≤ n by first | assumption | (simp (discharger := omega) only [i_lt, i_le, i_eq, bI_tz, decide_eq_false_iff_not, Int32.reduceToInt, nI_toInt, tm1, tm2, tm3, tm4, tm9]; done) | (simp (discharger := omega) only [i_lt, i_le, i_eq, bI_tz, decide_eq_false_iff_not, Int32.reduceToInt, nI_toInt, tm1, tm2, tm3, tm4, tm9]; omega) | omega) ?_
                refine And.intro rfl ?_
                refine And.intro (⟨rfl, ij⟩) ?_
                refine And.intro ⟨rfl, rfl⟩ (And.intro rfl (Exists.intro _ (Exists.intro _ (And.intro (hl) ?_))))
                refine br_f (by rw [decide_eq_true q6]; decide) ?_
                refine And.intro ⟨rfl, rfl⟩ (And.intro rfl (Exists.intro _ (Exists.intro _ (And.intro (c_faulty (h := upI (nh h) 1 7 0) (shp_nh hs) 3) ?_))))
                rw [upI_upI]
                exact ⟨Or.inl rfl, rfl, rfl⟩
              · rw [if_neg q6]
                refine cc_nh (F := fun h => upI h 1 7 0) hs (cc_of 60 rfl rfl ?_)
                refine And.intro rfl ?_
                refine And.intro rfl (And.intro rfl (Exists.intro _ (Exists.intro _ (And.intro (c_isSheet _) ?_))))
                refine br_t (by first | assumption | (simp (discharger := omega) only [i_lt, i_le, i_eq, bI_tz, decide_eq_false_iff_not, Int32.reduceToInt, nI_toInt, tm1, tm2, tm3, tm4, tm9]; done) | (simp (discharger := omega) only [i_lt, i_le, i_eq, bI_tz, decide_eq_false_iff_not, Int32.reduceToInt, nI_toInt, tm1, tm2, tm3, tm4, tm9]; omega) | omega) ?_
                refine And.intro rfl (And.intro rfl (Exists.intro _ (Exists.intro _ (And.intro (c_isLane _) ?_))))
                refine br_t (by first | assumption | (simp (discharger := omega) only [i_lt, i_le, i_eq, bI_tz, decide_eq_false_iff_not, Int32.reduceToInt, nI_toInt, tm1, tm2, tm3, tm4, tm9]; done) | (simp (discharger := omega) only [i_lt, i_le, i_eq, bI_tz, decide_eq_false_iff_not, Int32.reduceToInt, nI_toInt, tm1, tm2, tm3, tm4, tm9]; omega) | omega) ?_
                refine And.intro rfl ?_
                refine And.intro (⟨rfl, ij⟩) ?_
                refine And.intro ⟨rfl, rfl⟩ (And.intro rfl (Exists.intro _ (Exists.intro _ (And.intro (c_takeRow (h := upI (nh h) 1 7 0) (a := 35) (shp_nh hs) kr lane) ?_))))
                rw [if_neg e9, if_neg e9, if_pos e0, if_pos e0]
                refine br_t (by rfl) ?_
                refine br_t (show (0 : Int32) ≤ n by first | assumption | (simp (discharger := omega) only [i_lt, i_le, i_eq, bI_tz, decide_eq_false_iff_not, Int32.reduceToInt, nI_toInt, tm1, tm2, tm3, tm4, tm9]; done) | (simp (discharger := omega) only [i_lt, i_le, i_eq, bI_tz, decide_eq_false_iff_not, Int32.reduceToInt, nI_toInt, tm1, tm2, tm3, tm4, tm9]; omega) | omega) ?_
                refine And.intro rfl ?_
                refine And.intro (⟨rfl, ij⟩) ?_
                refine And.intro ⟨rfl, rfl⟩ (And.intro rfl (Exists.intro _ (Exists.intro _ (And.intro (hl) ?_))))
                refine br_t (by rw [decide_eq_false q6]; decide) ?_
                exact ⟨Or.inl rfl, rfl, rfl⟩
          · rw [if_neg q4]
            have e0 : ¬ zI (upI (nh h) 1 7 0) 35 0 = lane := fun z => q4 (r3.symm.trans z)
            refine cc_nh (F := fun h => upI h 1 7 2) hs (cc_of 60 rfl rfl ?_)
            refine And.intro rfl ?_
            refine And.intro rfl (And.intro rfl (Exists.intro _ (Exists.intro _ (And.intro (c_isSheet _) ?_))))
            refine br_t (by first | assumption | (simp (discharger := omega) only [i_lt, i_le, i_eq, bI_tz, decide_eq_false_iff_not, Int32.reduceToInt, nI_toInt, tm1, tm2, tm3, tm4, tm9]; done) | (simp (discharger := omega) only [i_lt, i_le, i_eq, bI_tz, decide_eq_false_iff_not, Int32.reduceToInt, nI_toInt, tm1, tm2, tm3, tm4, tm9]; omega) | omega) ?_
            refine And.intro rfl (And.intro rfl (Exists.intro _ (Exists.intro _ (And.intro (c_isLane _) ?_))))
            refine br_t (by first | assumption | (simp (discharger := omega) only [i_lt, i_le, i_eq, bI_tz, decide_eq_false_iff_not, Int32.reduceToInt, nI_toInt, tm1, tm2, tm3, tm4, tm9]; done) | (simp (discharger := omega) only [i_lt, i_le, i_eq, bI_tz, decide_eq_false_iff_not, Int32.reduceToInt, nI_toInt, tm1, tm2, tm3, tm4, tm9]; omega) | omega) ?_
            refine And.intro rfl ?_
            refine And.intro (⟨rfl, ij⟩) ?_
            refine And.intro ⟨rfl, rfl⟩ (And.intro rfl (Exists.intro _ (Exists.intro _ (And.intro (c_takeRow (h := upI (nh h) 1 7 0) (a := 35) (shp_nh hs) kr lane) ?_))))
            rw [if_neg e9, if_neg e9, if_neg e0, if_neg e0, upI_upI]
            refine br_f (by decide) ?_
            exact ⟨Or.inl rfl, rfl, rfl⟩
      · obtain ⟨r1, r2⟩ := RowOK_ln (hr 3 (by decide))
        have kr : zK (nh h) 37 = 5 := rfl
        by_cases q3 : (zI h 61 3).toInt < 0
        · rw [if_pos q3]
          have e0 : zI h 37 0 = -9 := r1.mp q3
          refine cc_nh (F := fun h => upI h 1 7 1) hs (cc_of 60 rfl rfl ?_)
          refine And.intro rfl ?_
          refine And.intro rfl (And.intro rfl (Exists.intro _ (Exists.intro _ (And.intro (c_isSheet _) ?_))))
          refine br_t (by first | assumption | (simp (discharger := omega) only [i_lt, i_le, i_eq, bI_tz, decide_eq_false_iff_not, Int32.reduceToInt, nI_toInt, tm1, tm2, tm3, tm4, tm9]; done) | (simp (discharger := omega) only [i_lt, i_le, i_eq, bI_tz, decide_eq_false_iff_not, Int32.reduceToInt, nI_toInt, tm1, tm2, tm3, tm4, tm9]; omega) | omega) ?_
          refine And.intro rfl (And.intro rfl (Exists.intro _ (Exists.intro _ (And.intro (c_isLane _) ?_))))
          refine br_t (by first | assumption | (simp (discharger := omega) only [i_lt, i_le, i_eq, bI_tz, decide_eq_false_iff_not, Int32.reduceToInt, nI_toInt, tm1, tm2, tm3, tm4, tm9]; done) | (simp (discharger := omega) only [i_lt, i_le, i_eq, bI_tz, decide_eq_false_iff_not, Int32.reduceToInt, nI_toInt, tm1, tm2, tm3, tm4, tm9]; omega) | omega) ?_
          refine And.intro rfl ?_
          refine And.intro (⟨rfl, ij⟩) ?_
          refine And.intro ⟨rfl, rfl⟩ (And.intro rfl (Exists.intro _ (Exists.intro _ (And.intro (c_takeRow (h := upI (nh h) 1 7 0) (a := 37) (shp_nh hs) kr lane) ?_))))
          have e1 : zI (upI (nh h) 1 7 0) 37 0 = -9 := e0
          rw [if_pos e1, if_pos e1, upI_upI]
          refine br_f (by decide) ?_
          exact ⟨Or.inl rfl, rfl, rfl⟩
        · rw [if_neg q3]
          obtain ⟨r3, r4⟩ := r2 q3
          have e9 : ¬ zI (upI (nh h) 1 7 0) 37 0 = -9 := fun z => q3 (r1.mpr z)
          by_cases q4 : zI h 62 3 = lane
          · rw [if_pos q4]
            have e0 : zI (upI (nh h) 1 7 0) 37 0 = lane := r3.trans q4
            have e8 : zI (upI (nh h) 1 7 0) 37 1 = zI h 61 3 := r4
            by_cases q5 : n.toInt < 0
            · rw [if_pos q5]
              refine cc_nh (F := fun h => upI h 1 7 4) hs (cc_of 60 rfl rfl ?_)
              refine And.intro rfl ?_
              refine And.intro rfl (And.intro rfl (Exists.intro _ (Exists.intro _ (And.intro (c_isSheet _) ?_))))
              refine br_t (by first | assumption | (simp (discharger := omega) only [i_lt, i_le, i_eq, bI_tz, decide_eq_false_iff_not, Int32.reduceToInt, nI_toInt, tm1, tm2, tm3, tm4, tm9]; done) | (simp (discharger := omega) only [i_lt, i_le, i_eq, bI_tz, decide_eq_false_iff_not, Int32.reduceToInt, nI_toInt, tm1, tm2, tm3, tm4, tm9]; omega) | omega) ?_
              refine And.intro rfl (And.intro rfl (Exists.intro _ (Exists.intro _ (And.intro (c_isLane _) ?_))))
              refine br_t (by first | assumption | (simp (discharger := omega) only [i_lt, i_le, i_eq, bI_tz, decide_eq_false_iff_not, Int32.reduceToInt, nI_toInt, tm1, tm2, tm3, tm4, tm9]; done) | (simp (discharger := omega) only [i_lt, i_le, i_eq, bI_tz, decide_eq_false_iff_not, Int32.reduceToInt, nI_toInt, tm1, tm2, tm3, tm4, tm9]; omega) | omega) ?_
              refine And.intro rfl ?_
              refine And.intro (⟨rfl, ij⟩) ?_
              refine And.intro ⟨rfl, rfl⟩ (And.intro rfl (Exists.intro _ (Exists.intro _ (And.intro (c_takeRow (h := upI (nh h) 1 7 0) (a := 37) (shp_nh hs) kr lane) ?_))))
              rw [if_neg e9, if_neg e9, if_pos e0, if_pos e0]
              refine br_t (by rfl) ?_
              refine br_f (show ¬ ((0 : Int32) ≤ n) by first | assumption | (simp (discharger := omega) only [i_lt, i_le, i_eq, bI_tz, decide_eq_false_iff_not, Int32.reduceToInt, nI_toInt, tm1, tm2, tm3, tm4, tm9]; done) | (simp (discharger := omega) only [i_lt, i_le, i_eq, bI_tz, decide_eq_false_iff_not, Int32.reduceToInt, nI_toInt, tm1, tm2, tm3, tm4, tm9]; omega) | omega) ?_
              refine And.intro ⟨rfl, rfl⟩ (And.intro rfl (Exists.intro _ (Exists.intro _ (And.intro (c_faulty (h := upI (nh h) 1 7 0) (shp_nh hs) 4) ?_))))
              rw [upI_upI]
              exact ⟨Or.inl rfl, rfl, rfl⟩
            · rw [if_neg q5]
              have hl := c_lacks (sc := sc) (h := upI (nh h) 1 7 0) (a := 37) kr i n (by omega) (by rw [e8]; omega)
              rw [e8] at hl
              by_cases q6 : i.toInt < 0 ∨ (zI h 61 3).toInt < i.toInt + n.toInt
              · rw [if_pos q6]
                refine cc_nh (F := fun h => upI h 1 7 3) hs (cc_of 60 rfl rfl ?_)
                refine And.intro rfl ?_
                refine And.intro rfl (And.intro rfl (Exists.intro _ (Exists.intro _ (And.intro (c_isSheet _) ?_))))
                refine br_t (by first | assumption | (simp (discharger := omega) only [i_lt, i_le, i_eq, bI_tz, decide_eq_false_iff_not, Int32.reduceToInt, nI_toInt, tm1, tm2, tm3, tm4, tm9]; done) | (simp (discharger := omega) only [i_lt, i_le, i_eq, bI_tz, decide_eq_false_iff_not, Int32.reduceToInt, nI_toInt, tm1, tm2, tm3, tm4, tm9]; omega) | omega) ?_
                refine And.intro rfl (And.intro rfl (Exists.intro _ (Exists.intro _ (And.intro (c_isLane _) ?_))))
                refine br_t (by first | assumption | (simp (discharger := omega) only [i_lt, i_le, i_eq, bI_tz, decide_eq_false_iff_not, Int32.reduceToInt, nI_toInt, tm1, tm2, tm3, tm4, tm9]; done) | (simp (discharger := omega) only [i_lt, i_le, i_eq, bI_tz, decide_eq_false_iff_not, Int32.reduceToInt, nI_toInt, tm1, tm2, tm3, tm4, tm9]; omega) | omega) ?_
                refine And.intro rfl ?_
                refine And.intro (⟨rfl, ij⟩) ?_
                refine And.intro ⟨rfl, rfl⟩ (And.intro rfl (Exists.intro _ (Exists.intro _ (And.intro (c_takeRow (h := upI (nh h) 1 7 0) (a := 37) (shp_nh hs) kr lane) ?_))))
                rw [if_neg e9, if_neg e9, if_pos e0, if_pos e0]
                refine br_t (by rfl) ?_
                refine br_t (show (0 : Int32) ≤ n by first | assumption | (simp (discharger := omega) only [i_lt, i_le, i_eq, bI_tz, decide_eq_false_iff_not, Int32.reduceToInt, nI_toInt, tm1, tm2, tm3, tm4, tm9]; done) | (simp (discharger := omega) only [i_lt, i_le, i_eq, bI_tz, decide_eq_false_iff_not, Int32.reduceToInt, nI_toInt, tm1, tm2, tm3, tm4, tm9]; omega) | omega) ?_
                refine And.intro rfl ?_
                refine And.intro (⟨rfl, ij⟩) ?_
                refine And.intro ⟨rfl, rfl⟩ (And.intro rfl (Exists.intro _ (Exists.intro _ (And.intro (hl) ?_))))
                refine br_f (by rw [decide_eq_true q6]; decide) ?_
                refine And.intro ⟨rfl, rfl⟩ (And.intro rfl (Exists.intro _ (Exists.intro _ (And.intro (c_faulty (h := upI (nh h) 1 7 0) (shp_nh hs) 3) ?_))))
                rw [upI_upI]
                exact ⟨Or.inl rfl, rfl, rfl⟩
              · rw [if_neg q6]
                refine cc_nh (F := fun h => upI h 1 7 0) hs (cc_of 60 rfl rfl ?_)
                refine And.intro rfl ?_
                refine And.intro rfl (And.intro rfl (Exists.intro _ (Exists.intro _ (And.intro (c_isSheet _) ?_))))
                refine br_t (by first | assumption | (simp (discharger := omega) only [i_lt, i_le, i_eq, bI_tz, decide_eq_false_iff_not, Int32.reduceToInt, nI_toInt, tm1, tm2, tm3, tm4, tm9]; done) | (simp (discharger := omega) only [i_lt, i_le, i_eq, bI_tz, decide_eq_false_iff_not, Int32.reduceToInt, nI_toInt, tm1, tm2, tm3, tm4, tm9]; omega) | omega) ?_
                refine And.intro rfl (And.intro rfl (Exists.intro _ (Exists.intro _ (And.intro (c_isLane _) ?_))))
                refine br_t (by first | assumption | (simp (discharger := omega) only [i_lt, i_le, i_eq, bI_tz, decide_eq_false_iff_not, Int32.reduceToInt, nI_toInt, tm1, tm2, tm3, tm4, tm9]; done) | (simp (discharger := omega) only [i_lt, i_le, i_eq, bI_tz, decide_eq_false_iff_not, Int32.reduceToInt, nI_toInt, tm1, tm2, tm3, tm4, tm9]; omega) | omega) ?_
                refine And.intro rfl ?_
                refine And.intro (⟨rfl, ij⟩) ?_
                refine And.intro ⟨rfl, rfl⟩ (And.intro rfl (Exists.intro _ (Exists.intro _ (And.intro (c_takeRow (h := upI (nh h) 1 7 0) (a := 37) (shp_nh hs) kr lane) ?_))))
                rw [if_neg e9, if_neg e9, if_pos e0, if_pos e0]
                refine br_t (by rfl) ?_
                refine br_t (show (0 : Int32) ≤ n by first | assumption | (simp (discharger := omega) only [i_lt, i_le, i_eq, bI_tz, decide_eq_false_iff_not, Int32.reduceToInt, nI_toInt, tm1, tm2, tm3, tm4, tm9]; done) | (simp (discharger := omega) only [i_lt, i_le, i_eq, bI_tz, decide_eq_false_iff_not, Int32.reduceToInt, nI_toInt, tm1, tm2, tm3, tm4, tm9]; omega) | omega) ?_
                refine And.intro rfl ?_
                refine And.intro (⟨rfl, ij⟩) ?_
                refine And.intro ⟨rfl, rfl⟩ (And.intro rfl (Exists.intro _ (Exists.intro _ (And.intro (hl) ?_))))
                refine br_t (by rw [decide_eq_false q6]; decide) ?_
                exact ⟨Or.inl rfl, rfl, rfl⟩
          · rw [if_neg q4]
            have e0 : ¬ zI (upI (nh h) 1 7 0) 37 0 = lane := fun z => q4 (r3.symm.trans z)
            refine cc_nh (F := fun h => upI h 1 7 2) hs (cc_of 60 rfl rfl ?_)
            refine And.intro rfl ?_
            refine And.intro rfl (And.intro rfl (Exists.intro _ (Exists.intro _ (And.intro (c_isSheet _) ?_))))
            refine br_t (by first | assumption | (simp (discharger := omega) only [i_lt, i_le, i_eq, bI_tz, decide_eq_false_iff_not, Int32.reduceToInt, nI_toInt, tm1, tm2, tm3, tm4, tm9]; done) | (simp (discharger := omega) only [i_lt, i_le, i_eq, bI_tz, decide_eq_false_iff_not, Int32.reduceToInt, nI_toInt, tm1, tm2, tm3, tm4, tm9]; omega) | omega) ?_
            refine And.intro rfl (And.intro rfl (Exists.intro _ (Exists.intro _ (And.intro (c_isLane _) ?_))))
            refine br_t (by first | assumption | (simp (discharger := omega) only [i_lt, i_le, i_eq, bI_tz, decide_eq_false_iff_not, Int32.reduceToInt, nI_toInt, tm1, tm2, tm3, tm4, tm9]; done) | (simp (discharger := omega) only [i_lt, i_le, i_eq, bI_tz, decide_eq_false_iff_not, Int32.reduceToInt, nI_toInt, tm1, tm2, tm3, tm4, tm9]; omega) | omega) ?_
            refine And.intro rfl ?_
            refine And.intro (⟨rfl, ij⟩) ?_
            refine And.intro ⟨rfl, rfl⟩ (And.intro rfl (Exists.intro _ (Exists.intro _ (And.intro (c_takeRow (h := upI (nh h) 1 7 0) (a := 37) (shp_nh hs) kr lane) ?_))))
            rw [if_neg e9, if_neg e9, if_neg e0, if_neg e0, upI_upI]
            refine br_f (by decide) ?_
            exact ⟨Or.inl rfl, rfl, rfl⟩
    · rw [if_neg q2]
      refine cc_nh (F := fun h => upI h 1 7 0) hs (cc_of 60 rfl rfl ?_)
      refine And.intro rfl ?_
      refine And.intro rfl (And.intro rfl (Exists.intro _ (Exists.intro _ (And.intro (c_isSheet _) ?_))))
      refine br_t (by first | assumption | (simp (discharger := omega) only [i_lt, i_le, i_eq, bI_tz, decide_eq_false_iff_not, Int32.reduceToInt, nI_toInt, tm1, tm2, tm3, tm4, tm9]; done) | (simp (discharger := omega) only [i_lt, i_le, i_eq, bI_tz, decide_eq_false_iff_not, Int32.reduceToInt, nI_toInt, tm1, tm2, tm3, tm4, tm9]; omega) | omega) ?_
      refine And.intro rfl (And.intro rfl (Exists.intro _ (Exists.intro _ (And.intro (c_isLane _) ?_))))
      refine br_f (by first | assumption | (simp (discharger := omega) only [i_lt, i_le, i_eq, bI_tz, decide_eq_false_iff_not, Int32.reduceToInt, nI_toInt, tm1, tm2, tm3, tm4, tm9]; done) | (simp (discharger := omega) only [i_lt, i_le, i_eq, bI_tz, decide_eq_false_iff_not, Int32.reduceToInt, nI_toInt, tm1, tm2, tm3, tm4, tm9]; omega) | omega) ?_
      exact ⟨Or.inl rfl, rfl, rfl⟩
  · rw [if_neg q1]
    refine cc_nh (F := fun h => upI h 1 7 0) hs (cc_of 60 rfl rfl ?_)
    refine And.intro rfl ?_
    refine And.intro rfl (And.intro rfl (Exists.intro _ (Exists.intro _ (And.intro (c_isSheet _) ?_))))
    refine br_f (by first | assumption | (simp (discharger := omega) only [i_lt, i_le, i_eq, bI_tz, decide_eq_false_iff_not, Int32.reduceToInt, nI_toInt, tm1, tm2, tm3, tm4, tm9]; done) | (simp (discharger := omega) only [i_lt, i_le, i_eq, bI_tz, decide_eq_false_iff_not, Int32.reduceToInt, nI_toInt, tm1, tm2, tm3, tm4, tm9]; omega) | omega) ?_
    exact ⟨Or.inl rfl, rfl, rfl⟩
end
end
section
section
variable {sc : Nat × (Nat → Int32)} {h : Hp}
theorem c_in02 (k : Int32) : Cc sc 139 [.long k.toInt64, .long 0, .long 2] h (some (.int (bI (decide (0 ≤ k.toInt ∧ k.toInt < 3))))) h := by
  have := c_in (sc := sc) (h := h) k.toInt64 0 2
  rw [wide, show (0 : Int64).toInt = 0 by decide, show (2 : Int64).toInt = 2 by decide] at this
  have e : (0 ≤ k.toInt ∧ k.toInt ≤ 2) = (0 ≤ k.toInt ∧ k.toInt < 3) := propext ⟨fun q => ⟨q.1, by omega⟩, fun q => ⟨q.1, by omega⟩⟩
  simp only [e] at this
  exact this
theorem c_isBeyond (i n a : Int32) : Cc sc 212 [.int i, .long n.toInt64, .int a] h (some (.int (bI (decide (i.toInt < 0 ∨ n.toInt < 0 ∨ a.toInt < i.toInt + n.toInt))))) h := by
  have b1 := i_bd i
  have b2 := i_bd n
  have b3 := i_bd a
  have e : (i.toInt64 + n.toInt64).toInt = i.toInt + n.toInt := by rw [l_add] <;> rw [wide, wide] <;> omega
  refine cc_of 30 rfl rfl ?_
  by_cases q1 : i.toInt < 0
  · refine br_t (show i < 0 by first | assumption | (simp (discharger := omega) only [i_lt, i_le, i_eq, bI_tz, decide_eq_false_iff_not, Int32.reduceToInt, nI_toInt, tm1, tm2, tm3, tm4, tm9]; done) | (simp (discharger := omega) only [i_lt, i_le, i_eq, bI_tz, decide_eq_false_iff_not, Int32.reduceToInt, nI_toInt, tm1, tm2, tm3, tm4, tm9]; omega) | omega) ?_
    exact ⟨Or.inr ⟨rfl, Or.inr rfl⟩, by rw [decide_eq_true (Or.inl q1)]; rfl, rfl⟩
  · refine br_f (show ¬ (i < 0) by first | assumption | (simp (discharger := omega) only [i_lt, i_le, i_eq, bI_tz, decide_eq_false_iff_not, Int32.reduceToInt, nI_toInt, tm1, tm2, tm3, tm4, tm9]; done) | (simp (discharger := omega) only [i_lt, i_le, i_eq, bI_tz, decide_eq_false_iff_not, Int32.reduceToInt, nI_toInt, tm1, tm2, tm3, tm4, tm9]; omega) | omega) ?_
    by_cases q2 : n.toInt < 0
    · refine br_t ((cmp_lt _ _).mpr (by rw [wide, show (0 : Int64).toInt = 0 by decide]; exact q2)) ?_
      exact ⟨Or.inr ⟨rfl, Or.inr rfl⟩, by rw [decide_eq_true (Or.inr (Or.inl q2))]; rfl, rfl⟩
    · refine br_f (fun z => q2 (by have z := (cmp_lt _ _).mp z; rw [wide, show (0 : Int64).toInt = 0 by decide] at z; exact z)) ?_
      by_cases q3 : a.toInt < i.toInt + n.toInt
      · refine br_f (fun z => by have z := (cmp_le0 _ _).mp z; rw [wide, e] at z; omega) ?_
        exact ⟨Or.inr ⟨rfl, Or.inr rfl⟩, by rw [decide_eq_true (Or.inr (Or.inr q3))]; rfl, rfl⟩
      · refine br_t ((cmp_le0 _ _).mpr (by rw [wide, e]; omega)) ?_
        exact ⟨Or.inr ⟨rfl, Or.inl rfl⟩, by rw [bI_eq (by omega)], rfl⟩
theorem c_barred (hs : Shp h) (k lane i n : Int32) : Cc sc 146 [.ref 39, .int k, .int lane, .int i, .long n.toInt64] h (some (.int (tk (zI h 61) (zI h 62) k lane i n).1)) (if (tk (zI h 61) (zI h 62) k lane i n).1 = 0 then h else upI h 39 0 (tk (zI h 61) (zI h 62) k lane i n).2) := by
  unfold tk
  by_cases q1 : 0 ≤ k.toInt ∧ k.toInt < 4
  · rw [if_pos q1]
    obtain ⟨j, hj, rfl⟩ := i_of q1.1 (n := 4) q1.2 (by decide)
    have ij : inB (nI j) 4 = true := inB_nI hj (by decide)
    have ej : (nI j).toNatClampNeg = j := nI_clamp (by omega)
    rw [ej]
    by_cases q2 : 0 ≤ lane.toInt ∧ lane.toInt < 3
    · rw [if_pos q2]
      by_cases q3 : (zI h 61 j).toInt < 0
      · rw [if_pos q3]
        refine cc_nh (F := fun h => upI h 39 0 1) hs (cc_of 60 rfl rfl ?_)
        refine And.intro rfl (And.intro rfl (Exists.intro _ (Exists.intro _ (And.intro (c_noSheet _) ?_))))
        refine br_t (by first | assumption | (simp (discharger := omega) only [i_lt, i_le, i_eq, bI_tz, decide_eq_false_iff_not, Int32.reduceToInt, nI_toInt, tm1, tm2, tm3, tm4, tm9]; done) | (simp (discharger := omega) only [i_lt, i_le, i_eq, bI_tz, decide_eq_false_iff_not, Int32.reduceToInt, nI_toInt, tm1, tm2, tm3, tm4, tm9]; omega) | omega) ?_
        refine And.intro rfl (And.intro rfl (Exists.intro _ (Exists.intro _ (And.intro (c_in02 _) ?_))))
        refine br_t (by first | assumption | (simp (discharger := omega) only [i_lt, i_le, i_eq, bI_tz, decide_eq_false_iff_not, Int32.reduceToInt, nI_toInt, tm1, tm2, tm3, tm4, tm9]; done) | (simp (discharger := omega) only [i_lt, i_le, i_eq, bI_tz, decide_eq_false_iff_not, Int32.reduceToInt, nI_toInt, tm1, tm2, tm3, tm4, tm9]; omega) | omega) ?_
        refine And.intro rfl ?_
        refine And.intro (⟨rfl, ij⟩) ?_
        rw [ej]
        refine br_t (show zI h 61 j < 0 by first | assumption | (simp (discharger := omega) only [i_lt, i_le, i_eq, bI_tz, decide_eq_false_iff_not, Int32.reduceToInt, nI_toInt, tm1, tm2, tm3, tm4, tm9]; done) | (simp (discharger := omega) only [i_lt, i_le, i_eq, bI_tz, decide_eq_false_iff_not, Int32.reduceToInt, nI_toInt, tm1, tm2, tm3, tm4, tm9]; omega) | omega) ?_
        refine And.intro rfl ?_
        refine And.intro (⟨rfl, ij⟩) ?_
        rw [ej]
        refine br_f (show ¬ ((0 : Int32) ≤ zI h 61 j) by first | assumption | (simp (discharger := omega) only [i_lt, i_le, i_eq, bI_tz, decide_eq_false_iff_not, Int32.reduceToInt, nI_toInt, tm1, tm2, tm3, tm4, tm9]; done) | (simp (discharger := omega) only [i_lt, i_le, i_eq, bI_tz, decide_eq_false_iff_not, Int32.reduceToInt, nI_toInt, tm1, tm2, tm3, tm4, tm9]; omega) | omega) ?_
        refine And.intro ⟨rfl, rfl⟩ (And.intro rfl (Exists.intro _ (Exists.intro _ (And.intro (c_failed (h := nh h) (shp_nh hs) 1) ?_))))
        exact ⟨Or.inl rfl, rfl, rfl⟩
      · rw [if_neg q3]
        by_cases q4 : zI h 62 j = lane
        · rw [if_pos q4]
          by_cases q5 : n.toInt < 0
          · rw [if_pos q5]
            refine cc_nh (F := fun h => upI h 39 0 4) hs (cc_of 60 rfl rfl ?_)
            refine And.intro rfl (And.intro rfl (Exists.intro _ (Exists.intro _ (And.intro (c_noSheet _) ?_))))
            refine br_t (by first | assumption | (simp (discharger := omega) only [i_lt, i_le, i_eq, bI_tz, decide_eq_false_iff_not, Int32.reduceToInt, nI_toInt, tm1, tm2, tm3, tm4, tm9]; done) | (simp (discharger := omega) only [i_lt, i_le, i_eq, bI_tz, decide_eq_false_iff_not, Int32.reduceToInt, nI_toInt, tm1, tm2, tm3, tm4, tm9]; omega) | omega) ?_
            refine And.intro rfl (And.intro rfl (Exists.intro _ (Exists.intro _ (And.intro (c_in02 _) ?_))))
            refine br_t (by first | assumption | (simp (discharger := omega) only [i_lt, i_le, i_eq, bI_tz, decide_eq_false_iff_not, Int32.reduceToInt, nI_toInt, tm1, tm2, tm3, tm4, tm9]; done) | (simp (discharger := omega) only [i_lt, i_le, i_eq, bI_tz, decide_eq_false_iff_not, Int32.reduceToInt, nI_toInt, tm1, tm2, tm3, tm4, tm9]; omega) | omega) ?_
            refine And.intro rfl ?_
            refine And.intro (⟨rfl, ij⟩) ?_
            rw [ej]
            refine br_f (show ¬ (zI h 61 j < 0) by first | assumption | (simp (discharger := omega) only [i_lt, i_le, i_eq, bI_tz, decide_eq_false_iff_not, Int32.reduceToInt, nI_toInt, tm1, tm2, tm3, tm4, tm9]; done) | (simp (discharger := omega) only [i_lt, i_le, i_eq, bI_tz, decide_eq_false_iff_not, Int32.reduceToInt, nI_toInt, tm1, tm2, tm3, tm4, tm9]; omega) | omega) ?_
            refine And.intro rfl ?_
            refine And.intro (⟨rfl, ij⟩) ?_
            rw [ej]
            refine br_t q4 ?_
            refine And.intro rfl ?_
            refine And.intro (⟨rfl, ij⟩) ?_
            rw [ej]
            refine br_t (show (0 : Int32) ≤ zI h 61 j by first | assumption | (simp (discharger := omega) only [i_lt, i_le, i_eq, bI_tz, decide_eq_false_iff_not, Int32.reduceToInt, nI_toInt, tm1, tm2, tm3, tm4, tm9]; done) | (simp (discharger := omega) only [i_lt, i_le, i_eq, bI_tz, decide_eq_false_iff_not, Int32.reduceToInt, nI_toInt, tm1, tm2, tm3, tm4, tm9]; omega) | omega) ?_
            refine br_f (fun z => by have z := (cmp_ge0 _ _).mp z; rw [wide, show (0 : Int64).toInt = 0 by decide] at z; omega) ?_
            refine And.intro ⟨rfl, rfl⟩ (And.intro rfl (Exists.intro _ (Exists.intro _ (And.intro (c_failed (h := nh h) (shp_nh hs) 4) ?_))))
            exact ⟨Or.inl rfl, rfl, rfl⟩
          · rw [if_neg q5]
            by_cases q6 : i.toInt < 0 ∨ (zI h 61 j).toInt < i.toInt + n.toInt
            · rw [if_pos q6]
              refine cc_nh (F := fun h => upI h 39 0 3) hs (cc_of 60 rfl rfl ?_)
              refine And.intro rfl (And.intro rfl (Exists.intro _ (Exists.intro _ (And.intro (c_noSheet _) ?_))))
              refine br_t (by first | assumption | (simp (discharger := omega) only [i_lt, i_le, i_eq, bI_tz, decide_eq_false_iff_not, Int32.reduceToInt, nI_toInt, tm1, tm2, tm3, tm4, tm9]; done) | (simp (discharger := omega) only [i_lt, i_le, i_eq, bI_tz, decide_eq_false_iff_not, Int32.reduceToInt, nI_toInt, tm1, tm2, tm3, tm4, tm9]; omega) | omega) ?_
              refine And.intro rfl (And.intro rfl (Exists.intro _ (Exists.intro _ (And.intro (c_in02 _) ?_))))
              refine br_t (by first | assumption | (simp (discharger := omega) only [i_lt, i_le, i_eq, bI_tz, decide_eq_false_iff_not, Int32.reduceToInt, nI_toInt, tm1, tm2, tm3, tm4, tm9]; done) | (simp (discharger := omega) only [i_lt, i_le, i_eq, bI_tz, decide_eq_false_iff_not, Int32.reduceToInt, nI_toInt, tm1, tm2, tm3, tm4, tm9]; omega) | omega) ?_
              refine And.intro rfl ?_
              refine And.intro (⟨rfl, ij⟩) ?_
              rw [ej]
              refine br_f (show ¬ (zI h 61 j < 0) by first | assumption | (simp (discharger := omega) only [i_lt, i_le, i_eq, bI_tz, decide_eq_false_iff_not, Int32.reduceToInt, nI_toInt, tm1, tm2, tm3, tm4, tm9]; done) | (simp (discharger := omega) only [i_lt, i_le, i_eq, bI_tz, decide_eq_false_iff_not, Int32.reduceToInt, nI_toInt, tm1, tm2, tm3, tm4, tm9]; omega) | omega) ?_
              refine And.intro rfl ?_
              refine And.intro (⟨rfl, ij⟩) ?_
              rw [ej]
              refine br_t q4 ?_
              refine And.intro rfl ?_
              refine And.intro (⟨rfl, ij⟩) ?_
              rw [ej]
              refine br_t (show (0 : Int32) ≤ zI h 61 j by first | assumption | (simp (discharger := omega) only [i_lt, i_le, i_eq, bI_tz, decide_eq_false_iff_not, Int32.reduceToInt, nI_toInt, tm1, tm2, tm3, tm4, tm9]; done) | (simp (discharger := omega) only [i_lt, i_le, i_eq, bI_tz, decide_eq_false_iff_not, Int32.reduceToInt, nI_toInt, tm1, tm2, tm3, tm4, tm9]; omega) | omega) ?_
              refine br_t ((cmp_ge0 _ _).mpr (by rw [wide, show (0 : Int64).toInt = 0 by decide]; omega)) ?_
              refine And.intro rfl ?_
              refine And.intro (⟨rfl, ij⟩) ?_
              rw [ej]
              refine And.intro rfl (And.intro rfl (Exists.intro _ (Exists.intro _ (And.intro (c_isBeyond i n (zI h 61 j)) ?_))))
              refine br_f (by rw [bI_z, decide_eq_false_iff_not]; omega) ?_
              refine And.intro ⟨rfl, rfl⟩ (And.intro rfl (Exists.intro _ (Exists.intro _ (And.intro (c_failed (h := nh h) (shp_nh hs) 3) ?_))))
              exact ⟨Or.inl rfl, rfl, rfl⟩
            · rw [if_neg q6]
              refine cc_nh (F := fun h => h) hs (cc_of 60 rfl rfl ?_)
              refine And.intro rfl (And.intro rfl (Exists.intro _ (Exists.intro _ (And.intro (c_noSheet _) ?_))))
              refine br_t (by first | assumption | (simp (discharger := omega) only [i_lt, i_le, i_eq, bI_tz, decide_eq_false_iff_not, Int32.reduceToInt, nI_toInt, tm1, tm2, tm3, tm4, tm9]; done) | (simp (discharger := omega) only [i_lt, i_le, i_eq, bI_tz, decide_eq_false_iff_not, Int32.reduceToInt, nI_toInt, tm1, tm2, tm3, tm4, tm9]; omega) | omega) ?_
              refine And.intro rfl (And.intro rfl (Exists.intro _ (Exists.intro _ (And.intro (c_in02 _) ?_))))
              refine br_t (by first | assumption | (simp (discharger := omega) only [i_lt, i_le, i_eq, bI_tz, decide_eq_false_iff_not, Int32.reduceToInt, nI_toInt, tm1, tm2, tm3, tm4, tm9]; done) | (simp (discharger := omega) only [i_lt, i_le, i_eq, bI_tz, decide_eq_false_iff_not, Int32.reduceToInt, nI_toInt, tm1, tm2, tm3, tm4, tm9]; omega) | omega) ?_
              refine And.intro rfl ?_
              refine And.intro (⟨rfl, ij⟩) ?_
              rw [ej]
              refine br_f (show ¬ (zI h 61 j < 0) by first | assumption | (simp (discharger := omega) only [i_lt, i_le, i_eq, bI_tz, decide_eq_false_iff_not, Int32.reduceToInt, nI_toInt, tm1, tm2, tm3, tm4, tm9]; done) | (simp (discharger := omega) only [i_lt, i_le, i_eq, bI_tz, decide_eq_false_iff_not, Int32.reduceToInt, nI_toInt, tm1, tm2, tm3, tm4, tm9]; omega) | omega) ?_
              refine And.intro rfl ?_
              refine And.intro (⟨rfl, ij⟩) ?_
              rw [ej]
              refine br_t q4 ?_
              refine And.intro rfl ?_
              refine And.intro (⟨rfl, ij⟩) ?_
              rw [ej]
              refine br_t (show (0 : Int32) ≤ zI h 61 j by first | assumption | (simp (discharger := omega) only [i_lt, i_le, i_eq, bI_tz, decide_eq_false_iff_not, Int32.reduceToInt, nI_toInt, tm1, tm2, tm3, tm4, tm9]; done) | (simp (discharger := omega) only [i_lt, i_le, i_eq, bI_tz, decide_eq_false_iff_not, Int32.reduceToInt, nI_toInt, tm1, tm2, tm3, tm4, tm9]; omega) | omega) ?_
              refine br_t ((cmp_ge0 _ _).mpr (by rw [wide, show (0 : Int64).toInt = 0 by decide]; omega)) ?_
              refine And.intro rfl ?_
              refine And.intro (⟨rfl, ij⟩) ?_
              rw [ej]
              refine And.intro rfl (And.intro rfl (Exists.intro _ (Exists.intro _ (And.intro (c_isBeyond i n (zI h 61 j)) ?_))))
              refine br_t (by rw [bI_z, decide_eq_false_iff_not]; omega) ?_
              exact ⟨Or.inl rfl, rfl, rfl⟩
        · rw [if_neg q4]
          refine cc_nh (F := fun h => upI h 39 0 2) hs (cc_of 60 rfl rfl ?_)
          refine And.intro rfl (And.intro rfl (Exists.intro _ (Exists.intro _ (And.intro (c_noSheet _) ?_))))
          refine br_t (by first | assumption | (simp (discharger := omega) only [i_lt, i_le, i_eq, bI_tz, decide_eq_false_iff_not, Int32.reduceToInt, nI_toInt, tm1, tm2, tm3, tm4, tm9]; done) | (simp (discharger := omega) only [i_lt, i_le, i_eq, bI_tz, decide_eq_false_iff_not, Int32.reduceToInt, nI_toInt, tm1, tm2, tm3, tm4, tm9]; omega) | omega) ?_
          refine And.intro rfl (And.intro rfl (Exists.intro _ (Exists.intro _ (And.intro (c_in02 _) ?_))))
          refine br_t (by first | assumption | (simp (discharger := omega) only [i_lt, i_le, i_eq, bI_tz, decide_eq_false_iff_not, Int32.reduceToInt, nI_toInt, tm1, tm2, tm3, tm4, tm9]; done) | (simp (discharger := omega) only [i_lt, i_le, i_eq, bI_tz, decide_eq_false_iff_not, Int32.reduceToInt, nI_toInt, tm1, tm2, tm3, tm4, tm9]; omega) | omega) ?_
          refine And.intro rfl ?_
          refine And.intro (⟨rfl, ij⟩) ?_
          rw [ej]
          refine br_f (show ¬ (zI h 61 j < 0) by first | assumption | (simp (discharger := omega) only [i_lt, i_le, i_eq, bI_tz, decide_eq_false_iff_not, Int32.reduceToInt, nI_toInt, tm1, tm2, tm3, tm4, tm9]; done) | (simp (discharger := omega) only [i_lt, i_le, i_eq, bI_tz, decide_eq_false_iff_not, Int32.reduceToInt, nI_toInt, tm1, tm2, tm3, tm4, tm9]; omega) | omega) ?_
          refine And.intro rfl ?_
          refine And.intro (⟨rfl, ij⟩) ?_
          rw [ej]
          refine br_f q4 ?_
          refine And.intro ⟨rfl, rfl⟩ (And.intro rfl (Exists.intro _ (Exists.intro _ (And.intro (c_failed (h := nh h) (shp_nh hs) 2) ?_))))
          exact ⟨Or.inl rfl, rfl, rfl⟩
    · rw [if_neg q2]
      refine cc_nh (F := fun h => upI h 39 0 0) hs (cc_of 60 rfl rfl ?_)
      refine And.intro rfl (And.intro rfl (Exists.intro _ (Exists.intro _ (And.intro (c_noSheet _) ?_))))
      refine br_t (by first | assumption | (simp (discharger := omega) only [i_lt, i_le, i_eq, bI_tz, decide_eq_false_iff_not, Int32.reduceToInt, nI_toInt, tm1, tm2, tm3, tm4, tm9]; done) | (simp (discharger := omega) only [i_lt, i_le, i_eq, bI_tz, decide_eq_false_iff_not, Int32.reduceToInt, nI_toInt, tm1, tm2, tm3, tm4, tm9]; omega) | omega) ?_
      refine And.intro rfl (And.intro rfl (Exists.intro _ (Exists.intro _ (And.intro (c_in02 _) ?_))))
      refine br_f (by first | assumption | (simp (discharger := omega) only [i_lt, i_le, i_eq, bI_tz, decide_eq_false_iff_not, Int32.reduceToInt, nI_toInt, tm1, tm2, tm3, tm4, tm9]; done) | (simp (discharger := omega) only [i_lt, i_le, i_eq, bI_tz, decide_eq_false_iff_not, Int32.reduceToInt, nI_toInt, tm1, tm2, tm3, tm4, tm9]; omega) | omega) ?_
      refine And.intro ⟨rfl, rfl⟩ (And.intro rfl (Exists.intro _ (Exists.intro _ (And.intro (c_refused (h := nh h) (shp_nh hs) (-2)) ?_))))
      exact ⟨Or.inl rfl, rfl, rfl⟩
  · rw [if_neg q1]
    refine cc_nh (F := fun h => upI h 39 0 0) hs (cc_of 60 rfl rfl ?_)
    refine And.intro rfl (And.intro rfl (Exists.intro _ (Exists.intro _ (And.intro (c_noSheet _) ?_))))
    refine br_f (by first | assumption | (simp (discharger := omega) only [i_lt, i_le, i_eq, bI_tz, decide_eq_false_iff_not, Int32.reduceToInt, nI_toInt, tm1, tm2, tm3, tm4, tm9]; done) | (simp (discharger := omega) only [i_lt, i_le, i_eq, bI_tz, decide_eq_false_iff_not, Int32.reduceToInt, nI_toInt, tm1, tm2, tm3, tm4, tm9]; omega) | omega) ?_
    refine And.intro ⟨rfl, rfl⟩ (And.intro rfl (Exists.intro _ (Exists.intro _ (And.intro (c_refused (h := nh h) (shp_nh hs) (-1)) ?_))))
    exact ⟨Or.inl rfl, rfl, rfl⟩
/-! sheet -/
theorem sheet_loop {k n : Nat} (hk : k < 4) (hn : n ≤ 60) (lane : Int32) : ∀ (d i : Nat) (x : Int32) (f : Nat → Int32), i + d = n → x = nI i → (∀ j, f j = if 60 * k ≤ j ∧ j < 60 * k + i then 0 else zI h 63 j) → Shp h → Rn sc (mtk 207) 65 [some (.ref 39), some (.int (nI k)), some (.int lane), some (.int (nI n)), some (.int x)] [] (rwI (nh h) 63 f) (some (.int 1)) (upI (rwI (nh h) 63 (fun j => if 60 * k ≤ j ∧ j < 60 * k + n then 0 else zI h 63 j)) 39 0 0) := by
  intro d
  induction d with
  | zero =>
    intro i x f hi hx hf hs
    refine bk_sound (cuts := []) 20 _ _ _ _ ?_
    refine br_t ?_ ?_
    · rw [hx, show i = n by omega]
      exact Int32.le_refl _
    · refine And.intro ⟨rfl, rfl⟩ (And.intro rfl (Exists.intro _ (Exists.intro _ (And.intro (c_refused (h := rwI (nh h) 63 f) (shp_nh hs) 1) ?_))))
      rw [show f = (fun j => if 60 * k ≤ j ∧ j < 60 * k + n then 0 else zI h 63 j) from funext fun j => by rw [hf j, show i = n by omega]]
      exact ⟨Or.inl rfl, rfl, rfl⟩
  | succ d ih =>
    intro i x f hi hx hf hs
    subst hx
    refine bk_sound (cuts := [65]) 30 _ _ _ _ ?_
    refine br_f (nI_ge (by omega) (by omega)) ?_
    have ei : (60 : Int32) * nI k + nI i = nI (60 * k + i) := by rw [show (60 : Int32) = nI 60 from rfl, pk_mul, nI_add]
    refine And.intro rfl ?_
    refine And.intro (⟨rfl, by rw [ei]; exact inB_nI (n := 240) (by omega) (by decide)⟩) ?_
    show Rn sc (mtk 207) 65 [some (.ref 39), some (.int (nI k)), some (.int lane), some (.int (nI n)), some (.int (nI i + Int32.ofInt 1))] [] (upI (rwI (nh h) 63 f) 63 ((60 : Int32) * nI k + nI i).toNatClampNeg 0) _ _
    rw [upI_rwI, ei, nI_clamp (by omega)]
    refine ih (i + 1) _ _ (by omega) (by rw [ofI1, nI_1]) (fun j => ?_) hs
    unfold upd
    rw [hf j]
    by_cases e1 : j = 60 * k + i
    · rw [if_pos e1, if_pos (by omega)]
    · rw [if_neg e1]
      by_cases e2 : 60 * k ≤ j ∧ j < 60 * k + i
      · rw [if_pos e2, if_pos (by omega)]
      · rw [if_neg e2, if_neg (by omega)]
end
end
