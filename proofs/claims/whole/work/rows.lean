section
-- ===== PART A: goes FIRST, ahead of the names: the tables' words, and 'selects' of the private methods out of them =====
/-- a private method of a class that the tables say can be made, by its rows of tables_1 -/
def lw_okq (q : MethodName × Nat) : Prop := (q.1.cls ≠ "java/lang/invoke/MethodHandle" ∧ q.1.cls ≠ "java/lang/invoke/VarHandle") ∧ Cond.instantiable q.1.cls q.2 ∈ tables_1 ∧ Cond.privateMethod q.1 ∈ tables_1 ∧ Cond.instanceMethod q.1 ∈ tables_1
theorem lw_p0 : lw_okq (⟨"ArchEnds", "forgetActs", "()V"⟩, 12) := ⟨⟨by decide +kernel, by decide +kernel⟩, List.mem_of_getElem? (i := 31) (by decide +kernel), List.mem_of_getElem? (i := 508) (by decide +kernel), List.mem_of_getElem? (i := 509) (by decide +kernel)⟩
theorem lw_p1 : lw_okq (⟨"ArchEnds$Tape", "signOf", "(II)LArchEnds$Sign;"⟩, 8) := ⟨⟨by decide +kernel, by decide +kernel⟩, List.mem_of_getElem? (i := 39) (by decide +kernel), List.mem_of_getElem? (i := 540) (by decide +kernel), List.mem_of_getElem? (i := 541) (by decide +kernel)⟩
theorem lw_p2 : lw_okq (⟨"ArchEnds$Tape", "matches", "(Ljava/lang/String;II)Z"⟩, 8) := ⟨⟨by decide +kernel, by decide +kernel⟩, List.mem_of_getElem? (i := 39) (by decide +kernel), List.mem_of_getElem? (i := 550) (by decide +kernel), List.mem_of_getElem? (i := 551) (by decide +kernel)⟩
theorem lw_p3 : lw_okq (⟨"ArchEnds$Reader", "readCountyLine", "(LArchEnds$County;)Z"⟩, 6) := ⟨⟨by decide +kernel, by decide +kernel⟩, List.mem_of_getElem? (i := 79) (by decide +kernel), List.mem_of_getElem? (i := 613) (by decide +kernel), List.mem_of_getElem? (i := 614) (by decide +kernel)⟩
theorem lw_p4 : lw_okq (⟨"ArchEnds$Reader", "readShower", "(LArchEnds$County;)Z"⟩, 6) := ⟨⟨by decide +kernel, by decide +kernel⟩, List.mem_of_getElem? (i := 79) (by decide +kernel), List.mem_of_getElem? (i := 619) (by decide +kernel), List.mem_of_getElem? (i := 620) (by decide +kernel)⟩
theorem lw_p5 : lw_okq (⟨"ArchEnds$Reader", "readDrift", "(LArchEnds$Shower;)Z"⟩, 6) := ⟨⟨by decide +kernel, by decide +kernel⟩, List.mem_of_getElem? (i := 79) (by decide +kernel), List.mem_of_getElem? (i := 635) (by decide +kernel), List.mem_of_getElem? (i := 636) (by decide +kernel)⟩
theorem lw_p6 : lw_okq (⟨"ArchEnds$Reader", "readChance", "(LArchEnds$Shower;)Z"⟩, 6) := ⟨⟨by decide +kernel, by decide +kernel⟩, List.mem_of_getElem? (i := 79) (by decide +kernel), List.mem_of_getElem? (i := 643) (by decide +kernel), List.mem_of_getElem? (i := 644) (by decide +kernel)⟩
theorem lw_p7 : lw_okq (⟨"ArchEnds$Reader", "readBroker", "(LArchEnds$County;)Z"⟩, 6) := ⟨⟨by decide +kernel, by decide +kernel⟩, List.mem_of_getElem? (i := 79) (by decide +kernel), List.mem_of_getElem? (i := 651) (by decide +kernel), List.mem_of_getElem? (i := 652) (by decide +kernel)⟩
theorem lw_p8 : lw_okq (⟨"ArchEnds$Reader", "readDeed", "(LArchEnds$County;)Z"⟩, 6) := ⟨⟨by decide +kernel, by decide +kernel⟩, List.mem_of_getElem? (i := 79) (by decide +kernel), List.mem_of_getElem? (i := 661) (by decide +kernel), List.mem_of_getElem? (i := 662) (by decide +kernel)⟩
theorem lw_p9 : lw_okq (⟨"ArchEnds$Reader", "readRoad", "(LArchEnds$County;)Z"⟩, 6) := ⟨⟨by decide +kernel, by decide +kernel⟩, List.mem_of_getElem? (i := 79) (by decide +kernel), List.mem_of_getElem? (i := 669) (by decide +kernel), List.mem_of_getElem? (i := 670) (by decide +kernel)⟩
theorem lw_p10 : lw_okq (⟨"ArchEnds$Reader", "readWage", "(LArchEnds$County;)Z"⟩, 6) := ⟨⟨by decide +kernel, by decide +kernel⟩, List.mem_of_getElem? (i := 79) (by decide +kernel), List.mem_of_getElem? (i := 675) (by decide +kernel), List.mem_of_getElem? (i := 676) (by decide +kernel)⟩
theorem lw_p11 : lw_okq (⟨"ArchEnds$Reader", "readMinute", "(LArchEnds$County;)Z"⟩, 6) := ⟨⟨by decide +kernel, by decide +kernel⟩, List.mem_of_getElem? (i := 79) (by decide +kernel), List.mem_of_getElem? (i := 681) (by decide +kernel), List.mem_of_getElem? (i := 682) (by decide +kernel)⟩
theorem lw_p12 : lw_okq (⟨"ArchEnds", "closeText", "(Z)V"⟩, 12) := ⟨⟨by decide +kernel, by decide +kernel⟩, List.mem_of_getElem? (i := 31) (by decide +kernel), List.mem_of_getElem? (i := 687) (by decide +kernel), List.mem_of_getElem? (i := 688) (by decide +kernel)⟩
theorem lw_p13 : lw_okq (⟨"java/lang/Throwable", "fillInStackTrace", "(I)Ljava/lang/Throwable;"⟩, 6) := ⟨⟨by decide +kernel, by decide +kernel⟩, List.mem_of_getElem? (i := 735) (by decide +kernel), List.mem_of_getElem? (i := 733) (by decide +kernel), List.mem_of_getElem? (i := 734) (by decide +kernel)⟩
theorem lw_p14 : lw_okq (⟨"ArchEnds$Reader", "readLawLine", "(I)Z"⟩, 6) := ⟨⟨by decide +kernel, by decide +kernel⟩, List.mem_of_getElem? (i := 79) (by decide +kernel), List.mem_of_getElem? (i := 820) (by decide +kernel), List.mem_of_getElem? (i := 821) (by decide +kernel)⟩
theorem lw_p15 : lw_okq (⟨"ArchEnds$Reader", "readAny", "(I)Z"⟩, 6) := ⟨⟨by decide +kernel, by decide +kernel⟩, List.mem_of_getElem? (i := 79) (by decide +kernel), List.mem_of_getElem? (i := 832) (by decide +kernel), List.mem_of_getElem? (i := 833) (by decide +kernel)⟩
def lw_privs_1 : List (MethodName × Nat) := [(⟨"ArchEnds", "forgetActs", "()V"⟩, 12), (⟨"ArchEnds$Tape", "signOf", "(II)LArchEnds$Sign;"⟩, 8), (⟨"ArchEnds$Tape", "matches", "(Ljava/lang/String;II)Z"⟩, 8), (⟨"ArchEnds$Reader", "readCountyLine", "(LArchEnds$County;)Z"⟩, 6), (⟨"ArchEnds$Reader", "readShower", "(LArchEnds$County;)Z"⟩, 6), (⟨"ArchEnds$Reader", "readDrift", "(LArchEnds$Shower;)Z"⟩, 6), (⟨"ArchEnds$Reader", "readChance", "(LArchEnds$Shower;)Z"⟩, 6), (⟨"ArchEnds$Reader", "readBroker", "(LArchEnds$County;)Z"⟩, 6), (⟨"ArchEnds$Reader", "readDeed", "(LArchEnds$County;)Z"⟩, 6), (⟨"ArchEnds$Reader", "readRoad", "(LArchEnds$County;)Z"⟩, 6), (⟨"ArchEnds$Reader", "readWage", "(LArchEnds$County;)Z"⟩, 6), (⟨"ArchEnds$Reader", "readMinute", "(LArchEnds$County;)Z"⟩, 6), (⟨"ArchEnds", "closeText", "(Z)V"⟩, 12), (⟨"java/lang/Throwable", "fillInStackTrace", "(I)Ljava/lang/Throwable;"⟩, 6), (⟨"ArchEnds$Reader", "readLawLine", "(I)Z"⟩, 6), (⟨"ArchEnds$Reader", "readAny", "(I)Z"⟩, 6)]
theorem lw_r1 : ∀ q ∈ lw_privs_1, lw_okq q := List.forall_mem_cons.mpr ⟨lw_p0, List.forall_mem_cons.mpr ⟨lw_p1, List.forall_mem_cons.mpr ⟨lw_p2, List.forall_mem_cons.mpr ⟨lw_p3, List.forall_mem_cons.mpr ⟨lw_p4, List.forall_mem_cons.mpr ⟨lw_p5, List.forall_mem_cons.mpr ⟨lw_p6, List.forall_mem_cons.mpr ⟨lw_p7, List.forall_mem_cons.mpr ⟨lw_p8, List.forall_mem_cons.mpr ⟨lw_p9, List.forall_mem_cons.mpr ⟨lw_p10, List.forall_mem_cons.mpr ⟨lw_p11, List.forall_mem_cons.mpr ⟨lw_p12, List.forall_mem_cons.mpr ⟨lw_p13, List.forall_mem_cons.mpr ⟨lw_p14, List.forall_mem_cons.mpr ⟨lw_p15, fun _ h => absurd h List.not_mem_nil⟩⟩⟩⟩⟩⟩⟩⟩⟩⟩⟩⟩⟩⟩⟩⟩
theorem lw_p16 : lw_okq (⟨"ArchEnds$Reader", "readAll", "(I)Z"⟩, 6) := ⟨⟨by decide +kernel, by decide +kernel⟩, List.mem_of_getElem? (i := 79) (by decide +kernel), List.mem_of_getElem? (i := 836) (by decide +kernel), List.mem_of_getElem? (i := 837) (by decide +kernel)⟩
theorem lw_p17 : lw_okq (⟨"ArchEnds$Reader", "readAtom", "(I)Z"⟩, 6) := ⟨⟨by decide +kernel, by decide +kernel⟩, List.mem_of_getElem? (i := 79) (by decide +kernel), List.mem_of_getElem? (i := 840) (by decide +kernel), List.mem_of_getElem? (i := 841) (by decide +kernel)⟩
theorem lw_p18 : lw_okq (⟨"ArchEnds$Reader", "addStep", "(I)V"⟩, 6) := ⟨⟨by decide +kernel, by decide +kernel⟩, List.mem_of_getElem? (i := 79) (by decide +kernel), List.mem_of_getElem? (i := 850) (by decide +kernel), List.mem_of_getElem? (i := 851) (by decide +kernel)⟩
theorem lw_p19 : lw_okq (⟨"ArchEnds$Reader", "readSum", "()Z"⟩, 6) := ⟨⟨by decide +kernel, by decide +kernel⟩, List.mem_of_getElem? (i := 79) (by decide +kernel), List.mem_of_getElem? (i := 858) (by decide +kernel), List.mem_of_getElem? (i := 859) (by decide +kernel)⟩
theorem lw_p20 : lw_okq (⟨"ArchEnds", "checkShower", "(I)V"⟩, 12) := ⟨⟨by decide +kernel, by decide +kernel⟩, List.mem_of_getElem? (i := 31) (by decide +kernel), List.mem_of_getElem? (i := 882) (by decide +kernel), List.mem_of_getElem? (i := 883) (by decide +kernel)⟩
theorem lw_p21 : lw_okq (⟨"ArchEnds", "checkBroker", "(I)V"⟩, 12) := ⟨⟨by decide +kernel, by decide +kernel⟩, List.mem_of_getElem? (i := 31) (by decide +kernel), List.mem_of_getElem? (i := 925) (by decide +kernel), List.mem_of_getElem? (i := 926) (by decide +kernel)⟩
theorem lw_p22 : lw_okq (⟨"ArchEnds$County", "judge", "(LArchEnds$Sign;III)I"⟩, 14) := ⟨⟨by decide +kernel, by decide +kernel⟩, List.mem_of_getElem? (i := 105) (by decide +kernel), List.mem_of_getElem? (i := 935) (by decide +kernel), List.mem_of_getElem? (i := 936) (by decide +kernel)⟩
theorem lw_p23 : lw_okq (⟨"ArchEnds$County", "isOwned", "(II)Z"⟩, 14) := ⟨⟨by decide +kernel, by decide +kernel⟩, List.mem_of_getElem? (i := 105) (by decide +kernel), List.mem_of_getElem? (i := 977) (by decide +kernel), List.mem_of_getElem? (i := 978) (by decide +kernel)⟩
theorem lw_p24 : lw_okq (⟨"ArchEnds$Law", "holds", "(I[I)Z"⟩, 6) := ⟨⟨by decide +kernel, by decide +kernel⟩, List.mem_of_getElem? (i := 792) (by decide +kernel), List.mem_of_getElem? (i := 989) (by decide +kernel), List.mem_of_getElem? (i := 990) (by decide +kernel)⟩
theorem lw_p25 : lw_okq (⟨"ArchEnds", "checkDeed", "(I)V"⟩, 12) := ⟨⟨by decide +kernel, by decide +kernel⟩, List.mem_of_getElem? (i := 31) (by decide +kernel), List.mem_of_getElem? (i := 1006) (by decide +kernel), List.mem_of_getElem? (i := 1007) (by decide +kernel)⟩
theorem lw_p26 : lw_okq (⟨"ArchEnds", "remember", "()V"⟩, 12) := ⟨⟨by decide +kernel, by decide +kernel⟩, List.mem_of_getElem? (i := 31) (by decide +kernel), List.mem_of_getElem? (i := 1067) (by decide +kernel), List.mem_of_getElem? (i := 1068) (by decide +kernel)⟩
theorem lw_p27 : lw_okq (⟨"ArchEnds$County", "drawShowers", "()V"⟩, 14) := ⟨⟨by decide +kernel, by decide +kernel⟩, List.mem_of_getElem? (i := 105) (by decide +kernel), List.mem_of_getElem? (i := 1137) (by decide +kernel), List.mem_of_getElem? (i := 1138) (by decide +kernel)⟩
theorem lw_p28 : lw_okq (⟨"ArchEnds$County", "settleDeeds", "()I"⟩, 14) := ⟨⟨by decide +kernel, by decide +kernel⟩, List.mem_of_getElem? (i := 105) (by decide +kernel), List.mem_of_getElem? (i := 1142) (by decide +kernel), List.mem_of_getElem? (i := 1143) (by decide +kernel)⟩
theorem lw_p29 : lw_okq (⟨"ArchEnds$Forecast", "clearStood", "()V"⟩, 4) := ⟨⟨by decide +kernel, by decide +kernel⟩, List.mem_of_getElem? (i := 335) (by decide +kernel), List.mem_of_getElem? (i := 1233) (by decide +kernel), List.mem_of_getElem? (i := 1234) (by decide +kernel)⟩
theorem lw_p30 : lw_okq (⟨"ArchEnds$Forecast", "firstOfMost", "()I"⟩, 4) := ⟨⟨by decide +kernel, by decide +kernel⟩, List.mem_of_getElem? (i := 335) (by decide +kernel), List.mem_of_getElem? (i := 1237) (by decide +kernel), List.mem_of_getElem? (i := 1238) (by decide +kernel)⟩
theorem lw_p31 : lw_okq (⟨"ArchEnds$Forecast", "countRoadsTo", "(II)V"⟩, 4) := ⟨⟨by decide +kernel, by decide +kernel⟩, List.mem_of_getElem? (i := 335) (by decide +kernel), List.mem_of_getElem? (i := 1264) (by decide +kernel), List.mem_of_getElem? (i := 1265) (by decide +kernel)⟩
def lw_privs_2 : List (MethodName × Nat) := [(⟨"ArchEnds$Reader", "readAll", "(I)Z"⟩, 6), (⟨"ArchEnds$Reader", "readAtom", "(I)Z"⟩, 6), (⟨"ArchEnds$Reader", "addStep", "(I)V"⟩, 6), (⟨"ArchEnds$Reader", "readSum", "()Z"⟩, 6), (⟨"ArchEnds", "checkShower", "(I)V"⟩, 12), (⟨"ArchEnds", "checkBroker", "(I)V"⟩, 12), (⟨"ArchEnds$County", "judge", "(LArchEnds$Sign;III)I"⟩, 14), (⟨"ArchEnds$County", "isOwned", "(II)Z"⟩, 14), (⟨"ArchEnds$Law", "holds", "(I[I)Z"⟩, 6), (⟨"ArchEnds", "checkDeed", "(I)V"⟩, 12), (⟨"ArchEnds", "remember", "()V"⟩, 12), (⟨"ArchEnds$County", "drawShowers", "()V"⟩, 14), (⟨"ArchEnds$County", "settleDeeds", "()I"⟩, 14), (⟨"ArchEnds$Forecast", "clearStood", "()V"⟩, 4), (⟨"ArchEnds$Forecast", "firstOfMost", "()I"⟩, 4), (⟨"ArchEnds$Forecast", "countRoadsTo", "(II)V"⟩, 4)]
theorem lw_r2 : ∀ q ∈ lw_privs_2, lw_okq q := List.forall_mem_cons.mpr ⟨lw_p16, List.forall_mem_cons.mpr ⟨lw_p17, List.forall_mem_cons.mpr ⟨lw_p18, List.forall_mem_cons.mpr ⟨lw_p19, List.forall_mem_cons.mpr ⟨lw_p20, List.forall_mem_cons.mpr ⟨lw_p21, List.forall_mem_cons.mpr ⟨lw_p22, List.forall_mem_cons.mpr ⟨lw_p23, List.forall_mem_cons.mpr ⟨lw_p24, List.forall_mem_cons.mpr ⟨lw_p25, List.forall_mem_cons.mpr ⟨lw_p26, List.forall_mem_cons.mpr ⟨lw_p27, List.forall_mem_cons.mpr ⟨lw_p28, List.forall_mem_cons.mpr ⟨lw_p29, List.forall_mem_cons.mpr ⟨lw_p30, List.forall_mem_cons.mpr ⟨lw_p31, fun _ h => absurd h List.not_mem_nil⟩⟩⟩⟩⟩⟩⟩⟩⟩⟩⟩⟩⟩⟩⟩⟩
theorem lw_p32 : lw_okq (⟨"ArchEnds$Market", "costsTogether", "(I)I"⟩, 8) := ⟨⟨by decide +kernel, by decide +kernel⟩, List.mem_of_getElem? (i := 354) (by decide +kernel), List.mem_of_getElem? (i := 1324) (by decide +kernel), List.mem_of_getElem? (i := 1325) (by decide +kernel)⟩
theorem lw_p33 : lw_okq (⟨"ArchEnds$Market", "minutesBy", "(III)I"⟩, 8) := ⟨⟨by decide +kernel, by decide +kernel⟩, List.mem_of_getElem? (i := 354) (by decide +kernel), List.mem_of_getElem? (i := 1370) (by decide +kernel), List.mem_of_getElem? (i := 1371) (by decide +kernel)⟩
theorem lw_p34 : lw_okq (⟨"ArchEnds$Market", "firstPlace", "(II)I"⟩, 8) := ⟨⟨by decide +kernel, by decide +kernel⟩, List.mem_of_getElem? (i := 354) (by decide +kernel), List.mem_of_getElem? (i := 1382) (by decide +kernel), List.mem_of_getElem? (i := 1383) (by decide +kernel)⟩
theorem lw_p35 : lw_okq (⟨"ArchEnds", "takeSights", "(I)V"⟩, 12) := ⟨⟨by decide +kernel, by decide +kernel⟩, List.mem_of_getElem? (i := 31) (by decide +kernel), List.mem_of_getElem? (i := 1404) (by decide +kernel), List.mem_of_getElem? (i := 1405) (by decide +kernel)⟩
theorem lw_p36 : lw_okq (⟨"ArchEnds$Forecast", "fits", "(II)Z"⟩, 4) := ⟨⟨by decide +kernel, by decide +kernel⟩, List.mem_of_getElem? (i := 335) (by decide +kernel), List.mem_of_getElem? (i := 1417) (by decide +kernel), List.mem_of_getElem? (i := 1418) (by decide +kernel)⟩
theorem lw_p37 : lw_okq (⟨"ArchEnds$Forecast", "acresUnder", "(II)I"⟩, 4) := ⟨⟨by decide +kernel, by decide +kernel⟩, List.mem_of_getElem? (i := 335) (by decide +kernel), List.mem_of_getElem? (i := 1421) (by decide +kernel), List.mem_of_getElem? (i := 1422) (by decide +kernel)⟩
theorem lw_p38 : lw_okq (⟨"ArchEnds$Forecast", "countWet", "(I)V"⟩, 4) := ⟨⟨by decide +kernel, by decide +kernel⟩, List.mem_of_getElem? (i := 335) (by decide +kernel), List.mem_of_getElem? (i := 1440) (by decide +kernel), List.mem_of_getElem? (i := 1441) (by decide +kernel)⟩
theorem lw_p39 : lw_okq (⟨"ArchEnds$Forecast", "leastGreaterPart", "(I)I"⟩, 4) := ⟨⟨by decide +kernel, by decide +kernel⟩, List.mem_of_getElem? (i := 335) (by decide +kernel), List.mem_of_getElem? (i := 1444) (by decide +kernel), List.mem_of_getElem? (i := 1445) (by decide +kernel)⟩
theorem lw_p40 : lw_okq (⟨"ArchEnds$Market", "isContent", "(III)Z"⟩, 8) := ⟨⟨by decide +kernel, by decide +kernel⟩, List.mem_of_getElem? (i := 354) (by decide +kernel), List.mem_of_getElem? (i := 1482) (by decide +kernel), List.mem_of_getElem? (i := 1483) (by decide +kernel)⟩
theorem lw_p41 : lw_okq (⟨"ArchEnds$Market", "shareOf", "(III)I"⟩, 8) := ⟨⟨by decide +kernel, by decide +kernel⟩, List.mem_of_getElem? (i := 354) (by decide +kernel), List.mem_of_getElem? (i := 1486) (by decide +kernel), List.mem_of_getElem? (i := 1487) (by decide +kernel)⟩
theorem lw_p42 : lw_okq (⟨"ArchEnds", "tryOut", "(II)I"⟩, 12) := ⟨⟨by decide +kernel, by decide +kernel⟩, List.mem_of_getElem? (i := 31) (by decide +kernel), List.mem_of_getElem? (i := 1515) (by decide +kernel), List.mem_of_getElem? (i := 1516) (by decide +kernel)⟩
theorem lw_p43 : lw_okq (⟨"ArchEndsModel", "readAll", "(Z)I"⟩, 24) := ⟨⟨by decide +kernel, by decide +kernel⟩, List.mem_of_getElem? (i := 1558) (by decide +kernel), List.mem_of_getElem? (i := 1665) (by decide +kernel), List.mem_of_getElem? (i := 1666) (by decide +kernel)⟩
theorem lw_p44 : lw_okq (⟨"ArchEndsModel", "uses", "()V"⟩, 24) := ⟨⟨by decide +kernel, by decide +kernel⟩, List.mem_of_getElem? (i := 1558) (by decide +kernel), List.mem_of_getElem? (i := 1669) (by decide +kernel), List.mem_of_getElem? (i := 1670) (by decide +kernel)⟩
theorem lw_p45 : lw_okq (⟨"ArchEndsModel", "blanks", "()V"⟩, 24) := ⟨⟨by decide +kernel, by decide +kernel⟩, List.mem_of_getElem? (i := 1558) (by decide +kernel), List.mem_of_getElem? (i := 1673) (by decide +kernel), List.mem_of_getElem? (i := 1674) (by decide +kernel)⟩
theorem lw_p46 : lw_okq (⟨"ArchEndsModel", "isAt", "(II)Z"⟩, 24) := ⟨⟨by decide +kernel, by decide +kernel⟩, List.mem_of_getElem? (i := 1558) (by decide +kernel), List.mem_of_getElem? (i := 1677) (by decide +kernel), List.mem_of_getElem? (i := 1678) (by decide +kernel)⟩
theorem lw_p47 : lw_okq (⟨"ArchEndsModel", "readLine", "(ZI)Z"⟩, 24) := ⟨⟨by decide +kernel, by decide +kernel⟩, List.mem_of_getElem? (i := 1558) (by decide +kernel), List.mem_of_getElem? (i := 1681) (by decide +kernel), List.mem_of_getElem? (i := 1682) (by decide +kernel)⟩
def lw_privs_3 : List (MethodName × Nat) := [(⟨"ArchEnds$Market", "costsTogether", "(I)I"⟩, 8), (⟨"ArchEnds$Market", "minutesBy", "(III)I"⟩, 8), (⟨"ArchEnds$Market", "firstPlace", "(II)I"⟩, 8), (⟨"ArchEnds", "takeSights", "(I)V"⟩, 12), (⟨"ArchEnds$Forecast", "fits", "(II)Z"⟩, 4), (⟨"ArchEnds$Forecast", "acresUnder", "(II)I"⟩, 4), (⟨"ArchEnds$Forecast", "countWet", "(I)V"⟩, 4), (⟨"ArchEnds$Forecast", "leastGreaterPart", "(I)I"⟩, 4), (⟨"ArchEnds$Market", "isContent", "(III)Z"⟩, 8), (⟨"ArchEnds$Market", "shareOf", "(III)I"⟩, 8), (⟨"ArchEnds", "tryOut", "(II)I"⟩, 12), (⟨"ArchEndsModel", "readAll", "(Z)I"⟩, 24), (⟨"ArchEndsModel", "uses", "()V"⟩, 24), (⟨"ArchEndsModel", "blanks", "()V"⟩, 24), (⟨"ArchEndsModel", "isAt", "(II)Z"⟩, 24), (⟨"ArchEndsModel", "readLine", "(ZI)Z"⟩, 24)]
theorem lw_r3 : ∀ q ∈ lw_privs_3, lw_okq q := List.forall_mem_cons.mpr ⟨lw_p32, List.forall_mem_cons.mpr ⟨lw_p33, List.forall_mem_cons.mpr ⟨lw_p34, List.forall_mem_cons.mpr ⟨lw_p35, List.forall_mem_cons.mpr ⟨lw_p36, List.forall_mem_cons.mpr ⟨lw_p37, List.forall_mem_cons.mpr ⟨lw_p38, List.forall_mem_cons.mpr ⟨lw_p39, List.forall_mem_cons.mpr ⟨lw_p40, List.forall_mem_cons.mpr ⟨lw_p41, List.forall_mem_cons.mpr ⟨lw_p42, List.forall_mem_cons.mpr ⟨lw_p43, List.forall_mem_cons.mpr ⟨lw_p44, List.forall_mem_cons.mpr ⟨lw_p45, List.forall_mem_cons.mpr ⟨lw_p46, List.forall_mem_cons.mpr ⟨lw_p47, fun _ h => absurd h List.not_mem_nil⟩⟩⟩⟩⟩⟩⟩⟩⟩⟩⟩⟩⟩⟩⟩⟩
theorem lw_p48 : lw_okq (⟨"ArchEndsModel", "letters", "()V"⟩, 24) := ⟨⟨by decide +kernel, by decide +kernel⟩, List.mem_of_getElem? (i := 1558) (by decide +kernel), List.mem_of_getElem? (i := 1685) (by decide +kernel), List.mem_of_getElem? (i := 1686) (by decide +kernel)⟩
theorem lw_p49 : lw_okq (⟨"ArchEndsModel", "readCountyLine", "()Z"⟩, 24) := ⟨⟨by decide +kernel, by decide +kernel⟩, List.mem_of_getElem? (i := 1558) (by decide +kernel), List.mem_of_getElem? (i := 1689) (by decide +kernel), List.mem_of_getElem? (i := 1690) (by decide +kernel)⟩
theorem lw_p50 : lw_okq (⟨"ArchEndsModel", "isWord", "(Ljava/lang/String;)Z"⟩, 24) := ⟨⟨by decide +kernel, by decide +kernel⟩, List.mem_of_getElem? (i := 1558) (by decide +kernel), List.mem_of_getElem? (i := 1694) (by decide +kernel), List.mem_of_getElem? (i := 1695) (by decide +kernel)⟩
theorem lw_p51 : lw_okq (⟨"ArchEndsModel", "readShower", "()Z"⟩, 24) := ⟨⟨by decide +kernel, by decide +kernel⟩, List.mem_of_getElem? (i := 1558) (by decide +kernel), List.mem_of_getElem? (i := 1700) (by decide +kernel), List.mem_of_getElem? (i := 1701) (by decide +kernel)⟩
theorem lw_p52 : lw_okq (⟨"ArchEndsModel", "showers", "()I"⟩, 24) := ⟨⟨by decide +kernel, by decide +kernel⟩, List.mem_of_getElem? (i := 1558) (by decide +kernel), List.mem_of_getElem? (i := 1704) (by decide +kernel), List.mem_of_getElem? (i := 1705) (by decide +kernel)⟩
theorem lw_p53 : lw_okq (⟨"ArchEndsModel", "number", "(II)I"⟩, 24) := ⟨⟨by decide +kernel, by decide +kernel⟩, List.mem_of_getElem? (i := 1558) (by decide +kernel), List.mem_of_getElem? (i := 1708) (by decide +kernel), List.mem_of_getElem? (i := 1709) (by decide +kernel)⟩
theorem lw_p54 : lw_okq (⟨"ArchEndsModel", "readSpan", "(III)Z"⟩, 24) := ⟨⟨by decide +kernel, by decide +kernel⟩, List.mem_of_getElem? (i := 1558) (by decide +kernel), List.mem_of_getElem? (i := 1712) (by decide +kernel), List.mem_of_getElem? (i := 1713) (by decide +kernel)⟩
theorem lw_p55 : lw_okq (⟨"ArchEndsModel", "after", "(Ljava/lang/String;II)I"⟩, 24) := ⟨⟨by decide +kernel, by decide +kernel⟩, List.mem_of_getElem? (i := 1558) (by decide +kernel), List.mem_of_getElem? (i := 1717) (by decide +kernel), List.mem_of_getElem? (i := 1718) (by decide +kernel)⟩
theorem lw_p56 : lw_okq (⟨"ArchEndsModel", "passes", "(Ljava/lang/String;)Z"⟩, 24) := ⟨⟨by decide +kernel, by decide +kernel⟩, List.mem_of_getElem? (i := 1558) (by decide +kernel), List.mem_of_getElem? (i := 1723) (by decide +kernel), List.mem_of_getElem? (i := 1724) (by decide +kernel)⟩
theorem lw_p57 : lw_okq (⟨"ArchEndsModel", "readBroker", "()Z"⟩, 24) := ⟨⟨by decide +kernel, by decide +kernel⟩, List.mem_of_getElem? (i := 1558) (by decide +kernel), List.mem_of_getElem? (i := 1730) (by decide +kernel), List.mem_of_getElem? (i := 1731) (by decide +kernel)⟩
theorem lw_p58 : lw_okq (⟨"ArchEndsModel", "brokers", "()I"⟩, 24) := ⟨⟨by decide +kernel, by decide +kernel⟩, List.mem_of_getElem? (i := 1558) (by decide +kernel), List.mem_of_getElem? (i := 1734) (by decide +kernel), List.mem_of_getElem? (i := 1735) (by decide +kernel)⟩
theorem lw_p59 : lw_okq (⟨"ArchEndsModel", "readDeed", "()Z"⟩, 24) := ⟨⟨by decide +kernel, by decide +kernel⟩, List.mem_of_getElem? (i := 1558) (by decide +kernel), List.mem_of_getElem? (i := 1744) (by decide +kernel), List.mem_of_getElem? (i := 1745) (by decide +kernel)⟩
theorem lw_p60 : lw_okq (⟨"ArchEndsModel", "deeds", "()I"⟩, 24) := ⟨⟨by decide +kernel, by decide +kernel⟩, List.mem_of_getElem? (i := 1558) (by decide +kernel), List.mem_of_getElem? (i := 1748) (by decide +kernel), List.mem_of_getElem? (i := 1749) (by decide +kernel)⟩
theorem lw_p61 : lw_okq (⟨"ArchEndsModel", "readNumber", "(III)Z"⟩, 24) := ⟨⟨by decide +kernel, by decide +kernel⟩, List.mem_of_getElem? (i := 1558) (by decide +kernel), List.mem_of_getElem? (i := 1757) (by decide +kernel), List.mem_of_getElem? (i := 1758) (by decide +kernel)⟩
theorem lw_p62 : lw_okq (⟨"ArchEndsModel", "readLawLine", "(I)Z"⟩, 24) := ⟨⟨by decide +kernel, by decide +kernel⟩, List.mem_of_getElem? (i := 1558) (by decide +kernel), List.mem_of_getElem? (i := 1763) (by decide +kernel), List.mem_of_getElem? (i := 1764) (by decide +kernel)⟩
theorem lw_p63 : lw_okq (⟨"ArchEndsModel", "readCond", "()Z"⟩, 24) := ⟨⟨by decide +kernel, by decide +kernel⟩, List.mem_of_getElem? (i := 1558) (by decide +kernel), List.mem_of_getElem? (i := 1771) (by decide +kernel), List.mem_of_getElem? (i := 1772) (by decide +kernel)⟩
def lw_privs_4 : List (MethodName × Nat) := [(⟨"ArchEndsModel", "letters", "()V"⟩, 24), (⟨"ArchEndsModel", "readCountyLine", "()Z"⟩, 24), (⟨"ArchEndsModel", "isWord", "(Ljava/lang/String;)Z"⟩, 24), (⟨"ArchEndsModel", "readShower", "()Z"⟩, 24), (⟨"ArchEndsModel", "showers", "()I"⟩, 24), (⟨"ArchEndsModel", "number", "(II)I"⟩, 24), (⟨"ArchEndsModel", "readSpan", "(III)Z"⟩, 24), (⟨"ArchEndsModel", "after", "(Ljava/lang/String;II)I"⟩, 24), (⟨"ArchEndsModel", "passes", "(Ljava/lang/String;)Z"⟩, 24), (⟨"ArchEndsModel", "readBroker", "()Z"⟩, 24), (⟨"ArchEndsModel", "brokers", "()I"⟩, 24), (⟨"ArchEndsModel", "readDeed", "()Z"⟩, 24), (⟨"ArchEndsModel", "deeds", "()I"⟩, 24), (⟨"ArchEndsModel", "readNumber", "(III)Z"⟩, 24), (⟨"ArchEndsModel", "readLawLine", "(I)Z"⟩, 24), (⟨"ArchEndsModel", "readCond", "()Z"⟩, 24)]
theorem lw_r4 : ∀ q ∈ lw_privs_4, lw_okq q := List.forall_mem_cons.mpr ⟨lw_p48, List.forall_mem_cons.mpr ⟨lw_p49, List.forall_mem_cons.mpr ⟨lw_p50, List.forall_mem_cons.mpr ⟨lw_p51, List.forall_mem_cons.mpr ⟨lw_p52, List.forall_mem_cons.mpr ⟨lw_p53, List.forall_mem_cons.mpr ⟨lw_p54, List.forall_mem_cons.mpr ⟨lw_p55, List.forall_mem_cons.mpr ⟨lw_p56, List.forall_mem_cons.mpr ⟨lw_p57, List.forall_mem_cons.mpr ⟨lw_p58, List.forall_mem_cons.mpr ⟨lw_p59, List.forall_mem_cons.mpr ⟨lw_p60, List.forall_mem_cons.mpr ⟨lw_p61, List.forall_mem_cons.mpr ⟨lw_p62, List.forall_mem_cons.mpr ⟨lw_p63, fun _ h => absurd h List.not_mem_nil⟩⟩⟩⟩⟩⟩⟩⟩⟩⟩⟩⟩⟩⟩⟩⟩
theorem lw_p64 : lw_okq (⟨"ArchEndsModel", "readAllOf", "()Z"⟩, 24) := ⟨⟨by decide +kernel, by decide +kernel⟩, List.mem_of_getElem? (i := 1558) (by decide +kernel), List.mem_of_getElem? (i := 1775) (by decide +kernel), List.mem_of_getElem? (i := 1776) (by decide +kernel)⟩
theorem lw_p65 : lw_okq (⟨"ArchEndsModel", "readAtom", "()Z"⟩, 24) := ⟨⟨by decide +kernel, by decide +kernel⟩, List.mem_of_getElem? (i := 1558) (by decide +kernel), List.mem_of_getElem? (i := 1779) (by decide +kernel), List.mem_of_getElem? (i := 1780) (by decide +kernel)⟩
theorem lw_p66 : lw_okq (⟨"ArchEndsModel", "sign", "(I)Z"⟩, 24) := ⟨⟨by decide +kernel, by decide +kernel⟩, List.mem_of_getElem? (i := 1558) (by decide +kernel), List.mem_of_getElem? (i := 1783) (by decide +kernel), List.mem_of_getElem? (i := 1784) (by decide +kernel)⟩
theorem lw_p67 : lw_okq (⟨"ArchEndsModel", "emits", "(II)V"⟩, 24) := ⟨⟨by decide +kernel, by decide +kernel⟩, List.mem_of_getElem? (i := 1558) (by decide +kernel), List.mem_of_getElem? (i := 1788) (by decide +kernel), List.mem_of_getElem? (i := 1789) (by decide +kernel)⟩
theorem lw_p68 : lw_okq (⟨"ArchEndsModel", "readTag", "()Z"⟩, 24) := ⟨⟨by decide +kernel, by decide +kernel⟩, List.mem_of_getElem? (i := 1558) (by decide +kernel), List.mem_of_getElem? (i := 1792) (by decide +kernel), List.mem_of_getElem? (i := 1793) (by decide +kernel)⟩
theorem lw_p69 : lw_okq (⟨"ArchEndsModel", "readSum", "()Z"⟩, 24) := ⟨⟨by decide +kernel, by decide +kernel⟩, List.mem_of_getElem? (i := 1558) (by decide +kernel), List.mem_of_getElem? (i := 1798) (by decide +kernel), List.mem_of_getElem? (i := 1799) (by decide +kernel)⟩
theorem lw_p70 : lw_okq (⟨"ArchEndsModel", "readPart", "()Z"⟩, 24) := ⟨⟨by decide +kernel, by decide +kernel⟩, List.mem_of_getElem? (i := 1558) (by decide +kernel), List.mem_of_getElem? (i := 1802) (by decide +kernel), List.mem_of_getElem? (i := 1803) (by decide +kernel)⟩
theorem lw_p71 : lw_okq (⟨"ArchEndsModel", "throwsIf", "(ZI)Z"⟩, 24) := ⟨⟨by decide +kernel, by decide +kernel⟩, List.mem_of_getElem? (i := 1558) (by decide +kernel), List.mem_of_getElem? (i := 1814) (by decide +kernel), List.mem_of_getElem? (i := 1815) (by decide +kernel)⟩
theorem lw_p72 : lw_okq (⟨"ArchEndsModel", "noShower", "(I)Z"⟩, 24) := ⟨⟨by decide +kernel, by decide +kernel⟩, List.mem_of_getElem? (i := 1558) (by decide +kernel), List.mem_of_getElem? (i := 1826) (by decide +kernel), List.mem_of_getElem? (i := 1827) (by decide +kernel)⟩
theorem lw_p73 : lw_okq (⟨"ArchEndsModel", "ofShower", "(II)I"⟩, 24) := ⟨⟨by decide +kernel, by decide +kernel⟩, List.mem_of_getElem? (i := 1558) (by decide +kernel), List.mem_of_getElem? (i := 1833) (by decide +kernel), List.mem_of_getElem? (i := 1834) (by decide +kernel)⟩
theorem lw_p74 : lw_okq (⟨"ArchEndsModel", "throwsAt", "(II)Z"⟩, 24) := ⟨⟨by decide +kernel, by decide +kernel⟩, List.mem_of_getElem? (i := 1558) (by decide +kernel), List.mem_of_getElem? (i := 1861) (by decide +kernel), List.mem_of_getElem? (i := 1862) (by decide +kernel)⟩
theorem lw_p75 : lw_okq (⟨"ArchEndsModel", "isArch", "(II)Z"⟩, 24) := ⟨⟨by decide +kernel, by decide +kernel⟩, List.mem_of_getElem? (i := 1558) (by decide +kernel), List.mem_of_getElem? (i := 1875) (by decide +kernel), List.mem_of_getElem? (i := 1876) (by decide +kernel)⟩
theorem lw_p76 : lw_okq (⟨"ArchEndsModel", "wetBy", "(II)I"⟩, 24) := ⟨⟨by decide +kernel, by decide +kernel⟩, List.mem_of_getElem? (i := 1558) (by decide +kernel), List.mem_of_getElem? (i := 1879) (by decide +kernel), List.mem_of_getElem? (i := 1880) (by decide +kernel)⟩
theorem lw_p77 : lw_okq (⟨"ArchEndsModel", "liesOver", "(III)Z"⟩, 24) := ⟨⟨by decide +kernel, by decide +kernel⟩, List.mem_of_getElem? (i := 1558) (by decide +kernel), List.mem_of_getElem? (i := 1883) (by decide +kernel), List.mem_of_getElem? (i := 1884) (by decide +kernel)⟩
theorem lw_p78 : lw_okq (⟨"ArchEndsModel", "standsOn", "(III)Z"⟩, 24) := ⟨⟨by decide +kernel, by decide +kernel⟩, List.mem_of_getElem? (i := 1558) (by decide +kernel), List.mem_of_getElem? (i := 1895) (by decide +kernel), List.mem_of_getElem? (i := 1896) (by decide +kernel)⟩
theorem lw_p79 : lw_okq (⟨"ArchEndsModel", "standsBy", "(IIII)I"⟩, 24) := ⟨⟨by decide +kernel, by decide +kernel⟩, List.mem_of_getElem? (i := 1558) (by decide +kernel), List.mem_of_getElem? (i := 1906) (by decide +kernel), List.mem_of_getElem? (i := 1907) (by decide +kernel)⟩
def lw_privs_5 : List (MethodName × Nat) := [(⟨"ArchEndsModel", "readAllOf", "()Z"⟩, 24), (⟨"ArchEndsModel", "readAtom", "()Z"⟩, 24), (⟨"ArchEndsModel", "sign", "(I)Z"⟩, 24), (⟨"ArchEndsModel", "emits", "(II)V"⟩, 24), (⟨"ArchEndsModel", "readTag", "()Z"⟩, 24), (⟨"ArchEndsModel", "readSum", "()Z"⟩, 24), (⟨"ArchEndsModel", "readPart", "()Z"⟩, 24), (⟨"ArchEndsModel", "throwsIf", "(ZI)Z"⟩, 24), (⟨"ArchEndsModel", "noShower", "(I)Z"⟩, 24), (⟨"ArchEndsModel", "ofShower", "(II)I"⟩, 24), (⟨"ArchEndsModel", "throwsAt", "(II)Z"⟩, 24), (⟨"ArchEndsModel", "isArch", "(II)Z"⟩, 24), (⟨"ArchEndsModel", "wetBy", "(II)I"⟩, 24), (⟨"ArchEndsModel", "liesOver", "(III)Z"⟩, 24), (⟨"ArchEndsModel", "standsOn", "(III)Z"⟩, 24), (⟨"ArchEndsModel", "standsBy", "(IIII)I"⟩, 24)]
theorem lw_r5 : ∀ q ∈ lw_privs_5, lw_okq q := List.forall_mem_cons.mpr ⟨lw_p64, List.forall_mem_cons.mpr ⟨lw_p65, List.forall_mem_cons.mpr ⟨lw_p66, List.forall_mem_cons.mpr ⟨lw_p67, List.forall_mem_cons.mpr ⟨lw_p68, List.forall_mem_cons.mpr ⟨lw_p69, List.forall_mem_cons.mpr ⟨lw_p70, List.forall_mem_cons.mpr ⟨lw_p71, List.forall_mem_cons.mpr ⟨lw_p72, List.forall_mem_cons.mpr ⟨lw_p73, List.forall_mem_cons.mpr ⟨lw_p74, List.forall_mem_cons.mpr ⟨lw_p75, List.forall_mem_cons.mpr ⟨lw_p76, List.forall_mem_cons.mpr ⟨lw_p77, List.forall_mem_cons.mpr ⟨lw_p78, List.forall_mem_cons.mpr ⟨lw_p79, fun _ h => absurd h List.not_mem_nil⟩⟩⟩⟩⟩⟩⟩⟩⟩⟩⟩⟩⟩⟩⟩⟩
theorem lw_p80 : lw_okq (⟨"ArchEndsModel", "noBroker", "(I)Z"⟩, 24) := ⟨⟨by decide +kernel, by decide +kernel⟩, List.mem_of_getElem? (i := 1558) (by decide +kernel), List.mem_of_getElem? (i := 1945) (by decide +kernel), List.mem_of_getElem? (i := 1946) (by decide +kernel)⟩
theorem lw_p81 : lw_okq (⟨"ArchEndsModel", "walksBy", "(I)I"⟩, 24) := ⟨⟨by decide +kernel, by decide +kernel⟩, List.mem_of_getElem? (i := 1558) (by decide +kernel), List.mem_of_getElem? (i := 1949) (by decide +kernel), List.mem_of_getElem? (i := 1950) (by decide +kernel)⟩
theorem lw_p82 : lw_okq (⟨"ArchEndsModel", "of", "(II)I"⟩, 24) := ⟨⟨by decide +kernel, by decide +kernel⟩, List.mem_of_getElem? (i := 1558) (by decide +kernel), List.mem_of_getElem? (i := 1953) (by decide +kernel), List.mem_of_getElem? (i := 1954) (by decide +kernel)⟩
theorem lw_p83 : lw_okq (⟨"ArchEndsModel", "sumOf", "(IIII)I"⟩, 24) := ⟨⟨by decide +kernel, by decide +kernel⟩, List.mem_of_getElem? (i := 1558) (by decide +kernel), List.mem_of_getElem? (i := 1957) (by decide +kernel), List.mem_of_getElem? (i := 1958) (by decide +kernel)⟩
theorem lw_p84 : lw_okq (⟨"ArchEndsModel", "holdsLine", "(I)Z"⟩, 24) := ⟨⟨by decide +kernel, by decide +kernel⟩, List.mem_of_getElem? (i := 1558) (by decide +kernel), List.mem_of_getElem? (i := 1961) (by decide +kernel), List.mem_of_getElem? (i := 1962) (by decide +kernel)⟩
theorem lw_p85 : lw_okq (⟨"ArchEndsModel", "factOf", "(II)I"⟩, 24) := ⟨⟨by decide +kernel, by decide +kernel⟩, List.mem_of_getElem? (i := 1558) (by decide +kernel), List.mem_of_getElem? (i := 1965) (by decide +kernel), List.mem_of_getElem? (i := 1966) (by decide +kernel)⟩
theorem lw_p86 : lw_okq (⟨"ArchEndsModel", "isOwned", "()Z"⟩, 24) := ⟨⟨by decide +kernel, by decide +kernel⟩, List.mem_of_getElem? (i := 1558) (by decide +kernel), List.mem_of_getElem? (i := 1970) (by decide +kernel), List.mem_of_getElem? (i := 1971) (by decide +kernel)⟩
theorem lw_p87 : lw_okq (⟨"ArchEndsModel", "hasOwner", "(I)Z"⟩, 24) := ⟨⟨by decide +kernel, by decide +kernel⟩, List.mem_of_getElem? (i := 1558) (by decide +kernel), List.mem_of_getElem? (i := 1974) (by decide +kernel), List.mem_of_getElem? (i := 1975) (by decide +kernel)⟩
theorem lw_p88 : lw_okq (⟨"ArchEndsModel", "ofDeed", "(II)I"⟩, 24) := ⟨⟨by decide +kernel, by decide +kernel⟩, List.mem_of_getElem? (i := 1558) (by decide +kernel), List.mem_of_getElem? (i := 1978) (by decide +kernel), List.mem_of_getElem? (i := 1979) (by decide +kernel)⟩
theorem lw_p89 : lw_okq (⟨"ArchEndsModel", "hasMinute", "(II)Z"⟩, 24) := ⟨⟨by decide +kernel, by decide +kernel⟩, List.mem_of_getElem? (i := 1558) (by decide +kernel), List.mem_of_getElem? (i := 1982) (by decide +kernel), List.mem_of_getElem? (i := 1983) (by decide +kernel)⟩
theorem lw_p90 : lw_okq (⟨"ArchEndsModel", "deedsOf", "(I)I"⟩, 24) := ⟨⟨by decide +kernel, by decide +kernel⟩, List.mem_of_getElem? (i := 1558) (by decide +kernel), List.mem_of_getElem? (i := 1986) (by decide +kernel), List.mem_of_getElem? (i := 1987) (by decide +kernel)⟩
theorem lw_p91 : lw_okq (⟨"ArchEndsModel", "worthOf", "(I)I"⟩, 24) := ⟨⟨by decide +kernel, by decide +kernel⟩, List.mem_of_getElem? (i := 1558) (by decide +kernel), List.mem_of_getElem? (i := 1990) (by decide +kernel), List.mem_of_getElem? (i := 1991) (by decide +kernel)⟩
theorem lw_p92 : lw_okq (⟨"ArchEndsModel", "noDeed", "(I)Z"⟩, 24) := ⟨⟨by decide +kernel, by decide +kernel⟩, List.mem_of_getElem? (i := 1558) (by decide +kernel), List.mem_of_getElem? (i := 1998) (by decide +kernel), List.mem_of_getElem? (i := 1999) (by decide +kernel)⟩
theorem lw_p93 : lw_okq (⟨"ArchEndsModel", "costsOf", "(II)I"⟩, 24) := ⟨⟨by decide +kernel, by decide +kernel⟩, List.mem_of_getElem? (i := 1558) (by decide +kernel), List.mem_of_getElem? (i := 2006) (by decide +kernel), List.mem_of_getElem? (i := 2007) (by decide +kernel)⟩
theorem lw_p94 : lw_okq (⟨"ArchEndsModel", "bringsOf", "(III)I"⟩, 24) := ⟨⟨by decide +kernel, by decide +kernel⟩, List.mem_of_getElem? (i := 1558) (by decide +kernel), List.mem_of_getElem? (i := 2014) (by decide +kernel), List.mem_of_getElem? (i := 2015) (by decide +kernel)⟩
theorem lw_p95 : lw_okq (⟨"ArchEndsModel", "remembers", "()V"⟩, 24) := ⟨⟨by decide +kernel, by decide +kernel⟩, List.mem_of_getElem? (i := 1558) (by decide +kernel), List.mem_of_getElem? (i := 2022) (by decide +kernel), List.mem_of_getElem? (i := 2023) (by decide +kernel)⟩
def lw_privs_6 : List (MethodName × Nat) := [(⟨"ArchEndsModel", "noBroker", "(I)Z"⟩, 24), (⟨"ArchEndsModel", "walksBy", "(I)I"⟩, 24), (⟨"ArchEndsModel", "of", "(II)I"⟩, 24), (⟨"ArchEndsModel", "sumOf", "(IIII)I"⟩, 24), (⟨"ArchEndsModel", "holdsLine", "(I)Z"⟩, 24), (⟨"ArchEndsModel", "factOf", "(II)I"⟩, 24), (⟨"ArchEndsModel", "isOwned", "()Z"⟩, 24), (⟨"ArchEndsModel", "hasOwner", "(I)Z"⟩, 24), (⟨"ArchEndsModel", "ofDeed", "(II)I"⟩, 24), (⟨"ArchEndsModel", "hasMinute", "(II)Z"⟩, 24), (⟨"ArchEndsModel", "deedsOf", "(I)I"⟩, 24), (⟨"ArchEndsModel", "worthOf", "(I)I"⟩, 24), (⟨"ArchEndsModel", "noDeed", "(I)Z"⟩, 24), (⟨"ArchEndsModel", "costsOf", "(II)I"⟩, 24), (⟨"ArchEndsModel", "bringsOf", "(III)I"⟩, 24), (⟨"ArchEndsModel", "remembers", "()V"⟩, 24)]
theorem lw_r6 : ∀ q ∈ lw_privs_6, lw_okq q := List.forall_mem_cons.mpr ⟨lw_p80, List.forall_mem_cons.mpr ⟨lw_p81, List.forall_mem_cons.mpr ⟨lw_p82, List.forall_mem_cons.mpr ⟨lw_p83, List.forall_mem_cons.mpr ⟨lw_p84, List.forall_mem_cons.mpr ⟨lw_p85, List.forall_mem_cons.mpr ⟨lw_p86, List.forall_mem_cons.mpr ⟨lw_p87, List.forall_mem_cons.mpr ⟨lw_p88, List.forall_mem_cons.mpr ⟨lw_p89, List.forall_mem_cons.mpr ⟨lw_p90, List.forall_mem_cons.mpr ⟨lw_p91, List.forall_mem_cons.mpr ⟨lw_p92, List.forall_mem_cons.mpr ⟨lw_p93, List.forall_mem_cons.mpr ⟨lw_p94, List.forall_mem_cons.mpr ⟨lw_p95, fun _ h => absurd h List.not_mem_nil⟩⟩⟩⟩⟩⟩⟩⟩⟩⟩⟩⟩⟩⟩⟩⟩
theorem lw_p96 : lw_okq (⟨"ArchEndsModel", "gets", "(II)V"⟩, 24) := ⟨⟨by decide +kernel, by decide +kernel⟩, List.mem_of_getElem? (i := 1558) (by decide +kernel), List.mem_of_getElem? (i := 2030) (by decide +kernel), List.mem_of_getElem? (i := 2031) (by decide +kernel)⟩
theorem lw_p97 : lw_okq (⟨"ArchEndsModel", "goesBy", "(IZ)I"⟩, 24) := ⟨⟨by decide +kernel, by decide +kernel⟩, List.mem_of_getElem? (i := 1558) (by decide +kernel), List.mem_of_getElem? (i := 2057) (by decide +kernel), List.mem_of_getElem? (i := 2058) (by decide +kernel)⟩
theorem lw_p98 : lw_okq (⟨"ArchEndsModel", "oneMinute", "(Z)I"⟩, 24) := ⟨⟨by decide +kernel, by decide +kernel⟩, List.mem_of_getElem? (i := 1558) (by decide +kernel), List.mem_of_getElem? (i := 2061) (by decide +kernel), List.mem_of_getElem? (i := 2062) (by decide +kernel)⟩
theorem lw_p99 : lw_okq (⟨"ArchEndsModel", "drawn", "(I)I"⟩, 24) := ⟨⟨by decide +kernel, by decide +kernel⟩, List.mem_of_getElem? (i := 1558) (by decide +kernel), List.mem_of_getElem? (i := 2065) (by decide +kernel), List.mem_of_getElem? (i := 2066) (by decide +kernel)⟩
theorem lw_p100 : lw_okq (⟨"ArchEndsModel", "brightens", "(I)Z"⟩, 24) := ⟨⟨by decide +kernel, by decide +kernel⟩, List.mem_of_getElem? (i := 1558) (by decide +kernel), List.mem_of_getElem? (i := 2070) (by decide +kernel), List.mem_of_getElem? (i := 2071) (by decide +kernel)⟩
theorem lw_p101 : lw_okq (⟨"ArchEndsModel", "tells", "(II)V"⟩, 24) := ⟨⟨by decide +kernel, by decide +kernel⟩, List.mem_of_getElem? (i := 1558) (by decide +kernel), List.mem_of_getElem? (i := 2074) (by decide +kernel), List.mem_of_getElem? (i := 2075) (by decide +kernel)⟩
theorem lw_p102 : lw_okq (⟨"ArchEndsModel", "keepsAll", "()V"⟩, 24) := ⟨⟨by decide +kernel, by decide +kernel⟩, List.mem_of_getElem? (i := 1558) (by decide +kernel), List.mem_of_getElem? (i := 2082) (by decide +kernel), List.mem_of_getElem? (i := 2083) (by decide +kernel)⟩
theorem lw_p103 : lw_okq (⟨"ArchEndsModel", "bringsBack", "()V"⟩, 24) := ⟨⟨by decide +kernel, by decide +kernel⟩, List.mem_of_getElem? (i := 1558) (by decide +kernel), List.mem_of_getElem? (i := 2086) (by decide +kernel), List.mem_of_getElem? (i := 2087) (by decide +kernel)⟩
theorem lw_p104 : lw_okq (⟨"ArchEndsModel", "oddsOf", "(II)I"⟩, 24) := ⟨⟨by decide +kernel, by decide +kernel⟩, List.mem_of_getElem? (i := 1558) (by decide +kernel), List.mem_of_getElem? (i := 2094) (by decide +kernel), List.mem_of_getElem? (i := 2095) (by decide +kernel)⟩
theorem lw_p105 : lw_okq (⟨"ArchEndsModel", "hopeOf", "(I)I"⟩, 24) := ⟨⟨by decide +kernel, by decide +kernel⟩, List.mem_of_getElem? (i := 1558) (by decide +kernel), List.mem_of_getElem? (i := 2104) (by decide +kernel), List.mem_of_getElem? (i := 2105) (by decide +kernel)⟩
theorem lw_p106 : lw_okq (⟨"ArchEndsModel", "gainOf", "(II)I"⟩, 24) := ⟨⟨by decide +kernel, by decide +kernel⟩, List.mem_of_getElem? (i := 1558) (by decide +kernel), List.mem_of_getElem? (i := 2112) (by decide +kernel), List.mem_of_getElem? (i := 2113) (by decide +kernel)⟩
theorem lw_p107 : lw_okq (⟨"ArchEndsModel", "restsBy", "(IIII)I"⟩, 24) := ⟨⟨by decide +kernel, by decide +kernel⟩, List.mem_of_getElem? (i := 1558) (by decide +kernel), List.mem_of_getElem? (i := 2130) (by decide +kernel), List.mem_of_getElem? (i := 2131) (by decide +kernel)⟩
theorem lw_p108 : lw_okq (⟨"ArchEndsModel", "minutesOf", "(II)I"⟩, 24) := ⟨⟨by decide +kernel, by decide +kernel⟩, List.mem_of_getElem? (i := 1558) (by decide +kernel), List.mem_of_getElem? (i := 2138) (by decide +kernel), List.mem_of_getElem? (i := 2139) (by decide +kernel)⟩
theorem lw_p109 : lw_okq (⟨"ArchEndsModel", "laysLeast", "()V"⟩, 24) := ⟨⟨by decide +kernel, by decide +kernel⟩, List.mem_of_getElem? (i := 1558) (by decide +kernel), List.mem_of_getElem? (i := 2150) (by decide +kernel), List.mem_of_getElem? (i := 2151) (by decide +kernel)⟩
theorem lw_p110 : lw_okq (⟨"ArchEndsModel", "leastBy", "(III)I"⟩, 24) := ⟨⟨by decide +kernel, by decide +kernel⟩, List.mem_of_getElem? (i := 1558) (by decide +kernel), List.mem_of_getElem? (i := 2155) (by decide +kernel), List.mem_of_getElem? (i := 2156) (by decide +kernel)⟩
theorem lw_p111 : lw_okq (⟨"ArchEndsModel", "leastOf", "(II)I"⟩, 24) := ⟨⟨by decide +kernel, by decide +kernel⟩, List.mem_of_getElem? (i := 1558) (by decide +kernel), List.mem_of_getElem? (i := 2159) (by decide +kernel), List.mem_of_getElem? (i := 2160) (by decide +kernel)⟩
def lw_privs_7 : List (MethodName × Nat) := [(⟨"ArchEndsModel", "gets", "(II)V"⟩, 24), (⟨"ArchEndsModel", "goesBy", "(IZ)I"⟩, 24), (⟨"ArchEndsModel", "oneMinute", "(Z)I"⟩, 24), (⟨"ArchEndsModel", "drawn", "(I)I"⟩, 24), (⟨"ArchEndsModel", "brightens", "(I)Z"⟩, 24), (⟨"ArchEndsModel", "tells", "(II)V"⟩, 24), (⟨"ArchEndsModel", "keepsAll", "()V"⟩, 24), (⟨"ArchEndsModel", "bringsBack", "()V"⟩, 24), (⟨"ArchEndsModel", "oddsOf", "(II)I"⟩, 24), (⟨"ArchEndsModel", "hopeOf", "(I)I"⟩, 24), (⟨"ArchEndsModel", "gainOf", "(II)I"⟩, 24), (⟨"ArchEndsModel", "restsBy", "(IIII)I"⟩, 24), (⟨"ArchEndsModel", "minutesOf", "(II)I"⟩, 24), (⟨"ArchEndsModel", "laysLeast", "()V"⟩, 24), (⟨"ArchEndsModel", "leastBy", "(III)I"⟩, 24), (⟨"ArchEndsModel", "leastOf", "(II)I"⟩, 24)]
theorem lw_r7 : ∀ q ∈ lw_privs_7, lw_okq q := List.forall_mem_cons.mpr ⟨lw_p96, List.forall_mem_cons.mpr ⟨lw_p97, List.forall_mem_cons.mpr ⟨lw_p98, List.forall_mem_cons.mpr ⟨lw_p99, List.forall_mem_cons.mpr ⟨lw_p100, List.forall_mem_cons.mpr ⟨lw_p101, List.forall_mem_cons.mpr ⟨lw_p102, List.forall_mem_cons.mpr ⟨lw_p103, List.forall_mem_cons.mpr ⟨lw_p104, List.forall_mem_cons.mpr ⟨lw_p105, List.forall_mem_cons.mpr ⟨lw_p106, List.forall_mem_cons.mpr ⟨lw_p107, List.forall_mem_cons.mpr ⟨lw_p108, List.forall_mem_cons.mpr ⟨lw_p109, List.forall_mem_cons.mpr ⟨lw_p110, List.forall_mem_cons.mpr ⟨lw_p111, fun _ h => absurd h List.not_mem_nil⟩⟩⟩⟩⟩⟩⟩⟩⟩⟩⟩⟩⟩⟩⟩⟩
theorem lw_p112 : lw_okq (⟨"ArchEndsModel", "isTold", "()Z"⟩, 24) := ⟨⟨by decide +kernel, by decide +kernel⟩, List.mem_of_getElem? (i := 1558) (by decide +kernel), List.mem_of_getElem? (i := 2167) (by decide +kernel), List.mem_of_getElem? (i := 2168) (by decide +kernel)⟩
theorem lw_p113 : lw_okq (⟨"ArchEndsModel", "fits", "(II)Z"⟩, 24) := ⟨⟨by decide +kernel, by decide +kernel⟩, List.mem_of_getElem? (i := 1558) (by decide +kernel), List.mem_of_getElem? (i := 2171) (by decide +kernel), List.mem_of_getElem? (i := 2172) (by decide +kernel)⟩
theorem lw_p114 : lw_okq (⟨"ArchEndsModel", "isWetBy", "(III)Z"⟩, 24) := ⟨⟨by decide +kernel, by decide +kernel⟩, List.mem_of_getElem? (i := 1558) (by decide +kernel), List.mem_of_getElem? (i := 2175) (by decide +kernel), List.mem_of_getElem? (i := 2176) (by decide +kernel)⟩
theorem lw_p115 : lw_okq (⟨"ArchEndsModel", "pursesOfAll", "()I"⟩, 24) := ⟨⟨by decide +kernel, by decide +kernel⟩, List.mem_of_getElem? (i := 1558) (by decide +kernel), List.mem_of_getElem? (i := 2195) (by decide +kernel), List.mem_of_getElem? (i := 2196) (by decide +kernel)⟩
theorem lw_p116 : lw_okq (⟨"ArchEndsModel", "ofLog", "(II)I"⟩, 24) := ⟨⟨by decide +kernel, by decide +kernel⟩, List.mem_of_getElem? (i := 1558) (by decide +kernel), List.mem_of_getElem? (i := 2207) (by decide +kernel), List.mem_of_getElem? (i := 2208) (by decide +kernel)⟩
theorem lw_p117 : lw_okq (⟨"ArchEndsModel", "ownedOnes", "()I"⟩, 24) := ⟨⟨by decide +kernel, by decide +kernel⟩, List.mem_of_getElem? (i := 1558) (by decide +kernel), List.mem_of_getElem? (i := 2223) (by decide +kernel), List.mem_of_getElem? (i := 2224) (by decide +kernel)⟩
def lw_privs_8 : List (MethodName × Nat) := [(⟨"ArchEndsModel", "isTold", "()Z"⟩, 24), (⟨"ArchEndsModel", "fits", "(II)Z"⟩, 24), (⟨"ArchEndsModel", "isWetBy", "(III)Z"⟩, 24), (⟨"ArchEndsModel", "pursesOfAll", "()I"⟩, 24), (⟨"ArchEndsModel", "ofLog", "(II)I"⟩, 24), (⟨"ArchEndsModel", "ownedOnes", "()I"⟩, 24)]
theorem lw_r8 : ∀ q ∈ lw_privs_8, lw_okq q := List.forall_mem_cons.mpr ⟨lw_p112, List.forall_mem_cons.mpr ⟨lw_p113, List.forall_mem_cons.mpr ⟨lw_p114, List.forall_mem_cons.mpr ⟨lw_p115, List.forall_mem_cons.mpr ⟨lw_p116, List.forall_mem_cons.mpr ⟨lw_p117, fun _ h => absurd h List.not_mem_nil⟩⟩⟩⟩⟩⟩
def lw_privs : List (MethodName × Nat) := lw_privs_1 ++ (lw_privs_2 ++ (lw_privs_3 ++ (lw_privs_4 ++ (lw_privs_5 ++ (lw_privs_6 ++ (lw_privs_7 ++ (lw_privs_8)))))))
def lw_tbl : List Cond := k2_sels lw_privs ++ tables_1
theorem lw_privs_ok : ∀ q ∈ lw_privs, lw_okq q := by
  show ∀ q ∈ lw_privs_1 ++ (lw_privs_2 ++ (lw_privs_3 ++ (lw_privs_4 ++ (lw_privs_5 ++ (lw_privs_6 ++ (lw_privs_7 ++ (lw_privs_8))))))), lw_okq q
  exact List.forall_mem_append.mpr ⟨lw_r1, List.forall_mem_append.mpr ⟨lw_r2, List.forall_mem_append.mpr ⟨lw_r3, List.forall_mem_append.mpr ⟨lw_r4, List.forall_mem_append.mpr ⟨lw_r5, List.forall_mem_append.mpr ⟨lw_r6, List.forall_mem_append.mpr ⟨lw_r7, lw_r8⟩⟩⟩⟩⟩⟩⟩
end
section
/-! A handler's class may be unresolved when it is first asked (cold): the search for a handler through rows that pass and a row that takes. These follow proofs of the library that a round can't import. -/
def cx_Finds (e : Env) (s : State) (f : JFrame) (a : Addr) (h : Handler) (vm' : Vm) : Prop :=
  ∀ (Q : Handler → Pre) (E : CtlPost) (d : Bool) (acts : List Action), wp (findHandler f a) Q E e d acts s ↔ Q h d acts (s.setVm vm')
section CX
variable {Q : Handler → Pre} {E : CtlPost} {e : Env} {d : Bool} {acts : List Action} {s : State} {f : JFrame} {a : Addr}
theorem cx_link {x : ExceptionTableEntry} {t : List ExceptionTableEntry} {c : ClassId} {cell : Cell} (hx : covers x f.pc = true) (h0 : x.catchType ≠ 0)
    (hl : s.vm.ClassLinks e.platform f.method.cls x.catchType c) (hcell : s.heap[a]? = some cell) (hobj : ∀ k, cell.vm ≠ .statics k)
    (hk : ∃ k, s.vm.classes[cell.cls]? = some k) (hc : ∃ k, s.vm.classes[c]? = some k) (hfit : s.vm.assignable cell.cls c = true) :
    wp (findHandler.go f a (x :: t)) Q E e d acts s ↔ Q (.found x.handlerPc) d acts (s.setVm (s.vm.noted f.method.cls x.catchType (.cls c))) := by
  simp only [covers] at hx
  obtain ⟨ha, ht⟩ := (resolveClass_links e.toSetting hl).op (op := VmOp.resolveClass f.method.cls x.catchType) rfl
  have hal : s.vm.Alike (s.vm.noted f.method.cls x.catchType (.cls c)) := (Vm.Alike.refl s.vm).noted _ _ _
  obtain ⟨k1, hk1⟩ := hk
  obtain ⟨k2, hk2⟩ := hc
  obtain ⟨k1', hk1', -⟩ := hal.2.2 _ _ hk1
  obtain ⟨k2', hk2', -⟩ := hal.2.2 _ _ hk2
  have hfit' : (s.vm.noted f.method.cls x.catchType (.cls c)).assignable cell.cls c = true := by rw [hal.assignable]; exact hfit
  simp [findHandler.go, hx, h0, ha, ht, hcell, hobj, hk1', hk2', hfit', VmOp.dirties, VmOp.acts]
theorem cx_linkNo {x : ExceptionTableEntry} {t : List ExceptionTableEntry} {c : ClassId} {cell : Cell} (hx : covers x f.pc = true) (h0 : x.catchType ≠ 0)
    (hl : s.vm.ClassLinks e.platform f.method.cls x.catchType c) (hcell : s.heap[a]? = some cell) (hobj : ∀ k, cell.vm ≠ .statics k)
    (hk : ∃ k, s.vm.classes[cell.cls]? = some k) (hc : ∃ k, s.vm.classes[c]? = some k) (hno : s.vm.assignable cell.cls c = false) :
    wp (findHandler.go f a (x :: t)) Q E e d acts s ↔ wp (findHandler.go f a t) Q E e d acts (s.setVm (s.vm.noted f.method.cls x.catchType (.cls c))) := by
  simp only [covers] at hx
  obtain ⟨ha, ht⟩ := (resolveClass_links e.toSetting hl).op (op := VmOp.resolveClass f.method.cls x.catchType) rfl
  have hal : s.vm.Alike (s.vm.noted f.method.cls x.catchType (.cls c)) := (Vm.Alike.refl s.vm).noted _ _ _
  obtain ⟨k1, hk1⟩ := hk
  obtain ⟨k2, hk2⟩ := hc
  obtain ⟨k1', hk1', -⟩ := hal.2.2 _ _ hk1
  obtain ⟨k2', hk2', -⟩ := hal.2.2 _ _ hk2
  have hno' : (s.vm.noted f.method.cls x.catchType (.cls c)).assignable cell.cls c = false := by rw [hal.assignable]; exact hno
  simp [findHandler.go, hx, h0, ha, ht, hcell, hobj, hk1', hk2', hno', VmOp.dirties, VmOp.acts]
end CX
def cx_Passed (pl : Platform) (s₀ : State) (d : ClassId) (pc : Nat) (thrown : ClassId) (y : ExceptionTableEntry) : Prop :=
  covers y pc = false ∨ (y.catchType ≠ 0 ∧ ∃ c, s₀.vm.ClassLinks pl d y.catchType c ∧ s₀.vm.assignable thrown c = false)
def cx_Takes (pl : Platform) (s₀ : State) (d : ClassId) (thrown : ClassId) (x : ExceptionTableEntry) : Prop :=
  x.catchType ≠ 0 ∧ ∃ c, s₀.vm.ClassLinks pl d x.catchType c ∧ s₀.vm.assignable thrown c = true
theorem cx_goes {e : Env} {s₀ : State} {f : JFrame} {a : Addr} {cell : Cell} (hobj : ∀ k, cell.vm ≠ .statics k) (hk0 : ∃ k, s₀.vm.classes[cell.cls]? = some k)
    (x : ExceptionTableEntry) (rest : List ExceptionTableEntry) (hx : covers x f.pc = true) (hend : cx_Takes e.platform s₀ f.method.cls cell.cls x) :
    ∀ (pre : List ExceptionTableEntry) (S : State), s₀.WarmedH S.vm → S.heap[a]? = some cell → (∀ y ∈ pre, cx_Passed e.platform s₀ f.method.cls f.pc cell.cls y) →
      ∃ vm', s₀.WarmedH vm' ∧ ∀ (Q : Handler → Pre) (E : CtlPost) (d : Bool) (acts : List Action), wp (findHandler.go f a (pre ++ x :: rest)) Q E e d acts S ↔ Q (.found x.handlerPc) d acts (S.setVm vm') := by
  obtain ⟨k0, hk0⟩ := hk0
  intro pre
  induction pre with
  | nil =>
    intro S hW hcell _
    obtain ⟨k0', hk0', -⟩ := hW.alike.2.2 _ _ hk0
    obtain ⟨h0, c, hl, hfit⟩ := hend
    obtain ⟨dk, _, _, kt, hd, _, _, _, _, hkt, _, hopen⟩ := hl.here
    obtain ⟨kt', hkt', -⟩ := hW.alike.2.2 _ _ hkt
    exact ⟨_, hW.noted hd hopen (State.rightAt_cls hl), fun Q E d acts => by
      rw [List.nil_append]
      exact cx_link hx h0 (hW.classLinks hl) hcell hobj ⟨k0', hk0'⟩ ⟨kt', hkt'⟩ (by rw [hW.alike.assignable]; exact hfit)⟩
  | cons y ys ih =>
    intro S hW hcell hpass
    obtain ⟨k0', hk0', -⟩ := hW.alike.2.2 _ _ hk0
    have hrest : ∀ z ∈ ys, cx_Passed e.platform s₀ f.method.cls f.pc cell.cls z := fun z hz => hpass z (List.mem_cons_of_mem _ hz)
    by_cases hcov : covers y f.pc = true
    · rcases hpass y (List.mem_cons_self ..) with h | ⟨h0, c, hl, hno⟩
      · rw [h] at hcov; cases hcov
      · obtain ⟨dk, _, _, kt, hd, _, _, _, _, hkt, _, hopen⟩ := hl.here
        obtain ⟨kt', hkt', -⟩ := hW.alike.2.2 _ _ hkt
        obtain ⟨vm', hW', hq⟩ := ih (S.setVm (S.vm.noted f.method.cls y.catchType (.cls c))) (hW.noted hd hopen (State.rightAt_cls hl)) hcell hrest
        exact ⟨vm', hW', fun Q E d acts => by
          rw [List.cons_append, cx_linkNo hcov h0 (hW.classLinks hl) hcell hobj ⟨k0', hk0'⟩ ⟨kt', hkt'⟩ (by rw [hW.alike.assignable]; exact hno)]
          exact hq Q E d acts⟩
    · obtain ⟨vm', hW', hq⟩ := ih S hW hcell hrest
      exact ⟨vm', hW', fun Q E d acts => by
        rw [List.cons_append, Jvm.W.findHandler_go_skip (by simpa using hcov)]
        exact hq Q E d acts⟩
theorem cx_step {e : Env} {s : State} {a : Addr} {f : JFrame} {r : List Frame} {pc : Nat} {vm' : Vm} (hfind : cx_Finds e s f a (.found pc) vm') :
    (stepThrowing e s a (.java f :: r)).Is ((s.setVm vm').setFrames (.java { f with pc := pc, stack := [.ref a] } :: r)) [] := by
  simp only [stepThrowing, searchFrame, vmDo]
  generalize hr : Sem.go _ e false [] s = res
  obtain ⟨as, rfl, ha⟩ := Sem.eq_ok_of hr (a := Handler.found pc) (s' := s.setVm vm') (acts' := []) (by simp [hfind _ _ _ _])
  exact ⟨rfl, ha⟩
theorem cx_frames (u : State) (vm' : Vm) (F G : List Frame) : ((u.setFrames F).setVm vm').setFrames G = (u.setVm vm').setFrames G := by
  have h1 : (u.setFrames F).setVm vm' = (u.setVm vm').setFrames F := rfl
  rw [h1, State.setFrames_setFrames]
theorem cx_caught {tb : Tables} {e : Env} {s target : State} {g : JFrame} {c : Code} {below : List Frame} {a : Addr} (h : At s g.method c below) {pc : Nat} {vm' : Vm}
    (hfind : cx_Finds e ((s.setTop g).pushFrame (.throwing a)) g a (.found pc) vm') (hrest : Steps tb e below ((s.setVm vm').setTop { g with pc := pc, stack := [.ref a] }) target) :
    Steps tb e below ((s.setTop g).pushFrame (.throwing a)) target := by
  obtain ⟨hgo, hw⟩ := h.throwing a
  refine Steps.head hgo hw ?_
  rw [stepThread_throwing (frames_entered h.top _), (cx_step (s := (s.setTop g).pushFrame (.throwing a)) hfind).1]
  obtain ⟨g₀, hg⟩ := Option.isSome_iff_exists.mp h.top
  obtain ⟨r, hr⟩ := State.topJava?_eq_some.mp hg
  have hr' : (s.setVm vm').frames = .java g₀ :: r := hr
  rw [State.setTop_of_frames _ hr'] at hrest
  rw [hr, List.tail_cons, State.pushFrame, cx_frames, State.setTop_of_frames _ hr, cx_frames]
  exact hrest
theorem cx_then {p : Program} {l : Launch} {e : Env} {R : Room} {s : State} {m₀ : MethodId} {args : Array Value} {below : List Frame} {meth : Method} {c : Code} {T : State} {locs : List Loc} {cells slots : Nat}
    (X : Stand p l e R s m₀ args below meth c T locs cells slots) (a : Addr) {g : JFrame} (hg : g.method = m₀) {cell : Cell} (hcell : T.heap[a]? = some cell) (hobj : cell.vm.isStatics = false)
    (hk0 : ∃ k, s.vm.classes[cell.cls]? = some k)
    (pre : List ExceptionTableEntry) (x : ExceptionTableEntry) (rest : List ExceptionTableEntry) (hsplit : c.exceptionTable.toList = pre ++ x :: rest)
    (hpass : ∀ y ∈ pre, cx_Passed e.platform s m₀.cls g.pc cell.cls y) (hx : covers x g.pc = true) (hend : cx_Takes e.platform s m₀.cls cell.cls x) :
    ∃ vm', Stand p l e R s m₀ args below meth c (T.setVm vm') locs cells slots ∧
      Steps p.tables e below ((T.setTop g).pushFrame (.throwing a)) ((T.setVm vm').setTop { g with pc := x.handlerPc, stack := [.ref a] }) := by
  subst hg
  obtain ⟨vm', hW', hq⟩ := cx_goes (e := e) (f := g) (a := a) (VmData.ne_statics_of hobj) hk0 x rest hx hend pre ((T.setTop g).pushFrame (.throwing a)) X.warmed hcell hpass
  have hf : cx_Finds e ((T.setTop g).pushFrame (.throwing a)) g a (.found x.handlerPc) vm' := fun Q E d acts => by
    rw [Jvm.W.findHandler_eq (s := (T.setTop g).pushFrame (.throwing a)) (meth := meth) (code := c) (show ((T.setTop g).pushFrame (.throwing a)).vm.method? g.method = some meth from X.method') X.code, hsplit]
    exact hq Q E d acts
  exact ⟨vm', X.noted hW', cx_caught X.here hf (Steps.refl _)⟩
end
section
/-! ===== BEGIN words of one list among another's, by their places ===== -/
theorem goodIn_r {big : List Cond} (ws : List Cond) (ps : List Nat) (hp : ws = ps.filterMap (fun i => big[i]?)) (h : ws.all goodWord = true) : GoodIn big ws := by
  intro w hw
  have h1 := List.all_eq_true.mp h w hw
  rw [hp] at hw
  obtain ⟨i, -, hi⟩ := List.mem_filterMap.mp hw
  have hm : w ∈ big := by first | exact List.mem_of_getElem? hi | exact List.getElem?_mem hi
  exact ⟨hm, good_of_word h1⟩
theorem goodIn_app {big a b : List Cond} (ha : GoodIn big a) (hb : GoodIn big b) : GoodIn big (a ++ b) := fun w h => (List.mem_append.mp h).elim (ha w) (hb w)
theorem goodIn_ca {big a b : List Cond} {c : Cond} (ha : GoodIn big (c :: a)) (hb : GoodIn big b) : GoodIn big (c :: (a ++ b)) := fun w h => (List.mem_cons.mp h).elim (fun e => ha w (List.mem_cons.mpr (Or.inl e))) (fun h => (List.mem_append.mp h).elim (fun h => ha w (List.mem_cons.mpr (Or.inr h))) (hb w))
theorem goodIn_sub {big ws : List Cond} (hm : ∀ w ∈ ws, w ∈ big) (h : ws.all goodWord = true) : GoodIn big ws := fun w hw => ⟨hm w hw, good_of_word (List.all_eq_true.mp h w hw)⟩
/-! ===== END ===== -/

/-! ===== BEGIN exceptions that leave a method, and their catching by the caller (launches without stack traces) ===== -/
section VXA
/-! The laws vx_back, vx_callV, vx_callS, vx_callSW, vx_throw0, vx_throwS follow proofs of the library, with one case more: JvmDerived/Free/Laws.lean (Back.of_free), Shelf42/LK1.lean (callV, callS), Shelf/KitTraced.lean (throwNew0V, throwNewS). -/
/-- where a method has thrown q: the class by its name, the cell, what was written, the world -/
def vx_T (XC : String → State → State → Prop) (st : State) (q : Addr) (t : State) (mc ms : Nat) (free : Addr → Prop) : Prop :=
  ∃ (E : String) (ce : Cell) (L : List Loc), XC E st t ∧ t.heap[q]? = some ce ∧ ce.vm = .none ∧ st.vm.findClass E = some ce.cls ∧ st.WarmedH t.vm ∧ st.sameButNew ({ t with vm := st.vm } : State) L mc ms ∧ ∀ z ∈ L, free z.base
def vx_Q (Qc : Array Value → State → Outcome → State → Prop) (XC : String → State → State → Prop) (mc ms : Nat) (free : Addr → Prop) : Array Value → State → Outcome → State → Prop := fun a st o t =>
  (Qc a st o t ∧ ∃ L, FrameEnd st o t L mc ms ∧ ∀ q ∈ L, free q.base) ∨ ∃ q, o = .threw q ∧ vx_T XC st q t mc ms free
/-- a callee that returns or throws -/
def vx_Met (l : Launch) (y : MethodName) (ws : List Cond) (rm : Room) (Pc : Array Value → State → Prop) (Qc : Array Value → State → Outcome → State → Prop) (XC : String → State → State → Prop) (mc ms : Nat) (free : Addr → Prop) : Prop :=
  MetFree l y (headSpec ws rm) Pc (fun _ _ _ _ _ => True) (vx_Q Qc XC mc ms free)
def vx_Post (XC : String → State → State → Prop) (mc ms : Nat) (free : Addr → Prop) : Pt → Array Value → Addr → Pt → Prop := fun A a q B =>
  ∃ (g : JFrame) (mk : MethodId) (t : State) (L : List Loc) (E : String) (ce : Cell), B.U.heap = t.heap ∧ B.U.vm = t.vm ∧ XC E (A.U.calling g mk a) t ∧ t.heap[q]? = some ce ∧ ce.vm = .none ∧ A.U.vm.findClass E = some ce.cls ∧ B.locs = A.locs ++ L ∧ (∀ z ∈ L, free z.base) ∧ B.cells = A.cells + mc ∧ B.slots = A.slots + ms
def vx_Back (l : Launch) (R : Room) (p : Program) (e : Env) (below : List Frame) (s : State) (sargs : Array Value) (y : MethodName) (len W9 : Nat)
    (Pre : Pt → Array Value → Prop) (Post : Pt → Array Value → Option Value → Pt → Prop) (PostX : Pt → Array Value → Addr → Pt → Prop) : Prop :=
  ∀ (m : MethodId) (meth : Method) (c : Code) (A : Pt) (g : JFrame) (ig : Instr) (mk : MethodId) (a : Array Value),
    Stand p l e R s m sargs below meth c A.U A.locs A.cells A.slots → g.method = m → g.locals.size = c.maxLocals → decode c.code g.pc = .ok (ig, len) →
    2 * g.monitorRoom + (g.stack.map fun v => v.category).sum ≤ W9 → A.U.methodNamed? y = some mk → Pre A a →
    (∃ (v : Option Value) (B : Pt), Stand p l e R s m sargs below meth c B.U B.locs B.cells B.slots ∧ Post A a v B ∧
      Steps p.tables e below (doInvoke e (A.U.setTop g) [] mk a).1 (B.U.setTop { g with pc := g.pc + len, stack := v.toList ++ g.stack })) ∨
    (∃ (q : Addr) (B : Pt), Stand p l e R s m sargs below meth c B.U B.locs B.cells B.slots ∧ PostX A a q B ∧
      Steps p.tables e below (doInvoke e (A.U.setTop g) [] mk a).1 ((B.U.setTop g).pushFrame (.throwing q)))
section Payer
variable {l : Launch} {R : Room} {p : Program} {e : Env} {below : List Frame} {s : State} {sargs : Array Value} {y : MethodName} {len W9 : Nat}
theorem vx_back {ws : List Cond} {rm : Room} {Pc : Array Value → State → Prop} {Qc : Array Value → State → Outcome → State → Prop} {XC : String → State → State → Prop} {mc ms : Nat} {free : Addr → Prop} {bytes : ByteArray} {maxL : Nat} {ret : Option FieldType}
    (hM : vx_Met l y ws rm Pc Qc XC mc ms free) (hblind : FrameBlind Pc) (hrc : rm.cells = mc) (hrs : rm.slots = ms)
    (hframes : rm.frames + 1 ≤ R.frames) (hlocals : W9 + (maxL + 11) + rm.locals ≤ R.locals)
    (hws : ∀ w ∈ ws, ∀ a' U, s.WarmedH U.vm → w.before a' U = true) (hcode : Cond.code y bytes maxL ret ∈ ws) (hinit : ∀ a' U, s.WarmedH U.vm → (Cond.initialized y.cls).before a' U = true) :
    vx_Back l R p e below s sargs y len W9 (PreOf R mc ms Pc) (PostOf Qc mc ms free) (vx_Post XC mc ms free) := by
  intro m meth c A g ig mk a X hg hsize hdg hW hn hp
  have h1 : (headSpec ws rm).pre.before a A.U = true := atoms_intro fun w hw => hws w hw _ _ X.warmed
  have h2 : (Cond.code y bytes maxL ret).before a A.U = true := hws _ hcode _ _ X.warmed
  have h3 : (Cond.initialized y.cls).before a A.U = true := hinit _ _ X.warmed
  have h4 : A.cells + (headSpec ws rm).room.cells ≤ R.cells := by rw [show (headSpec ws rm).room.cells = mc from hrc]; exact hp.1
  have h5 : A.slots + (headSpec ws rm).room.slots ≤ R.slots := by rw [show (headSpec ws rm).room.slots = ms from hrs]; exact hp.2.1
  have hPc : Pc a (A.U.calling g mk a) := hblind _ _ _ _ hp.2.2
  obtain ⟨U, Ls, c0, s0⟩ := A
  dsimp only [Pt.U, Pt.locs, Pt.cells, Pt.slots] at h1 h2 h3 h4 h5 X hn hPc ⊢
  obtain ⟨methY, cY, hmY, hcY, -, hlY, -, -, -, -⟩ := Cond.code_spec hn h2
  obtain ⟨kY, hkY, -⟩ := className_of_methodNamed hn
  have hinitY : kY.init = .initialized := Cond.initialized_spec (findClass_of_methodNamed hn) hkY h3
  have h : At U g.method c below := by rw [hg]; exact X.here
  have hlocals9 : W9 + (maxL + 11) + (headSpec ws rm).room.locals ≤ R.locals := hlocals
  have happ : (headSpec ws rm).appliesLoose y e.platform (U.calling g mk a) = true :=
    Spec.appliesLoose_calling (g := g) h hdg hn hkY hinitY
      (X.room_calling (g := g) (R' := (headSpec ws rm).room) hsize hmY hcY hframes (by rw [hlY]; omega) h4 h5) h1
  obtain ⟨mid, hmid⟩ := h.above
  have hfr : (U.setTop g).frames = (.java g :: mid) ++ below := by rw [State.frames_setTop' g h.top, hmid]; rfl
  obtain ⟨o, s₂, hsteps, -, hend, hq⟩ := Steps.callFree hM p X.admits X.cas X.clock (acts := []) hfr happ hPc trivial
  have hq' : vx_Q Qc XC mc ms free a (U.calling g mk a) o s₂ := hq
  rw [State.frames_setTop' g h.top] at hend
  obtain ⟨g₀, hg0⟩ := Option.isSome_iff_exists.mp h.top
  obtain ⟨r, hr⟩ := State.topJava?_eq_some.mp hg0
  have hr' : (({ U with heap := s₂.heap, slotsUsed := s₂.slotsUsed } : State).setVm s₂.vm).frames = .java g₀ :: r := hr
  rcases hq' with ⟨hqc, L, hfe, hL⟩ | ⟨q, rfl, E, ce, L, hx, hce, hcv, hcl, hW₂, hsm, hL⟩
  · obtain ⟨⟨v, rfl⟩, hW₂, e2, q2, q3, q4, q5, q6⟩ := id hfe
    have e3 : s₂ = ({ (U.calling g mk a).setFrames s₂.frames with heap := s₂.heap, slotsUsed := s₂.slotsUsed } : State).setVm s₂.vm := by
      have : s₂ = ({ s₂ with vm := (U.calling g mk a).vm } : State).setVm s₂.vm := rfl
      rw [e2] at this
      exact this
    obtain ⟨c₂, i₂, len₂, hc₂, hd₂, hf₂⟩ := hend
    have hW' : U.WarmedH s₂.vm := hW₂
    have hcc : c₂ = c := by
      have h1 : s₂.code? g.method = U.code? g.method := by
        rw [State.code?_eq, State.code?_eq, hW'.alike.method?]
      exact Option.some.inj (hc₂.symm.trans (h1.trans h.code))
    subst hcc
    have hlen : len₂ = len := by rw [hdg] at hd₂; cases hd₂; rfl
    subst hlen
    have hs₂ : s₂ = (({ U with heap := s₂.heap, slotsUsed := s₂.slotsUsed } : State).setVm s₂.vm).setTop { g with pc := g.pc + len₂, stack := v.toList ++ g.stack } := by
      refine e3.trans ?_
      rw [hf₂, State.calling_eq h.top, State.setFrames_setFrames, State.setTop_of_frames _ hr', hr]
      rfl
    have hsame : U.sameButNew ({ U with heap := s₂.heap, slotsUsed := s₂.slotsUsed } : State) L mc ms := by
      refine ⟨?_, q2, q3, q4, q5, q6⟩
      obtain ⟨t, ht, -⟩ := State.frames_cons hr
      show ({ U with heap := s₂.heap, slotsUsed := s₂.slotsUsed } : State) = { U.setFrames U.frames with heap := s₂.heap, slotsUsed := s₂.slotsUsed }
      rw [State.setFrames_self ht]
    subst hg
    refine Or.inl ⟨v, ⟨(({ U with heap := s₂.heap, slotsUsed := s₂.slotsUsed } : State).setVm s₂.vm), Ls ++ L, c0 + mc, s0 + ms⟩,
      ⟨X.admits, X.cas, X.clock, X.frames, X.room, X.hears, X.method, X.code, (X.here.setHeapUsed s₂.heap s₂.slotsUsed).setVm hW'.alike, X.tail, State.WarmedH.trans X.warmed hW', X.limits, X.bytes, X.same.trans (hsame.setVm s.vm)⟩,
      ⟨g, mk, s₂, L, rfl, rfl, hqc, rfl, hL, rfl, rfl⟩, ?_⟩
    show Steps p.tables e below _ ((({ U with heap := s₂.heap, slotsUsed := s₂.slotsUsed } : State).setVm s₂.vm).setTop { g with pc := g.pc + len₂, stack := v.toList ++ g.stack })
    rw [← hs₂]
    exact hsteps
  · obtain ⟨e2, q2, q3, q4, q5, q6⟩ := id hsm
    have e3 : s₂ = ({ (U.calling g mk a).setFrames s₂.frames with heap := s₂.heap, slotsUsed := s₂.slotsUsed } : State).setVm s₂.vm := by
      have : s₂ = ({ s₂ with vm := (U.calling g mk a).vm } : State).setVm s₂.vm := rfl
      rw [e2] at this
      exact this
    have hf₂ : s₂.frames = .throwing q :: .java g :: U.frames.tail := hend
    have hW' : U.WarmedH s₂.vm := hW₂
    have hs₂ : s₂ = ((({ U with heap := s₂.heap, slotsUsed := s₂.slotsUsed } : State).setVm s₂.vm).setTop g).pushFrame (.throwing q) := by
      refine e3.trans ?_
      rw [hf₂, State.calling_eq h.top, State.setFrames_setFrames, State.pushFrame, State.frames_setTop _ hr', State.setTop_of_frames _ hr', State.setFrames_setFrames, hr]
      rfl
    have hsame : U.sameButNew ({ U with heap := s₂.heap, slotsUsed := s₂.slotsUsed } : State) L mc ms := by
      refine ⟨?_, q2, q3, q4, q5, q6⟩
      obtain ⟨t, ht, -⟩ := State.frames_cons hr
      show ({ U with heap := s₂.heap, slotsUsed := s₂.slotsUsed } : State) = { U.setFrames U.frames with heap := s₂.heap, slotsUsed := s₂.slotsUsed }
      rw [State.setFrames_self ht]
    subst hg
    refine Or.inr ⟨q, ⟨(({ U with heap := s₂.heap, slotsUsed := s₂.slotsUsed } : State).setVm s₂.vm), Ls ++ L, c0 + mc, s0 + ms⟩,
      ⟨X.admits, X.cas, X.clock, X.frames, X.room, X.hears, X.method, X.code, (X.here.setHeapUsed s₂.heap s₂.slotsUsed).setVm hW'.alike, X.tail, State.WarmedH.trans X.warmed hW', X.limits, X.bytes, X.same.trans (hsame.setVm s.vm)⟩,
      ⟨g, mk, s₂, L, E, ce, rfl, rfl, hx, hce, hcv, hcl, rfl, hL, rfl, rfl⟩, ?_⟩
    show Steps p.tables e below _ (((({ U with heap := s₂.heap, slotsUsed := s₂.slotsUsed } : State).setVm s₂.vm).setTop g).pushFrame (.throwing q))
    rw [← hs₂]
    exact hsteps
end Payer
section Calls
variable {p : Program} {l : Launch} {e : Env} {R : Room} {s : State} {m : MethodId} {args : Array Value} {below : List Frame} {meth : Method} {c : Code} {T : State} {locs : List Loc} {cells slots : Nat}
theorem vx_callV (X : Stand p l e R s m args below meth c T locs cells slots) (hexec : p.tables.exec = Jvm.exec) {own C : String} {index : Nat} {y : MethodName} {bytes : ByteArray} {maxL : Nat} {ret : Option FieldType}
    (hown : s.vm.findClass own = some m.cls) (hlink : (Cond.methodLink own index y).before args s = true) (hinst : (Cond.instanceMethod y).before args s = true) (hsel : (Cond.selects C y y).before args s = true)
    (hcode : (Cond.code y bytes maxL ret).before args s = true) (hy : y.cls ≠ "java/lang/invoke/MethodHandle" ∧ y.cls ≠ "java/lang/invoke/VarHandle")
    {W9 : Nat} {Pre : Pt → Array Value → Prop} {Post : Pt → Array Value → Option Value → Pt → Prop} {PostX : Pt → Array Value → Addr → Pt → Prop} (hK : vx_Back l R p e below s args y 3 W9 Pre Post PostX)
    {b : Addr} {cellB : Cell} (hcell : T.heap[b]? = some cellB) (hobj : cellB.vm.isStatics = false) (hcls : s.vm.findClass C = some cellB.cls)
    {g : JFrame} (hg : g.method = m) (hsize : g.locals.size = c.maxLocals) {argsL rest : List Value} (hlen : ∀ sig, parseMethodDescriptor y.desc = some sig → argsL.length = sig.parameters.length)
    (hstack : g.stack = argsL.reverse ++ .ref b :: rest) (hW : 2 * g.monitorRoom + (rest.map fun v => v.category).sum ≤ W9) (hdg : decode c.code g.pc = .ok (.invokevirtual index, 3))
    (hpre : ∀ vm₁, s.WarmedH vm₁ → Pre ⟨T.setVm vm₁, locs, cells, slots⟩ (Value.ref b :: argsL).toArray) :
    (∃ (v : Option Value) (vm₁ : Vm) (B : Pt), s.WarmedH vm₁ ∧ Stand p l e R s m args below meth c B.U B.locs B.cells B.slots ∧ Post ⟨T.setVm vm₁, locs, cells, slots⟩ (Value.ref b :: argsL).toArray v B ∧
      ∀ target, Steps p.tables e below (B.U.setTop { g with pc := g.pc + 3, stack := v.toList ++ rest }) target → Steps p.tables e below (T.setTop g) target) ∨
    (∃ (q : Addr) (vm₁ : Vm) (B : Pt), s.WarmedH vm₁ ∧ Stand p l e R s m args below meth c B.U B.locs B.cells B.slots ∧ PostX ⟨T.setVm vm₁, locs, cells, slots⟩ (Value.ref b :: argsL).toArray q B ∧
      Steps p.tables e below (T.setTop g) ((B.U.setTop { g with stack := rest }).pushFrame (.throwing q))) := by
  obtain ⟨mk, methM, hnamed, hmethM, hstM, habM⟩ := Cond.instanceMethod_spec hinst
  obtain ⟨methM', cM, hmethM', -, -, -, -, -, -, hsigM⟩ := Cond.code_spec hnamed hcode
  cases hmethM.symm.trans hmethM'
  obtain ⟨c2, r2, m2, q1, q2, q3, q4, kP, hkP, hkPi⟩ := Cond.selects_spec hsel
  cases hcls.symm.trans q1
  cases (State.methodFound?_of_named hnamed hy).symm.trans q2
  cases hnamed.symm.trans q3
  have hselP : selectMethod e.platform s.vm cellB.cls mk = .method mk := by rw [Launch.admits_selectMethod X.admits]; exact q4
  obtain ⟨vm₁, X₁, hstep₁⟩ := X.invokevirtual hexec hown hlink hnamed hmethM hstM hkP hkPi hy (a := b) (cell := cellB) hcell
    (fun z h => by rw [h] at hobj; cases hobj) hselP hmethM habM hkP hkPi (g := g) hg (argsL := argsL) (rest := rest) (hlen _ hsigM) hstack hdg
  rcases hK m meth c ⟨T.setVm vm₁, locs, cells, slots⟩ { g with stack := rest } (.invokevirtual index) mk (Value.ref b :: argsL).toArray X₁ hg hsize hdg hW (X₁.named hnamed) (hpre vm₁ X₁.warmed) with ⟨v, B, X', hpost, hsteps⟩ | ⟨q, B, X', hpost, hsteps⟩
  · exact Or.inl ⟨v, vm₁, B, X₁.warmed, X', hpost, fun target h => hstep₁ _ fun acts => by rw [doInvoke_state]; exact hsteps.trans h⟩
  · exact Or.inr ⟨q, vm₁, B, X₁.warmed, X', hpost, hstep₁ _ fun acts => by rw [doInvoke_state]; exact hsteps⟩
theorem vx_callS (X : Stand p l e R s m args below meth c T locs cells slots) (hexec : p.tables.exec = Jvm.exec) {own : String} {index : Nat} {y : MethodName} {bytes : ByteArray} {maxL : Nat} {ret : Option FieldType}
    (hown : s.vm.findClass own = some m.cls) (hlink : (Cond.methodLink own index y).before args s = true) (hstat : (Cond.static y).before args s = true) (hinit : (Cond.initialized y.cls).before args s = true)
    (hcode : (Cond.code y bytes maxL ret).before args s = true) (hy : y.cls ≠ "java/lang/invoke/MethodHandle" ∧ y.cls ≠ "java/lang/invoke/VarHandle")
    {W9 : Nat} {Pre : Pt → Array Value → Prop} {Post : Pt → Array Value → Option Value → Pt → Prop} {PostX : Pt → Array Value → Addr → Pt → Prop} (hK : vx_Back l R p e below s args y 3 W9 Pre Post PostX)
    {g : JFrame} (hg : g.method = m) (hsize : g.locals.size = c.maxLocals) {argsL rest : List Value} (hlen : ∀ sig, parseMethodDescriptor y.desc = some sig → argsL.length = sig.parameters.length)
    (hstack : g.stack = argsL.reverse ++ rest) (hW : 2 * g.monitorRoom + (rest.map fun v => v.category).sum ≤ W9) (hdg : decode c.code g.pc = .ok (.invokestatic index, 3))
    (hpre : ∀ vm₁, s.WarmedH vm₁ → Pre ⟨T.setVm vm₁, locs, cells, slots⟩ argsL.toArray) :
    (∃ (v : Option Value) (vm₁ : Vm) (B : Pt), s.WarmedH vm₁ ∧ Stand p l e R s m args below meth c B.U B.locs B.cells B.slots ∧ Post ⟨T.setVm vm₁, locs, cells, slots⟩ argsL.toArray v B ∧
      ∀ target, Steps p.tables e below (B.U.setTop { g with pc := g.pc + 3, stack := v.toList ++ rest }) target → Steps p.tables e below (T.setTop g) target) ∨
    (∃ (q : Addr) (vm₁ : Vm) (B : Pt), s.WarmedH vm₁ ∧ Stand p l e R s m args below meth c B.U B.locs B.cells B.slots ∧ PostX ⟨T.setVm vm₁, locs, cells, slots⟩ argsL.toArray q B ∧
      Steps p.tables e below (T.setTop g) ((B.U.setTop { g with stack := rest }).pushFrame (.throwing q))) := by
  obtain ⟨mk, hnamed⟩ := Cond.code_named hcode
  obtain ⟨methM, cM, hmethM, -, -, -, -, -, -, hsigM⟩ := Cond.code_spec hnamed hcode
  have hstatic : methM.isStatic = true := Cond.static_spec hnamed hmethM hstat
  obtain ⟨kP, hkP, -⟩ := className_of_methodNamed hnamed
  have hinitP : kP.init = .initialized := Cond.initialized_spec (findClass_of_methodNamed hnamed) hkP hinit
  obtain ⟨vm₁, X₁, hstep₁⟩ := X.invokestatic hexec hown hlink hnamed hmethM hstatic hkP hinitP hy (g := g) hg (argsL := argsL) (rest := rest) (hlen _ hsigM) hstack hdg
  rcases hK m meth c ⟨T.setVm vm₁, locs, cells, slots⟩ { g with stack := rest } (.invokestatic index) mk argsL.toArray X₁ hg hsize hdg hW (X₁.named hnamed) (hpre vm₁ X₁.warmed) with ⟨v, B, X', hpost, hsteps⟩ | ⟨q, B, X', hpost, hsteps⟩
  · exact Or.inl ⟨v, vm₁, B, X₁.warmed, X', hpost, fun target h => hstep₁ _ fun acts => by rw [doInvoke_state]; exact hsteps.trans h⟩
  · exact Or.inr ⟨q, vm₁, B, X₁.warmed, X', hpost, hstep₁ _ fun acts => by rw [doInvoke_state]; exact hsteps⟩
end Calls
theorem vx_cls {s : State} {T : State} {vm₁ : Vm} {E : String} {k : ClassId} (hW : s.WarmedH vm₁) (h : (T.setVm vm₁).vm.findClass E = some k) : s.vm.findClass E = some k := by
  have h1 : vm₁.findClass E = some k := h
  rw [hW.alike.findClass] at h1
  exact h1
/-- the method's frame g, with q thrown over it -/
def vx_W (p : Program) (l : Launch) (e : Env) (R : Room) (s : State) (m : MethodId) (args : Array Value) (below : List Frame) (meth : Method) (c : Code) (H : Heap) (locs : List Loc) (cells slots : Nat) (Q : State → Prop) (g : JFrame) (q : Addr) : Prop :=
  ∀ T : State, T.heap = H → Stand p l e R s m args below meth c T locs cells slots → ∃ t, Steps p.tables e below ((T.setTop g).pushFrame (.throwing q)) t ∧ Q t
def vx_Run (p : Program) (l : Launch) (e : Env) (R : Room) (s : State) (m : MethodId) (args : Array Value) (below : List Frame) (meth : Method) (c : Code) (H : Heap) (locs : List Loc) (cells slots mc ms : Nat) (g : JFrame) (rest : List Value) (Qa : State → Outcome → State → Prop) (XC : String → State → State → Prop) (free : Addr → Prop) : Prop :=
  ∀ T : State, T.heap = H → Stand p l e R s m args below meth c T locs cells slots →
    (∃ (v : Option Value) (st₀ t T' : State) (L : List Loc), st₀.heap = H ∧ Stand p l e R s m args below meth c T' (locs ++ L) (cells + mc) (slots + ms) ∧ (∀ q ∈ L, free q.base) ∧ T'.heap = t.heap ∧ T'.vm = t.vm ∧ Qa st₀ (.returned v) t ∧
      Goes p e below T g T' { g with pc := g.pc + 3, stack := v.toList ++ rest }) ∨
    (∃ (q : Addr) (st₀ t T' : State) (L : List Loc) (E : String) (ce : Cell), st₀.heap = H ∧ Stand p l e R s m args below meth c T' (locs ++ L) (cells + mc) (slots + ms) ∧ (∀ z ∈ L, free z.base) ∧ T'.heap = t.heap ∧ T'.vm = t.vm ∧ XC E st₀ t ∧ t.heap[q]? = some ce ∧ ce.vm = .none ∧ s.vm.findClass E = some ce.cls ∧
      Steps p.tables e below (T.setTop g) ((T'.setTop { g with stack := rest }).pushFrame (.throwing q)))
def vx_X {S : Type} (px : S → Prop) (B : String → S → State → Prop) (A : Nat → Prop) : String → State → State → Prop := fun E st t => ∃ u : S, px u ∧ B E u t ∧ va_F A st t
section Runs
variable {p : Program} {l : Launch} {e : Env} {R : Room} {s : State} {m : MethodId} {args : Array Value} {below : List Frame} {meth : Method} {c : Code} {H : Heap} {locs : List Loc} {cells slots : Nat}
variable {y : MethodName} {bytes cc : ByteArray} {maxL nL mc ms n index : Nat} {ret : Option FieldType} {ws : List Cond} {rm : Room} {Pc : Array Value → State → Prop} {Qc : Array Value → State → Outcome → State → Prop} {XC : String → State → State → Prop} {free : Addr → Prop} {Ts : List Cond} {own C : String} {b : Addr} {As rest : List Value} {g : JFrame}
theorem vx_callBack (cb : CallB R s args own index y bytes maxL ret ws rm mc ms n) (hM : vx_Met l y ws rm Pc Qc XC mc ms free) (hbl : FrameBlind Pc) : vx_Back l R p e below s args y 3 8 (PreOf R mc ms Pc) (PostOf Qc mc ms free) (vx_Post XC mc ms free) := by
  obtain ⟨hrc, hrs, hfr, hlo, hws, hcw, -, hini, -⟩ := cb
  exact vx_back (bytes := bytes) (maxL := maxL) (ret := ret) hM hbl hrc hrs hfr hlo hws hcw (fun a' U hW => word_at hW (Or.inl (by first | rfl | simp [Cond.onTables, Cond.keeps, Cond.steady])) hini)
theorem vx_runV (S : CallFix p m c cc nL s args Ts own) (hM : vx_Met l y ws rm Pc Qc XC mc ms free) (cw : CallW R s args own C index y bytes maxL ret ws rm mc ms n) (hp : PreV s H C b Pc As)
    (hg : g.method = m) (hn : As.length = n) (hsize : g.locals.size = nL) (hstack : g.stack = As.reverse ++ .ref b :: rest) (hW : 2 * g.monitorRoom + (rest.map fun v => v.category).sum ≤ 8) (hdg : decode cc g.pc = .ok (.invokevirtual index, 3)) (hf : cells + mc ≤ R.cells ∧ slots + ms ≤ R.slots) :
    vx_Run p l e R s m args below meth c H locs cells slots mc ms g rest (Qc (Value.ref b :: As).toArray) XC free := by
  have hK : vx_Back l R p e below s args y 3 8 (PreOf R mc ms Pc) (PostOf Qc mc ms free) (vx_Post XC mc ms free) := vx_callBack cw.1 hM hp.1
  obtain ⟨⟨-, -, -, -, -, -, hcode, -, hy, hlen, hl⟩, hin, hse⟩ := cw
  obtain ⟨hx, hb, hml, ho, -⟩ := S
  obtain ⟨-, ⟨cellB, hcB, hoB, hclB⟩, hPc⟩ := hp
  intro T hT X
  rcases vx_callV X hx (C := C) (bytes := bytes) (maxL := maxL) (ret := ret) ho hl hin hse hcode hy hK (by rw [hT]; exact hcB) hoB hclB hg (hsize.trans hml.symm) (argsL := As) (rest := rest) (fun sig h => hn.trans (hlen sig h)) hstack hW (by rw [hb]; exact hdg)
    (fun vm₁ hW₁ => ⟨hf.1, hf.2, hPc (T.setVm vm₁) hT hW₁⟩) with ⟨v, vm₁, ⟨U', l2, c2, s2⟩, hW₁, X', ⟨g', mk, t, L, e1, e2, hq, h1, hL, h2, h3⟩, st⟩ | ⟨q, vm₁, ⟨U', l2, c2, s2⟩, hW₁, X', ⟨g', mk, t, L, E, ce, e1, e2, hq, hce, hcv, hcl, h1, hL, h2, h3⟩, st⟩
  · dsimp only [Pt.U, Pt.locs, Pt.cells, Pt.slots] at X' e1 e2 h1 h2 h3 st
    subst h1; subst h2; subst h3
    exact Or.inl ⟨v, (T.setVm vm₁).calling g' mk (Value.ref b :: As).toArray, t, U', L, hT, X', hL, e1, e2, hq, st⟩
  · dsimp only [Pt.U, Pt.locs, Pt.cells, Pt.slots] at X' e1 e2 h1 h2 h3 st hcl
    subst h1; subst h2; subst h3
    exact Or.inr ⟨q, (T.setVm vm₁).calling g' mk (Value.ref b :: As).toArray, t, U', L, E, ce, hT, X', hL, e1, e2, hq, hce, hcv, vx_cls hW₁ hcl, st⟩
theorem vx_runS (S : CallFix p m c cc nL s args Ts own) (hM : vx_Met l y ws rm Pc Qc XC mc ms free) (cw : CallB R s args own index y bytes maxL ret ws rm mc ms n ∧ (Cond.static y).before args s = true) (hp : PreS s H Pc As)
    (hg : g.method = m) (hn : As.length = n) (hsize : g.locals.size = nL) (hstack : g.stack = As.reverse ++ rest) (hW : 2 * g.monitorRoom + (rest.map fun v => v.category).sum ≤ 8) (hdg : decode cc g.pc = .ok (.invokestatic index, 3)) (hf : cells + mc ≤ R.cells ∧ slots + ms ≤ R.slots) :
    vx_Run p l e R s m args below meth c H locs cells slots mc ms g rest (Qc As.toArray) XC free := by
  have hK : vx_Back l R p e below s args y 3 8 (PreOf R mc ms Pc) (PostOf Qc mc ms free) (vx_Post XC mc ms free) := vx_callBack cw.1 hM hp.1
  obtain ⟨⟨-, -, -, -, -, -, hcode, hini, hy, hlen, hl⟩, hstt⟩ := cw
  obtain ⟨hx, hb, hml, ho, -⟩ := S
  intro T hT X
  rcases vx_callS X hx (bytes := bytes) (maxL := maxL) (ret := ret) ho hl hstt hini hcode hy hK hg (hsize.trans hml.symm) (argsL := As) (rest := rest) (fun sig h => hn.trans (hlen sig h)) hstack hW (by rw [hb]; exact hdg)
    (fun vm₁ hW₁ => ⟨hf.1, hf.2, hp.2 (T.setVm vm₁) hT hW₁⟩) with ⟨v, vm₁, ⟨U', l2, c2, s2⟩, hW₁, X', ⟨g', mk, t, L, e1, e2, hq, h1, hL, h2, h3⟩, st⟩ | ⟨q, vm₁, ⟨U', l2, c2, s2⟩, hW₁, X', ⟨g', mk, t, L, E, ce, e1, e2, hq, hce, hcv, hcl, h1, hL, h2, h3⟩, st⟩
  · dsimp only [Pt.U, Pt.locs, Pt.cells, Pt.slots] at X' e1 e2 h1 h2 h3 st
    subst h1; subst h2; subst h3
    exact Or.inl ⟨v, (T.setVm vm₁).calling g' mk As.toArray, t, U', L, hT, X', hL, e1, e2, hq, st⟩
  · dsimp only [Pt.U, Pt.locs, Pt.cells, Pt.slots] at X' e1 e2 h1 h2 h3 st hcl
    subst h1; subst h2; subst h3
    exact Or.inr ⟨q, (T.setVm vm₁).calling g' mk As.toArray, t, U', L, E, ce, hT, X', hL, e1, e2, hq, hce, hcv, vx_cls hW₁ hcl, st⟩
end Runs
section Rows
variable {p : Program} {l : Launch} {e : Env} {R : Room} {s : State} {m : MethodId} {args : Array Value} {below : List Frame} {meth : Method} {c : Code} {H : Heap} {locs : List Loc} {cells slots : Nat} {Q : State → Prop}
variable {mc ms : Nat} {free : Addr → Prop} {A0 A1 : Nat → Prop} {H0 : Heap} {a : Array Value} {pc : Nat} {ls : Array Slot} {st0 rest : List Value}
theorem vx_keep {st₀ t T' : State} {L : List Loc} (h0 : st₀.heap = H) (e1 : T'.heap = t.heap) (hS : va_S A0 H0 H locs) (hA : ∀ q, q < H.size → A1 q → A0 q) (hf : ∀ q, free q → A0 q) (hL : ∀ q ∈ L, free q.base) (hF : va_F A1 st₀ t) :
    H.size ≤ T'.heap.size ∧ (∀ q : Nat, q < H.size → ¬ A1 q → T'.heap[q]? = H[q]?) ∧ va_S A0 H0 T'.heap (locs ++ L) := by
  obtain ⟨hz, hk⟩ := hF
  rw [h0] at hz hk
  exact ⟨by rw [e1]; exact hz, fun q h1 h2 => by rw [e1]; exact hk q h1 h2,
    ⟨Nat.le_trans hS.1 (by rw [e1]; exact hz), fun q h1 h2 => by rw [e1, hk q (Nat.lt_of_lt_of_le h1 hS.1) (fun z => h2 (hA q (Nat.lt_of_lt_of_le h1 hS.1) z))]; exact hS.2.1 q h1 h2, fun q hq => by
      rcases List.mem_append.mp hq with h | h
      · exact hS.2.2 q h
      · exact hf _ (hL q h)⟩⟩
theorem vx_calli {S SX : Type} {post : Int32 → S → Prop} {px : SX → Prop} {B : S → State → Prop} {BX : String → SX → State → Prop} {AX : Nat → Prop} (hr : vx_Run p l e R s m args below meth c H locs cells slots mc ms (F0 m pc ls st0) rest (va_Qi post B A1 a) (vx_X px BX AX) free) (hS : va_S A0 H0 H locs) (hA : ∀ q, q < H.size → A1 q → A0 q) (hf : ∀ q, free q → A0 q) (hAX : ∀ q, q < H.size → AX q → A0 q)
    (kx : ∀ (E : String) (ce : Cell) (q9 : Addr) (u : SX) (t : State) (H1 : Heap) (locs1 : List Loc), t.heap = H1 → s.vm.Alike t.vm → px u → BX E u t → H.size ≤ H1.size → (∀ q : Nat, q < H.size → ¬ AX q → H1[q]? = H[q]?) → va_S A0 H0 H1 locs1 → H1[q9]? = some ce → ce.vm = .none → s.vm.findClass E = some ce.cls → vx_W p l e R s m args below meth c H1 locs1 (cells + mc) (slots + ms) Q (F0 m pc ls rest) q9)
    (kk : ∀ (r : Int32) (u : S) (t : State) (H1 : Heap) (locs1 : List Loc), t.heap = H1 → s.vm.Alike t.vm → post r u → B u t → H.size ≤ H1.size → (∀ q : Nat, q < H.size → ¬ A1 q → H1[q]? = H[q]?) → va_S A0 H0 H1 locs1 → W p l e R s m args below meth c H1 locs1 (cells + mc) (slots + ms) Q (F0 m (pc + 3) ls (.int r :: rest))) : W p l e R s m args below meth c H locs cells slots Q (F0 m pc ls st0) := by
  intro T hT X
  rcases hr T hT X with ⟨v, st₀, t, T', L, h0, X', hL, e1, e2, ⟨⟨r, u, hv, hp, hb⟩, hF⟩, st⟩ | ⟨q, st₀, t, T', L, E, ce, h0, X', hL, e1, e2, ⟨u, hp, hb, hF⟩, hce, hcv, hcl, st⟩
  · cases hv
    obtain ⟨k1, k2, k3⟩ := vx_keep h0 e1 hS hA hf hL hF
    obtain ⟨t2, a1, b1⟩ := kk r u t T'.heap (locs ++ L) e1.symm (by rw [← e2]; exact X'.warmed.alike) hp hb k1 k2 k3 T' rfl X'
    exact ⟨t2, st t2 a1, b1⟩
  · obtain ⟨k1, k2, k3⟩ := vx_keep h0 e1 hS hAX hf hL hF
    obtain ⟨t2, a1, b1⟩ := kx E ce q u t T'.heap (locs ++ L) e1.symm (by rw [← e2]; exact X'.warmed.alike) hp hb k1 k2 k3 (by rw [e1]; exact hce) hcv hcl T' rfl X'
    exact ⟨t2, st.trans a1, b1⟩
theorem vx_calll {S SX : Type} {post : Int64 → S → Prop} {px : SX → Prop} {B : S → State → Prop} {BX : String → SX → State → Prop} {AX : Nat → Prop} (hr : vx_Run p l e R s m args below meth c H locs cells slots mc ms (F0 m pc ls st0) rest (va_Ql post B A1 a) (vx_X px BX AX) free) (hS : va_S A0 H0 H locs) (hA : ∀ q, q < H.size → A1 q → A0 q) (hf : ∀ q, free q → A0 q) (hAX : ∀ q, q < H.size → AX q → A0 q)
    (kx : ∀ (E : String) (ce : Cell) (q9 : Addr) (u : SX) (t : State) (H1 : Heap) (locs1 : List Loc), t.heap = H1 → s.vm.Alike t.vm → px u → BX E u t → H.size ≤ H1.size → (∀ q : Nat, q < H.size → ¬ AX q → H1[q]? = H[q]?) → va_S A0 H0 H1 locs1 → H1[q9]? = some ce → ce.vm = .none → s.vm.findClass E = some ce.cls → vx_W p l e R s m args below meth c H1 locs1 (cells + mc) (slots + ms) Q (F0 m pc ls rest) q9)
    (kk : ∀ (r : Int64) (u : S) (t : State) (H1 : Heap) (locs1 : List Loc), t.heap = H1 → s.vm.Alike t.vm → post r u → B u t → H.size ≤ H1.size → (∀ q : Nat, q < H.size → ¬ A1 q → H1[q]? = H[q]?) → va_S A0 H0 H1 locs1 → W p l e R s m args below meth c H1 locs1 (cells + mc) (slots + ms) Q (F0 m (pc + 3) ls (.long r :: rest))) : W p l e R s m args below meth c H locs cells slots Q (F0 m pc ls st0) := by
  intro T hT X
  rcases hr T hT X with ⟨v, st₀, t, T', L, h0, X', hL, e1, e2, ⟨⟨r, u, hv, hp, hb⟩, hF⟩, st⟩ | ⟨q, st₀, t, T', L, E, ce, h0, X', hL, e1, e2, ⟨u, hp, hb, hF⟩, hce, hcv, hcl, st⟩
  · cases hv
    obtain ⟨k1, k2, k3⟩ := vx_keep h0 e1 hS hA hf hL hF
    obtain ⟨t2, a1, b1⟩ := kk r u t T'.heap (locs ++ L) e1.symm (by rw [← e2]; exact X'.warmed.alike) hp hb k1 k2 k3 T' rfl X'
    exact ⟨t2, st t2 a1, b1⟩
  · obtain ⟨k1, k2, k3⟩ := vx_keep h0 e1 hS hAX hf hL hF
    obtain ⟨t2, a1, b1⟩ := kx E ce q u t T'.heap (locs ++ L) e1.symm (by rw [← e2]; exact X'.warmed.alike) hp hb k1 k2 k3 (by rw [e1]; exact hce) hcv hcl T' rfl X'
    exact ⟨t2, st.trans a1, b1⟩
theorem vx_callf {S SX : Type} {post : UInt32 → S → Prop} {px : SX → Prop} {B : S → State → Prop} {BX : String → SX → State → Prop} {AX : Nat → Prop} (hr : vx_Run p l e R s m args below meth c H locs cells slots mc ms (F0 m pc ls st0) rest (va_Qf post B A1 a) (vx_X px BX AX) free) (hS : va_S A0 H0 H locs) (hA : ∀ q, q < H.size → A1 q → A0 q) (hf : ∀ q, free q → A0 q) (hAX : ∀ q, q < H.size → AX q → A0 q)
    (kx : ∀ (E : String) (ce : Cell) (q9 : Addr) (u : SX) (t : State) (H1 : Heap) (locs1 : List Loc), t.heap = H1 → s.vm.Alike t.vm → px u → BX E u t → H.size ≤ H1.size → (∀ q : Nat, q < H.size → ¬ AX q → H1[q]? = H[q]?) → va_S A0 H0 H1 locs1 → H1[q9]? = some ce → ce.vm = .none → s.vm.findClass E = some ce.cls → vx_W p l e R s m args below meth c H1 locs1 (cells + mc) (slots + ms) Q (F0 m pc ls rest) q9)
    (kk : ∀ (r : UInt32) (u : S) (t : State) (H1 : Heap) (locs1 : List Loc), t.heap = H1 → s.vm.Alike t.vm → post r u → B u t → H.size ≤ H1.size → (∀ q : Nat, q < H.size → ¬ A1 q → H1[q]? = H[q]?) → va_S A0 H0 H1 locs1 → W p l e R s m args below meth c H1 locs1 (cells + mc) (slots + ms) Q (F0 m (pc + 3) ls (.float r :: rest))) : W p l e R s m args below meth c H locs cells slots Q (F0 m pc ls st0) := by
  intro T hT X
  rcases hr T hT X with ⟨v, st₀, t, T', L, h0, X', hL, e1, e2, ⟨⟨r, u, hv, hp, hb⟩, hF⟩, st⟩ | ⟨q, st₀, t, T', L, E, ce, h0, X', hL, e1, e2, ⟨u, hp, hb, hF⟩, hce, hcv, hcl, st⟩
  · cases hv
    obtain ⟨k1, k2, k3⟩ := vx_keep h0 e1 hS hA hf hL hF
    obtain ⟨t2, a1, b1⟩ := kk r u t T'.heap (locs ++ L) e1.symm (by rw [← e2]; exact X'.warmed.alike) hp hb k1 k2 k3 T' rfl X'
    exact ⟨t2, st t2 a1, b1⟩
  · obtain ⟨k1, k2, k3⟩ := vx_keep h0 e1 hS hAX hf hL hF
    obtain ⟨t2, a1, b1⟩ := kx E ce q u t T'.heap (locs ++ L) e1.symm (by rw [← e2]; exact X'.warmed.alike) hp hb k1 k2 k3 (by rw [e1]; exact hce) hcv hcl T' rfl X'
    exact ⟨t2, st.trans a1, b1⟩
theorem vx_calld {S SX : Type} {post : UInt64 → S → Prop} {px : SX → Prop} {B : S → State → Prop} {BX : String → SX → State → Prop} {AX : Nat → Prop} (hr : vx_Run p l e R s m args below meth c H locs cells slots mc ms (F0 m pc ls st0) rest (va_Qd post B A1 a) (vx_X px BX AX) free) (hS : va_S A0 H0 H locs) (hA : ∀ q, q < H.size → A1 q → A0 q) (hf : ∀ q, free q → A0 q) (hAX : ∀ q, q < H.size → AX q → A0 q)
    (kx : ∀ (E : String) (ce : Cell) (q9 : Addr) (u : SX) (t : State) (H1 : Heap) (locs1 : List Loc), t.heap = H1 → s.vm.Alike t.vm → px u → BX E u t → H.size ≤ H1.size → (∀ q : Nat, q < H.size → ¬ AX q → H1[q]? = H[q]?) → va_S A0 H0 H1 locs1 → H1[q9]? = some ce → ce.vm = .none → s.vm.findClass E = some ce.cls → vx_W p l e R s m args below meth c H1 locs1 (cells + mc) (slots + ms) Q (F0 m pc ls rest) q9)
    (kk : ∀ (r : UInt64) (u : S) (t : State) (H1 : Heap) (locs1 : List Loc), t.heap = H1 → s.vm.Alike t.vm → post r u → B u t → H.size ≤ H1.size → (∀ q : Nat, q < H.size → ¬ A1 q → H1[q]? = H[q]?) → va_S A0 H0 H1 locs1 → W p l e R s m args below meth c H1 locs1 (cells + mc) (slots + ms) Q (F0 m (pc + 3) ls (.double r :: rest))) : W p l e R s m args below meth c H locs cells slots Q (F0 m pc ls st0) := by
  intro T hT X
  rcases hr T hT X with ⟨v, st₀, t, T', L, h0, X', hL, e1, e2, ⟨⟨r, u, hv, hp, hb⟩, hF⟩, st⟩ | ⟨q, st₀, t, T', L, E, ce, h0, X', hL, e1, e2, ⟨u, hp, hb, hF⟩, hce, hcv, hcl, st⟩
  · cases hv
    obtain ⟨k1, k2, k3⟩ := vx_keep h0 e1 hS hA hf hL hF
    obtain ⟨t2, a1, b1⟩ := kk r u t T'.heap (locs ++ L) e1.symm (by rw [← e2]; exact X'.warmed.alike) hp hb k1 k2 k3 T' rfl X'
    exact ⟨t2, st t2 a1, b1⟩
  · obtain ⟨k1, k2, k3⟩ := vx_keep h0 e1 hS hAX hf hL hF
    obtain ⟨t2, a1, b1⟩ := kx E ce q u t T'.heap (locs ++ L) e1.symm (by rw [← e2]; exact X'.warmed.alike) hp hb k1 k2 k3 (by rw [e1]; exact hce) hcv hcl T' rfl X'
    exact ⟨t2, st.trans a1, b1⟩
theorem vx_callv {S SX : Type} {post : S → Prop} {px : SX → Prop} {B : S → State → Prop} {BX : String → SX → State → Prop} {AX : Nat → Prop} (hr : vx_Run p l e R s m args below meth c H locs cells slots mc ms (F0 m pc ls st0) rest (va_Qv post B A1 a) (vx_X px BX AX) free) (hS : va_S A0 H0 H locs) (hA : ∀ q, q < H.size → A1 q → A0 q) (hf : ∀ q, free q → A0 q) (hAX : ∀ q, q < H.size → AX q → A0 q)
    (kx : ∀ (E : String) (ce : Cell) (q9 : Addr) (u : SX) (t : State) (H1 : Heap) (locs1 : List Loc), t.heap = H1 → s.vm.Alike t.vm → px u → BX E u t → H.size ≤ H1.size → (∀ q : Nat, q < H.size → ¬ AX q → H1[q]? = H[q]?) → va_S A0 H0 H1 locs1 → H1[q9]? = some ce → ce.vm = .none → s.vm.findClass E = some ce.cls → vx_W p l e R s m args below meth c H1 locs1 (cells + mc) (slots + ms) Q (F0 m pc ls rest) q9)
    (kk : ∀ (u : S) (t : State) (H1 : Heap) (locs1 : List Loc), t.heap = H1 → s.vm.Alike t.vm → post u → B u t → H.size ≤ H1.size → (∀ q : Nat, q < H.size → ¬ A1 q → H1[q]? = H[q]?) → va_S A0 H0 H1 locs1 → W p l e R s m args below meth c H1 locs1 (cells + mc) (slots + ms) Q (F0 m (pc + 3) ls (rest))) : W p l e R s m args below meth c H locs cells slots Q (F0 m pc ls st0) := by
  intro T hT X
  rcases hr T hT X with ⟨v, st₀, t, T', L, h0, X', hL, e1, e2, ⟨⟨u, hv, hp, hb⟩, hF⟩, st⟩ | ⟨q, st₀, t, T', L, E, ce, h0, X', hL, e1, e2, ⟨u, hp, hb, hF⟩, hce, hcv, hcl, st⟩
  · cases hv
    obtain ⟨k1, k2, k3⟩ := vx_keep h0 e1 hS hA hf hL hF
    obtain ⟨t2, a1, b1⟩ := kk u t T'.heap (locs ++ L) e1.symm (by rw [← e2]; exact X'.warmed.alike) hp hb k1 k2 k3 T' rfl X'
    exact ⟨t2, st t2 a1, b1⟩
  · obtain ⟨k1, k2, k3⟩ := vx_keep h0 e1 hS hAX hf hL hF
    obtain ⟨t2, a1, b1⟩ := kx E ce q u t T'.heap (locs ++ L) e1.symm (by rw [← e2]; exact X'.warmed.alike) hp hb k1 k2 k3 (by rw [e1]; exact hce) hcv hcl T' rfl X'
    exact ⟨t2, st.trans a1, b1⟩
/-- caught by the row x of this method's table; the rows ahead don't take it -/
theorem vx_catch {own name : String} {E : String} {ce : Cell} {q : Addr} (hown : s.vm.findClass own = some m.cls) (pre : List ExceptionTableEntry) (x : ExceptionTableEntry) (suf : List ExceptionTableEntry) (hsplit : c.exceptionTable.toList = pre ++ x :: suf)
    (hpass : ∀ z ∈ pre, covers z pc = false ∨ (z.catchType ≠ 0 ∧ ∃ nm : String, (Cond.classLink own z.catchType nm).before args s = true ∧ va_Nc E nm s)) (hx : covers x pc = true) (h0 : x.catchType ≠ 0)
    (hlink : (Cond.classLink own x.catchType name).before args s = true) (hcast : (Cond.castable E name).before args s = true) (hcell : H[q]? = some ce) (hv : ce.vm = .none) (hcl : s.vm.findClass E = some ce.cls)
    (kk : W p l e R s m args below meth c H locs cells slots Q (F0 m x.handlerPc ls [.ref q])) : vx_W p l e R s m args below meth c H locs cells slots Q (F0 m pc ls rest) q := by
  intro T hT X
  have hpl : e.platform.magicAccessors = ({} : Platform).magicAccessors := by rw [X.admits.platform]
  obtain ⟨c3, c4, hc3, hc4, hasg⟩ := Cond.castable_spec hcast
  cases Option.some.inj (hc3.symm.trans hcl)
  obtain ⟨c5, hc5, hcl5⟩ := Cond.classLink_spec hown hlink e.platform hpl
  cases Option.some.inj (hc4.symm.trans hc5)
  obtain ⟨vm', X', st⟩ := cx_then X q (g := F0 m pc ls rest) rfl (by rw [hT]; exact hcell) (by rw [hv]; rfl) (by obtain ⟨k9, h9, -⟩ := Vm.findClass_spec hcl; exact ⟨k9, h9⟩) pre x suf hsplit
    (fun z hz => by
      rcases hpass z hz with h | ⟨hz0, nm, hl1, hn1⟩
      · exact Or.inl h
      · obtain ⟨c6, hc6, hcl6⟩ := Cond.classLink_spec hown hl1 e.platform hpl
        obtain ⟨a8, b8, h1, h2, h3⟩ := hn1
        cases Option.some.inj (h1.symm.trans hcl)
        cases Option.some.inj (h2.symm.trans hc6)
        exact Or.inr ⟨hz0, _, hcl6, h3⟩) hx ⟨h0, c4, hcl5, hasg⟩
  obtain ⟨t, a1, b1⟩ := kk (T.setVm vm') hT X'
  exact ⟨t, st.trans a1, b1⟩
end Rows
section Ends
variable {p : Program} {l : Launch} {e : Env} {R : Room} {s : State} {m : MethodId} {args : Array Value} {below : List Frame} {meth : Method} {c : Code} {H : Heap} {locs : List Loc} {cells slots : Nat} {Q : State → Prop}
variable {mc ms : Nat} {free : Addr → Prop} {A0 A1 : Nat → Prop} {H0 : Heap} {a : Array Value} {ls : Array Slot} {st0 rest : List Value}
variable {Qc : Array Value → State → Outcome → State → Prop} {XC : String → State → State → Prop}
/-- what a body that may throw owes at its end -/
def vx_MQ (below : List Frame) (Qc : Array Value → State → Outcome → State → Prop) (XC : String → State → State → Prop) (a : Array Value) (s : State) (mc ms : Nat) (free : Addr → Prop) : State → Prop := fun t =>
  ∃ o, t.status = .running ∧ Ended t below o ∧ vx_Q Qc XC mc ms free a s o t
theorem vx_ret {g : JFrame} {mc ms : Nat} (k : W p l e R s m args below meth c H locs cells slots (MQ below Qc args s mc ms free) g) : W p l e R s m args below meth c H locs cells slots (vx_MQ below Qc XC args s mc ms free) g := by
  intro T hT X
  obtain ⟨t, a1, o, b1, b2, b3, b4⟩ := k T hT X
  exact ⟨t, a1, o, b1, b2, Or.inl ⟨b3, b4⟩⟩
/-- not caught here: it goes on to the caller -/
theorem vx_widen {g : JFrame} {q : Addr} {k n : Nat} (h1 : cells ≤ k) (h2 : slots ≤ n) (kk : vx_W p l e R s m args below meth c H locs k n Q g q) : vx_W p l e R s m args below meth c H locs cells slots Q g q := fun T hT X => kk T hT (stand_widen X h1 h2)
theorem vx_out {pc : Nat} {E : String} {ce : Cell} {q : Addr} {mc ms : Nat} (hout : ∀ x ∈ c.exceptionTable.toList, covers x pc = false) (hlocks : meth.locks = false) (hcell : H[q]? = some ce) (hv : ce.vm = .none) (hcl : s.vm.findClass E = some ce.cls)
    (hx : ∀ t : State, t.heap = H → s.vm.Alike t.vm → XC E s t) (hf : ∀ z ∈ locs, free z.base) (hc : cells ≤ mc) (hs : slots ≤ ms) :
    vx_W p l e R s m args below meth c H locs cells slots (vx_MQ below Qc XC args s mc ms free) (F0 m pc ls rest) q := by
  intro T hT X
  obtain ⟨st1, hrun, hend, hW, hsm⟩ := X.leaveThrown q (g := F0 m pc ls rest) rfl rfl rfl hout hlocks
  have hcell9 : (T.setFrames (.throwing q :: below)).heap[q]? = some ce := by
    show T.heap[q]? = some ce
    rw [hT]; exact hcell
  exact ⟨_, st1, .threw q, hrun, hend, Or.inr ⟨q, rfl, E, ce, locs, hx _ hT hW.alike, hcell9, hv, hcl, hW, hsm.mono hc hs, hf⟩⟩
theorem vx_frame {U : State} {k n : Nat} (h : s.sameButNew ({ U with vm := s.vm } : State) locs k n) : s.heap.size ≤ U.heap.size ∧ ∀ q : Nat, q < s.heap.size → (∀ z ∈ locs, z.base ≠ q) → U.heap[q]? = s.heap[q]? := by
  obtain ⟨-, h2, -, -, -, h6⟩ := h
  refine ⟨h2, fun q hq hz => ?_⟩
  obtain ⟨c9, e1, e2, e3, e4⟩ := h6 q _ (Array.getElem?_eq_getElem hq)
  have hs : c9.slots = (s.heap[q]).slots := Array.ext_getElem? fun i => e4 i fun hm => hz _ hm rfl
  have h9 : c9 = s.heap[q] := by
    rw [hs] at e2
    exact e2
  have e5 : U.heap[q]? = some c9 := e1
  rw [e5, h9, Array.getElem?_eq_getElem hq]
/-- the words of a throw but the four that speak of the heap -/
def vx_no (w : Cond) : Bool := decide (w ≠ .isRef (.static Bundle.tN "UNASSIGNED_STACK" Bundle.steD)) && decide (w ≠ .isRef (.static Bundle.tN "SUPPRESSED_SENTINEL" Bundle.listD)) && decide (w ≠ .laysStatic Bundle.tN "UNASSIGNED_STACK" Bundle.steD) && decide (w ≠ .laysStatic Bundle.tN "SUPPRESSED_SENTINEL" Bundle.listD)
def vx_at0 (own : String) (ic : Nat) (X : String) (names : List String) : List Cond := (Bundle.ownAtoms0 own ic X names).filter vx_no
def vx_atS (own : String) (ic : Nat) (X : String) (names : List String) : List Cond := (Bundle.ownAtoms own ic X names).filter vx_no
/-- a word that the tables alone decide, or a good one -/
def vx_ot (w : Cond) : Bool := w.onTables || goodWord w
theorem vx_ot_at {args a' : Array Value} {s U : State} {w : Cond} (hW : s.WarmedH U.vm) (hvm : s.vm = U.vm) (hg : vx_ot w = true) (h : w.before args s = true) : w.before a' U = true := by
  simp only [vx_ot, Bool.or_eq_true] at hg
  rcases hg with hg | hg
  · exact va_tabs hg hvm h
  · exact word_at hW (good_of_word hg) h
/-- a list's words: the good ones out of the method's own list, the others by premises of their own -/
theorem vx_hat {args : Array Value} {s : State} {L B : List Cond} (h1 : ∀ w ∈ L.filter goodWord, w.before args s = true) (h2 : ∀ w ∈ L.filter (fun w => !goodWord w), w ∈ B) (h3 : ∀ w ∈ B, w.before args s = true) : ∀ w ∈ L, w.before args s = true := by
  intro w hw
  by_cases g : goodWord w = true
  · exact h1 w (List.mem_filter.mpr ⟨hw, g⟩)
  · refine h3 w (h2 w (List.mem_filter.mpr ⟨hw, ?_⟩))
    show (!goodWord w) = true
    cases hgw : goodWord w
    · rfl
    · exact absurd hgw g
theorem vx_c {args : Array Value} {s : State} {w : Cond} {B : List Cond} (h : w.before args s = true) (t : ∀ w ∈ B, w.before args s = true) : ∀ w' ∈ w :: B, w'.before args s = true := fun w' h' => (List.mem_cons.mp h').elim (fun e => by rw [e]; exact h) (t w')
theorem vx_n {args : Array Value} {s : State} : ∀ w ∈ ([] : List Cond), w.before args s = true := fun _ h => nomatch h
theorem vx_own {args : Array Value} {s : State} {L : List Cond} (h1 : ∀ w ∈ L.filter vx_no, w.before args s = true)
    (hU : (Cond.isRef (.static Bundle.tN "UNASSIGNED_STACK" Bundle.steD)).before args s = true) (hN : (Cond.isRef (.static Bundle.tN "SUPPRESSED_SENTINEL" Bundle.listD)).before args s = true)
    (lU : (Cond.laysStatic Bundle.tN "UNASSIGNED_STACK" Bundle.steD).before args s = true) (lN : (Cond.laysStatic Bundle.tN "SUPPRESSED_SENTINEL" Bundle.listD).before args s = true) : ∀ w ∈ L, w.before args s = true := by
  intro w hw
  by_cases e1 : w = .isRef (.static Bundle.tN "UNASSIGNED_STACK" Bundle.steD)
  · rw [e1]; exact hU
  · by_cases e2 : w = .isRef (.static Bundle.tN "SUPPRESSED_SENTINEL" Bundle.listD)
    · rw [e2]; exact hN
    · by_cases e3 : w = .laysStatic Bundle.tN "UNASSIGNED_STACK" Bundle.steD
      · rw [e3]; exact lU
      · by_cases e4 : w = .laysStatic Bundle.tN "SUPPRESSED_SENTINEL" Bundle.listD
        · rw [e4]; exact lN
        · exact h1 w (List.mem_filter.mpr ⟨hw, by unfold vx_no; rw [decide_eq_true e1, decide_eq_true e2, decide_eq_true e3, decide_eq_true e4]; rfl⟩)
/-- where a static field lies, its class's statics cell in H -/
def vx_L (C n d : String) (A : Nat → Prop) (U : State) (H : Heap) : Prop := ∃ (c : ClassId) (k : Class) (i : Nat) (f : Field) (a : Nat) (cell : Cell), U.vm.findClass C = some c ∧ U.fieldFound? C n d = some (c, k, i, f) ∧ f.isStatic = true ∧ k.statics = some a ∧ H[a]? = some cell ∧ cell.vm.isStatics = true ∧ cell.cls = c ∧ f.slot < cell.slots.size ∧ k.staticTypes[f.slot]? = some f.type ∧ ¬ A a
theorem vx_L.moved {C n d : String} {A : Nat → Prop} {u U : State} {H : Heap} (hvm : u.vm.Alike U.vm) (h : vx_L C n d A u H) : vx_L C n d A U H := by
  obtain ⟨c, k, i, f, a, cell, h1, h2, h3, h4, h5, h6, h7, h8, h9, h10⟩ := h
  obtain ⟨k', hi', he⟩ := State.fieldFound?_setVm hvm h2
  exact ⟨c, k', i, f, a, cell, by rw [hvm.findClass]; exact h1, hi', h3, by rw [he]; exact h4, h5, h6, h7, h8, by rw [he]; exact h9, h10⟩
theorem vx_L.kept {C n d : String} {A : Nat → Prop} {U : State} {H H1 : Heap} (h : vx_L C n d A U H) (hq : ∀ a : Nat, a < H.size → ¬ A a → H1[a]? = H[a]?) : vx_L C n d A U H1 := by
  obtain ⟨c, k, i, f, a, cell, h1, h2, h3, h4, h5, h6, h7, h8, h9, h10⟩ := h
  exact ⟨c, k, i, f, a, cell, h1, h2, h3, h4, by rw [hq a (Array.getElem?_eq_some_iff.mp h5).1 h10]; exact h5, h6, h7, h8, h9, h10⟩
theorem vx_L.narrow {C n d : String} {A B : Nat → Prop} {U : State} {H : Heap} (h : vx_L C n d A U H) (hAB : ∀ q, B q → A q) : vx_L C n d B U H := by
  obtain ⟨c, k, i, f, a, cell, h1, h2, h3, h4, h5, h6, h7, h8, h9, h10⟩ := h
  exact ⟨c, k, i, f, a, cell, h1, h2, h3, h4, h5, h6, h7, h8, h9, fun z => h10 (hAB _ z)⟩
theorem vx_L.word {C n d : String} {A : Nat → Prop} {s : State} {args : Array Value} (h : vx_L C n d A s s.heap) : (Cond.laysStatic C n d).before args s = true := by
  obtain ⟨c, k, i, f, a, cell, h1, h2, h3, h4, h5, h6, h7, h8, h9, -⟩ := h
  show (Cond.laysStatic C n d).holds args s none s [] = true
  exact Cond.laysStatic_of h1 h2 h3 h4 h5 h6 h7 h8 h9
/-- .. and what it holds: null or some reference -/
def vx_Zq (C n d : String) (A : Nat → Prop) (U : State) (H : Heap) : Prop := va_Zq C n d A U H ∧ vx_L C n d A U H
theorem vx_Zq.moved {C n d : String} {A : Nat → Prop} {u U : State} {H : Heap} (hvm : u.vm.Alike U.vm) (h : vx_Zq C n d A u H) : vx_Zq C n d A U H := ⟨va_Zq.moved hvm h.1, vx_L.moved hvm h.2⟩
theorem vx_Zq.kept {C n d : String} {A : Nat → Prop} {U : State} {H H1 : Heap} (h : vx_Zq C n d A U H) (hq : ∀ a : Nat, a < H.size → ¬ A a → H1[a]? = H[a]?) : vx_Zq C n d A U H1 := ⟨va_Zq.kept h.1 hq, vx_L.kept h.2 hq⟩
theorem vx_Zq.narrow {C n d : String} {A B : Nat → Prop} {U : State} {H : Heap} (h : vx_Zq C n d A U H) (hAB : ∀ q, B q → A q) : vx_Zq C n d B U H := ⟨va_Zq.narrow h.1 hAB, vx_L.narrow h.2 hAB⟩
theorem vx_Zqof {args : Array Value} {s : State} {C n d : String} {A : Nat → Prop} (hl : (Cond.laysStatic C n d).before args s = true) (hini : (Cond.initialized C).before args s = true) (h : (Cond.isRef (.static C n d)).before args s = true) (hA : ∀ a : Nat, a < s.heap.size → ¬ A a) : vx_Zq C n d A s s.heap := by
  refine ⟨va_Zqof hl hini h hA, ?_⟩
  obtain ⟨c, k, i, f, a, cell, h1, h2, h3, h4, h5, h6, h7, h8, h9⟩ := Cond.laysStatic_spec hl
  exact ⟨c, k, i, f, a, cell, h1, h2, h3, h4, h5, h6, h7, h8, h9, hA a (Array.getElem?_eq_some_iff.mp h5).1⟩
theorem vx_isRef {C n d : String} {v : Value} {A : Nat → Prop} {s : State} {args : Array Value} (h : va_Z C n d v A s s.heap) (hv : v.isRef = true) : (Cond.isRef (.static C n d)).before args s = true := by
  obtain ⟨cf, kf, fi, f, a, cell, h1, h2, h3, h4, h5, h6, h7, -⟩ := h
  have he : (Term.static C n d).eval args s none [] s = some v := by
    simp [Term.eval, State.fieldNamed?, h1, h2, h4, h5, h6, h7]
  simp only [Cond.before, Cond.holds, Cond.value, he]
  cases v <;> simp_all [Value.isRef]
theorem vx_isRefq {C n d : String} {A : Nat → Prop} {s : State} {args : Array Value} (h : va_Zq C n d A s s.heap) : (Cond.isRef (.static C n d)).before args s = true := by
  rcases h with h | ⟨t, h⟩
  · exact vx_isRef h rfl
  · exact vx_isRef h rfl
/-- the same frame, seen from here: as if the method were called anew in this heap -/
theorem vx_rebase {T : State} (X : Stand p l e R s m args below meth c T locs cells slots) {R' : Room} (hf : R'.frames ≤ R.frames) (hl : R'.locals ≤ R.locals) (hc : cells + R'.cells ≤ R.cells) (hs : slots + R'.slots ≤ R.slots) :
    Stand p l e R' ((T.setVm s.vm).setFrames (.invoking m args :: below)) m args below meth c T [] 0 0 := by
  have htop : (T.setVm s.vm).topJava?.isSome := X.here.top
  have hF : ((T.setVm s.vm).setFrames (.invoking m args :: below)).frames = .invoking m args :: below := State.frames_setFrames _ (State.cur_lt_of_top htop)
  obtain ⟨g₀, hg0⟩ := Option.isSome_iff_exists.mp htop
  obtain ⟨r, hr⟩ := State.topJava?_eq_some.mp hg0
  have hl9 : e.platform.stackLimits (T.setVm s.vm).me = e.platform.stackLimits s.me := X.limits
  have hb9 : (T.setVm s.vm).me.stackBytes = s.me.stackBytes := X.bytes
  refine ⟨X.admits, X.cas, X.clock, hF, ?_, X.hears, X.method, X.code, X.here, X.tail, X.warmed, ?_, ?_, ?_⟩
  · have h := X.room
    have hU : ((T.setVm s.vm).setFrames (.invoking m args :: below)).localsInUse = s.localsInUse := by
      rw [State.localsInUse_invoking hF (meth := meth) (c := c) X.method X.code, State.localsInUse_invoking X.frames X.method X.code]
    simp only [State.hasRoom, Bool.and_eq_true, decide_eq_true_eq] at h ⊢
    obtain ⟨⟨⟨⟨h1, h2, h3, h4, h5, h6⟩, h7⟩, h8⟩, h9⟩ := h
    rw [X.frames, List.length_cons] at h2 h3
    have q1 := X.heapSize
    have q2 := X.used
    simp only [hF, hU, List.length_cons, State.stackLimits_setFrames, State.stackBytes_setFrames, hl9, hb9]
    refine ⟨⟨⟨⟨by omega, by omega, by omega, by omega, by omega, h6⟩, ?_⟩, ?_⟩, X.book⟩
    · show T.heap.size + R'.cells ≤ e.platform.maxCells
      omega
    · show T.slotsUsed + R'.slots ≤ e.platform.maxSlots
      omega
  · rw [State.stackLimits_setFrames]; rfl
  · rw [State.stackBytes_setFrames]; rfl
  · refine ⟨?_, Nat.le_refl _, Nat.le_refl _, ?_, ?_, fun a c9 h9 => ⟨c9, h9, rfl, rfl, fun _ _ => rfl⟩⟩
    · obtain ⟨t, ht, -⟩ := State.frames_cons hr
      show T.setVm s.vm = { ((T.setVm s.vm).setFrames (.invoking m args :: below)).setFrames (T.setVm s.vm).frames with heap := T.heap, slotsUsed := T.slotsUsed }
      rw [State.setFrames_setFrames, State.setFrames_self ht]
      rfl
    · show T.slotsUsed = T.slotsUsed + ((T.heap.toList.drop T.heap.size).map (·.slots.size)).sum
      rw [List.drop_eq_nil_of_le (Nat.le_of_eq Array.length_toList)]
      rfl
    · show ((T.heap.toList.drop T.heap.size).map (·.slots.size)).sum ≤ 0
      rw [List.drop_eq_nil_of_le (Nat.le_of_eq Array.length_toList)]
      exact Nat.le_refl _
/-- 'throw new E()': new; dup; invokespecial; athrow -/
theorem vx_throw0 {cc : ByteArray} {pc : Nat} (hexec : p.tables.exec = Jvm.exec) (hb : c.code = cc) (hl : l.stackTraces = false) {own cls : String} {names : List String} {ik ic mc ms : Nat} {A : Nat → Prop}
    (hown : s.vm.findClass own = some m.cls) (hcls : Bundle.fit cls = true) (hnames : ∀ n ∈ names, Bundle.fit n = true)
    (hk : (Cond.classLink own ik cls).before args s = true) (hini : (Cond.initialized cls).before args s = true) (hat : ∀ w ∈ vx_at0 own ic cls names, w.before args s = true)
    (hgood : ∀ w ∈ Cond.classLink own ik cls :: Cond.initialized cls :: vx_at0 own ic cls names, vx_ot w = true)
    (hU : vx_Zq Bundle.tN "UNASSIGNED_STACK" Bundle.steD A s s.heap) (hN : vx_Zq Bundle.tN "SUPPRESSED_SENTINEL" Bundle.listD A s s.heap) (hS : va_S A s.heap H locs) (hsize : ls.size = c.maxLocals)
    (d0 : decode cc pc = .ok (.new ik, 3)) (d3 : decode cc (pc + 3) = .ok (.dup, 1)) (d4 : decode cc (pc + 4) = .ok (.invokespecial ic, 3)) (d7 : decode cc (pc + 7) = .ok (.athrow, 1))
    (hout : ∀ x ∈ c.exceptionTable.toList, covers x (pc + 7) = false)
    (hRframes : names.length + 3 < R.frames) (hRlocals : (rest.map fun v => v.category).sum + (13 * (names.length + 1) + 42) ≤ R.locals) (hRcells : cells + 1 ≤ R.cells) (hRslots : slots + 6 ≤ R.slots) (hlocks : meth.locks = false)
    (hx : ∀ t : State, s.vm.Alike t.vm → H.size ≤ t.heap.size → (∀ q : Nat, q < H.size → t.heap[q]? = H[q]?) → XC cls s t)
    (hf : ∀ z ∈ locs, free z.base) (hc : cells + 1 ≤ mc) (hs : slots + 6 ≤ ms) :
    W p l e R s m args below meth c H locs cells slots (vx_MQ below Qc XC args s mc ms free) (F0 m pc ls rest) := by
  intro T hT X
  have htr : e.platform.stackTraces = false := (show e.platform.stackTraces = l.stackTraces by rw [X.admits.platform]).trans hl
  have Y := vx_rebase X (R' := { frames := R.frames, locals := R.locals, cells := 1, slots := 6 }) (Nat.le_refl _) (Nat.le_refl _) hRcells hRslots
  obtain ⟨s', hA⟩ : ∃ z, z = (T.setVm s.vm).setFrames (.invoking m args :: below) := ⟨_, rfl⟩
  rw [← hA] at Y
  have hvm : s'.vm = s.vm := by rw [hA]; rfl
  have hhp : s'.heap = H := by rw [hA]; exact hT
  have hW0 : s.WarmedH s'.vm := by rw [hvm]; exact State.WarmedH.refl s
  have hat' : ∀ w ∈ vx_at0 own ic cls names, w.before args s' = true := fun w hw => vx_ot_at hW0 hvm.symm (hgood w (List.mem_cons_of_mem _ (List.mem_cons_of_mem _ hw))) (hat w hw)
  have hk' : (Cond.classLink own ik cls).before args s' = true := vx_ot_at hW0 hvm.symm (hgood _ List.mem_cons_self) hk
  have hini' : (Cond.initialized cls).before args s' = true := vx_ot_at hW0 hvm.symm (hgood _ (List.mem_cons_of_mem _ List.mem_cons_self)) hini
  have hU' : vx_Zq Bundle.tN "UNASSIGNED_STACK" Bundle.steD A s' s'.heap := by rw [hhp]; exact vx_Zq.moved hW0.alike (hU.kept hS.2.1)
  have hN' : vx_Zq Bundle.tN "SUPPRESSED_SENTINEL" Bundle.listD A s' s'.heap := by rw [hhp]; exact vx_Zq.moved hW0.alike (hN.kept hS.2.1)
  have h : ∀ w ∈ Bundle.ownAtoms0 own ic cls names, w.before args s' = true := vx_own hat' (vx_isRefq hU'.1) (vx_isRefq hN'.1) hU'.2.word hN'.2.word
  have hown' : s'.vm.findClass own = some m.cls := by rw [hvm]; exact hown
  have hins : (Cond.instantiable cls 6).before args s' = true := h _ (by simp [Bundle.ownAtoms0])
  obtain ⟨vm₁, cX, kX, hfX, hkX, -, -, X₁, st1⟩ := Y.newCold hexec (own := own) (C := cls) (index := ik) (n := 6) hown' hk' hins hini'
    (g := F0 m pc ls rest) rfl (by rw [hb]; exact d0) (Nat.le_refl _) (Nat.le_refl _)
  generalize hT1 : (T.setVm vm₁).pushCell { cls := cX, slots := kX.instanceTypes.map defaultValue, vm := .none } = T1 at X₁ st1
  have hcat : (Value.ref T.heap.size).category = 1 := rfl
  have hcellA : T1.heap[T.heap.size]? = some (freshCell cX kX) := by rw [← hT1]; exact State.heap_pushCell_size _ _
  have d3' : decode c.code (pc + 3) = .ok (.dup, 1) := by rw [hb]; exact d3
  obtain ⟨U, hsteps, hrun, hend, hW, hsame, ce, hce, hO⟩ := X₁.ctorThrow0 hexec htr (own := own) (cls := cls) (names := names) (ic := ic) hown' hcls hnames h (fun x hx => nomatch hx) hfX hkX hcellA (by rw [hhp, hT]; exact Nat.le_refl _)
    (g := { method := m, pc := pc + 4, locals := ls, stack := .ref T.heap.size :: .ref T.heap.size :: rest, locked := none }) rfl hsize rfl rfl (rest := rest) rfl
    (by rw [hb]; exact d4) (by rw [hb]; exact d7) hout hRframes (by simp only [List.map_cons, List.sum_cons, hcat]; omega) hlocks
  obtain ⟨f1, f2⟩ := vx_frame hsame
  rw [hhp] at f1 f2
  have hWs : s.WarmedH U.vm := State.WarmedH.trans hW0 hW
  have hcl : s.vm.findClass cls = some ce.cls := by
    have h9 := hO.cls
    rw [hvm] at h9
    exact h9
  have hall : s.sameButNew ({ U with vm := s.vm } : State) locs mc ms := by
    subst hA
    obtain ⟨e1, e2⟩ := hsame
    rw [State.setFrames_setFrames] at e1
    have h2 : (T.setVm s.vm).sameButNew ({ U with vm := s.vm } : State) [] (0 + 1) (0 + 6) := ⟨e1, e2⟩
    have h3 := X.same.trans h2
    rw [List.append_nil] at h3
    exact h3.mono hc hs
  refine ⟨U, ?_, .threw T.heap.size, hrun, hend, Or.inr ⟨T.heap.size, rfl, cls, ce, locs, hx U hWs.alike f1 (fun q hq => f2 q hq (fun z hz => nomatch hz)), hce, hO.vm, hcl, hWs, hall, hf⟩⟩
  refine st1 _ ?_
  show Steps p.tables e below (T1.setTop { method := m, pc := pc + 3, locals := ls, stack := .ref T.heap.size :: rest, locked := none }) _
  jvm_step X₁.here [X₁.here.top, hexec, d3', Value.category]
  exact hsteps
/-- 'throw new E("text")': new; dup; ldc; invokespecial; athrow -/
theorem vx_throwS {cc : ByteArray} {pc : Nat} (hexec : p.tables.exec = Jvm.exec) (hb : c.code = cc) (hl : l.stackTraces = false) {own cls text : String} {names : List String} {ik is ic mc ms sa : Nat} {A : Nat → Prop}
    (hown : s.vm.findClass own = some m.cls) (hcls : Bundle.fit cls = true) (hnames : ∀ n ∈ names, Bundle.fit n = true)
    (hk : (Cond.classLink own ik cls).before args s = true) (hini : (Cond.initialized cls).before args s = true) (hstr : vk_R own is text sa s) (hat : ∀ w ∈ vx_atS own ic cls names, w.before args s = true)
    (hgood : ∀ w ∈ Cond.classLink own ik cls :: Cond.initialized cls :: vx_atS own ic cls names, vx_ot w = true)
    (hU : vx_Zq Bundle.tN "UNASSIGNED_STACK" Bundle.steD A s s.heap) (hN : vx_Zq Bundle.tN "SUPPRESSED_SENTINEL" Bundle.listD A s s.heap) (hS : va_S A s.heap H locs) (hsize : ls.size = c.maxLocals)
    (d0 : decode cc pc = .ok (.new ik, 3)) (d3 : decode cc (pc + 3) = .ok (.dup, 1)) (d4 : decode cc (pc + 4) = .ok (.ldc is, 2)) (d6 : decode cc (pc + 6) = .ok (.invokespecial ic, 3)) (d9 : decode cc (pc + 9) = .ok (.athrow, 1))
    (hout : ∀ x ∈ c.exceptionTable.toList, covers x (pc + 9) = false)
    (hRframes : names.length + 3 < R.frames) (hRlocals : (rest.map fun v => v.category).sum + (13 * (names.length + 1) + 43) ≤ R.locals) (hRcells : cells + 1 ≤ R.cells) (hRslots : slots + 6 ≤ R.slots) (hlocks : meth.locks = false)
    (hx : ∀ t : State, s.vm.Alike t.vm → H.size ≤ t.heap.size → (∀ q : Nat, q < H.size → t.heap[q]? = H[q]?) → XC cls s t)
    (hf : ∀ z ∈ locs, free z.base) (hc : cells + 1 ≤ mc) (hs : slots + 6 ≤ ms) :
    W p l e R s m args below meth c H locs cells slots (vx_MQ below Qc XC args s mc ms free) (F0 m pc ls rest) := by
  intro T hT X
  have htr : e.platform.stackTraces = false := (show e.platform.stackTraces = l.stackTraces by rw [X.admits.platform]).trans hl
  have Y := vx_rebase X (R' := { frames := R.frames, locals := R.locals, cells := 1, slots := 6 }) (Nat.le_refl _) (Nat.le_refl _) hRcells hRslots
  obtain ⟨s', hA⟩ : ∃ z, z = (T.setVm s.vm).setFrames (.invoking m args :: below) := ⟨_, rfl⟩
  rw [← hA] at Y
  have hvm : s'.vm = s.vm := by rw [hA]; rfl
  have hhp : s'.heap = H := by rw [hA]; exact hT
  have hW0 : s.WarmedH s'.vm := by rw [hvm]; exact State.WarmedH.refl s
  have hat' : ∀ w ∈ vx_atS own ic cls names, w.before args s' = true := fun w hw => vx_ot_at hW0 hvm.symm (hgood w (List.mem_cons_of_mem _ (List.mem_cons_of_mem _ hw))) (hat w hw)
  have hk' : (Cond.classLink own ik cls).before args s' = true := vx_ot_at hW0 hvm.symm (hgood _ List.mem_cons_self) hk
  have hini' : (Cond.initialized cls).before args s' = true := vx_ot_at hW0 hvm.symm (hgood _ (List.mem_cons_of_mem _ List.mem_cons_self)) hini
  have hU' : vx_Zq Bundle.tN "UNASSIGNED_STACK" Bundle.steD A s' s'.heap := by rw [hhp]; exact vx_Zq.moved hW0.alike (hU.kept hS.2.1)
  have hN' : vx_Zq Bundle.tN "SUPPRESSED_SENTINEL" Bundle.listD A s' s'.heap := by rw [hhp]; exact vx_Zq.moved hW0.alike (hN.kept hS.2.1)
  have h : ∀ w ∈ Bundle.ownAtoms own ic cls names, w.before args s' = true := vx_own hat' (vx_isRefq hU'.1) (vx_isRefq hN'.1) hU'.2.word hN'.2.word
  have hown' : s'.vm.findClass own = some m.cls := by rw [hvm]; exact hown
  have hins : (Cond.instantiable cls 6).before args s' = true := h _ (by simp [Bundle.ownAtoms])
  obtain ⟨vm₁, cX, kX, hfX, hkX, -, -, X₁, st1⟩ := Y.newCold hexec (own := own) (C := cls) (index := ik) (n := 6) hown' hk' hins hini'
    (g := F0 m pc ls rest) rfl (by rw [hb]; exact d0) (Nat.le_refl _) (Nat.le_refl _)
  generalize hT1 : (T.setVm vm₁).pushCell { cls := cX, slots := kX.instanceTypes.map defaultValue, vm := .none } = T1 at X₁ st1
  have hcat : (Value.ref T.heap.size).category = 1 := rfl
  have hcellA : T1.heap[T.heap.size]? = some (freshCell cX kX) := by rw [← hT1]; exact State.heap_pushCell_size _ _
  have d3' : decode c.code (pc + 3) = .ok (.dup, 1) := by rw [hb]; exact d3
  have d4' : decode c.code (pc + 4) = .ok (.ldc is, 2) := by rw [hb]; exact d4
  have hstr' : vk_R own is text sa s' := vk_R.warm hW0 hstr
  obtain ⟨U, hsteps, hrun, hend, hW, hsame, ce, hce, hO⟩ := X₁.ctorThrowS hexec htr (own := own) (cls := cls) (names := names) (ic := ic) hown' hcls hnames h (fun x hx => nomatch hx) hfX hkX hcellA (by rw [hhp, hT]; exact Nat.le_refl _) (msg := .ref sa) rfl
    (g := { method := m, pc := pc + 6, locals := ls, stack := .ref sa :: .ref T.heap.size :: .ref T.heap.size :: rest, locked := none }) rfl hsize rfl rfl (rest := rest) rfl
    (by rw [hb]; exact d6) (by rw [hb]; exact d9) hout hRframes (by simp only [List.map_cons, List.sum_cons, hcat]; omega) hlocks
  obtain ⟨f1, f2⟩ := vx_frame hsame
  rw [hhp] at f1 f2
  have hWs : s.WarmedH U.vm := State.WarmedH.trans hW0 hW
  have hcl : s.vm.findClass cls = some ce.cls := by
    have h9 := hO.cls
    rw [hvm] at h9
    exact h9
  have hall : s.sameButNew ({ U with vm := s.vm } : State) locs mc ms := by
    subst hA
    obtain ⟨e1, e2⟩ := hsame
    rw [State.setFrames_setFrames] at e1
    have h2 : (T.setVm s.vm).sameButNew ({ U with vm := s.vm } : State) [] (0 + 1) (0 + 6) := ⟨e1, e2⟩
    have h3 := X.same.trans h2
    rw [List.append_nil] at h3
    exact h3.mono hc hs
  refine ⟨U, ?_, .threw T.heap.size, hrun, hend, Or.inr ⟨T.heap.size, rfl, cls, ce, locs, hx U hWs.alike f1 (fun q hq => f2 q hq (fun z hz => nomatch hz)), hce, hO.vm, hcl, hWs, hall, hf⟩⟩
  refine st1 _ ?_
  show Steps p.tables e below (T1.setTop { method := m, pc := pc + 3, locals := ls, stack := .ref T.heap.size :: rest, locked := none }) _
  jvm_step X₁.here [X₁.here.top, hexec, d3', Value.category]
  exact X₁.ldcString hexec (own := own) (text := text) (index := is) (a := sa) hown' hstr'.1 hstr'.2
    (g := { method := m, pc := pc + 4, locals := ls, stack := .ref T.heap.size :: .ref T.heap.size :: rest, locked := none }) rfl d4' _ hsteps
/-- 'throw new E("text")', the text by a wide index -/
theorem vx_throwSW {cc : ByteArray} {pc : Nat} (hexec : p.tables.exec = Jvm.exec) (hb : c.code = cc) (hl : l.stackTraces = false) {own cls text : String} {names : List String} {ik is ic mc ms sa : Nat} {A : Nat → Prop}
    (hown : s.vm.findClass own = some m.cls) (hcls : Bundle.fit cls = true) (hnames : ∀ n ∈ names, Bundle.fit n = true)
    (hk : (Cond.classLink own ik cls).before args s = true) (hini : (Cond.initialized cls).before args s = true) (hstr : vk_R own is text sa s) (hat : ∀ w ∈ vx_atS own ic cls names, w.before args s = true)
    (hgood : ∀ w ∈ Cond.classLink own ik cls :: Cond.initialized cls :: vx_atS own ic cls names, vx_ot w = true)
    (hU : vx_Zq Bundle.tN "UNASSIGNED_STACK" Bundle.steD A s s.heap) (hN : vx_Zq Bundle.tN "SUPPRESSED_SENTINEL" Bundle.listD A s s.heap) (hS : va_S A s.heap H locs) (hsize : ls.size = c.maxLocals)
    (d0 : decode cc pc = .ok (.new ik, 3)) (d3 : decode cc (pc + 3) = .ok (.dup, 1)) (d4 : decode cc (pc + 4) = .ok (.ldc_w is, 3)) (d7 : decode cc (pc + 7) = .ok (.invokespecial ic, 3)) (d10 : decode cc (pc + 10) = .ok (.athrow, 1))
    (hout : ∀ x ∈ c.exceptionTable.toList, covers x (pc + 10) = false)
    (hRframes : names.length + 3 < R.frames) (hRlocals : (rest.map fun v => v.category).sum + (13 * (names.length + 1) + 43) ≤ R.locals) (hRcells : cells + 1 ≤ R.cells) (hRslots : slots + 6 ≤ R.slots) (hlocks : meth.locks = false)
    (hx : ∀ t : State, s.vm.Alike t.vm → H.size ≤ t.heap.size → (∀ q : Nat, q < H.size → t.heap[q]? = H[q]?) → XC cls s t)
    (hf : ∀ z ∈ locs, free z.base) (hc : cells + 1 ≤ mc) (hs : slots + 6 ≤ ms) :
    W p l e R s m args below meth c H locs cells slots (vx_MQ below Qc XC args s mc ms free) (F0 m pc ls rest) := by
  intro T hT X
  have htr : e.platform.stackTraces = false := (show e.platform.stackTraces = l.stackTraces by rw [X.admits.platform]).trans hl
  have Y := vx_rebase X (R' := { frames := R.frames, locals := R.locals, cells := 1, slots := 6 }) (Nat.le_refl _) (Nat.le_refl _) hRcells hRslots
  obtain ⟨s', hA⟩ : ∃ z, z = (T.setVm s.vm).setFrames (.invoking m args :: below) := ⟨_, rfl⟩
  rw [← hA] at Y
  have hvm : s'.vm = s.vm := by rw [hA]; rfl
  have hhp : s'.heap = H := by rw [hA]; exact hT
  have hW0 : s.WarmedH s'.vm := by rw [hvm]; exact State.WarmedH.refl s
  have hat' : ∀ w ∈ vx_atS own ic cls names, w.before args s' = true := fun w hw => vx_ot_at hW0 hvm.symm (hgood w (List.mem_cons_of_mem _ (List.mem_cons_of_mem _ hw))) (hat w hw)
  have hk' : (Cond.classLink own ik cls).before args s' = true := vx_ot_at hW0 hvm.symm (hgood _ List.mem_cons_self) hk
  have hini' : (Cond.initialized cls).before args s' = true := vx_ot_at hW0 hvm.symm (hgood _ (List.mem_cons_of_mem _ List.mem_cons_self)) hini
  have hU' : vx_Zq Bundle.tN "UNASSIGNED_STACK" Bundle.steD A s' s'.heap := by rw [hhp]; exact vx_Zq.moved hW0.alike (hU.kept hS.2.1)
  have hN' : vx_Zq Bundle.tN "SUPPRESSED_SENTINEL" Bundle.listD A s' s'.heap := by rw [hhp]; exact vx_Zq.moved hW0.alike (hN.kept hS.2.1)
  have h : ∀ w ∈ Bundle.ownAtoms own ic cls names, w.before args s' = true := vx_own hat' (vx_isRefq hU'.1) (vx_isRefq hN'.1) hU'.2.word hN'.2.word
  have hown' : s'.vm.findClass own = some m.cls := by rw [hvm]; exact hown
  have hins : (Cond.instantiable cls 6).before args s' = true := h _ (by simp [Bundle.ownAtoms])
  obtain ⟨vm₁, cX, kX, hfX, hkX, -, -, X₁, st1⟩ := Y.newCold hexec (own := own) (C := cls) (index := ik) (n := 6) hown' hk' hins hini'
    (g := F0 m pc ls rest) rfl (by rw [hb]; exact d0) (Nat.le_refl _) (Nat.le_refl _)
  generalize hT1 : (T.setVm vm₁).pushCell { cls := cX, slots := kX.instanceTypes.map defaultValue, vm := .none } = T1 at X₁ st1
  have hcat : (Value.ref T.heap.size).category = 1 := rfl
  have hcellA : T1.heap[T.heap.size]? = some (freshCell cX kX) := by rw [← hT1]; exact State.heap_pushCell_size _ _
  have d3' : decode c.code (pc + 3) = .ok (.dup, 1) := by rw [hb]; exact d3
  have d4' : decode c.code (pc + 4) = .ok (.ldc_w is, 3) := by rw [hb]; exact d4
  have hstr' : vk_R own is text sa s' := vk_R.warm hW0 hstr
  obtain ⟨U, hsteps, hrun, hend, hW, hsame, ce, hce, hO⟩ := X₁.ctorThrowS hexec htr (own := own) (cls := cls) (names := names) (ic := ic) hown' hcls hnames h (fun x hx => nomatch hx) hfX hkX hcellA (by rw [hhp, hT]; exact Nat.le_refl _) (msg := .ref sa) rfl
    (g := { method := m, pc := pc + 7, locals := ls, stack := .ref sa :: .ref T.heap.size :: .ref T.heap.size :: rest, locked := none }) rfl hsize rfl rfl (rest := rest) rfl
    (by rw [hb]; exact d7) (by rw [hb]; exact d10) hout hRframes (by simp only [List.map_cons, List.sum_cons, hcat]; omega) hlocks
  obtain ⟨f1, f2⟩ := vx_frame hsame
  rw [hhp] at f1 f2
  have hWs : s.WarmedH U.vm := State.WarmedH.trans hW0 hW
  have hcl : s.vm.findClass cls = some ce.cls := by
    have h9 := hO.cls
    rw [hvm] at h9
    exact h9
  have hall : s.sameButNew ({ U with vm := s.vm } : State) locs mc ms := by
    subst hA
    obtain ⟨e1, e2⟩ := hsame
    rw [State.setFrames_setFrames] at e1
    have h2 : (T.setVm s.vm).sameButNew ({ U with vm := s.vm } : State) [] (0 + 1) (0 + 6) := ⟨e1, e2⟩
    have h3 := X.same.trans h2
    rw [List.append_nil] at h3
    exact h3.mono hc hs
  refine ⟨U, ?_, .threw T.heap.size, hrun, hend, Or.inr ⟨T.heap.size, rfl, cls, ce, locs, hx U hWs.alike f1 (fun q hq => f2 q hq (fun z hz => nomatch hz)), hce, hO.vm, hcl, hWs, hall, hf⟩⟩
  refine st1 _ ?_
  show Steps p.tables e below (T1.setTop { method := m, pc := pc + 3, locals := ls, stack := .ref T.heap.size :: rest, locked := none }) _
  jvm_step X₁.here [X₁.here.top, hexec, d3', Value.category]
  exact X₁.ldcStringW hexec (own := own) (text := text) (index := is) (a := sa) hown' hstr'.1 hstr'.2
    (g := { method := m, pc := pc + 4, locals := ls, stack := .ref T.heap.size :: .ref T.heap.size :: rest, locked := none }) rfl d4' _ hsteps
end Ends
section Bodies
variable {l : Launch}
theorem vx_ofW {y : MethodName} {ws ws' : List Cond} {rm : Room} {Pc : Array Value → State → Prop} {Qc : Array Value → State → Outcome → State → Prop} {XC : String → State → State → Prop} {mc ms : Nat} {free : Addr → Prop} {cc : ByteArray} {maxL : Nat} {ret : Option FieldType}
    (hy : plainName y.cls = true) (hw : ws = Cond.code y cc maxL ret :: ws')
    (body : ∀ p e s m args below meth c s₁, BodyLoose p l y (headSpec ws rm) cc maxL ret e s m args below meth c s₁ → c.maxLocals = maxL → (∀ x ∈ c.exceptionTable.toList, False) → Pc args s →
      W p l e (headSpec ws rm).room s m args below meth c s.heap [] 0 0 (vx_MQ below Qc XC args s mc ms free) (entryFrame m args maxL)) : vx_Met l y ws rm Pc Qc XC mc ms free := by
  refine MetFree.of_bodyS (code := cc) (maxLocals := maxL) (ret := ret) hy ?_ ?_
  · intro args s m h hn
    obtain ⟨meth, c, h1, h2, h3, h4, h5, h6, -, -⟩ := Cond.code_spec hn (atoms_spec (ws := ws) h _ (by rw [hw]; exact List.mem_cons_self))
    exact ⟨meth, c, h1, h2, h3, h4, h5, h6⟩
  · intro p e s m args below meth c s₁ B hml hP _
    have hh0 : s₁.heap = s.heap := by rw [B.state]; rfl
    have ht : ∀ x ∈ c.exceptionTable.toList, False := by
      obtain ⟨meth9, c9, h1, h2, -, -, -, -, h7, -⟩ := Cond.code_spec B.named (atoms_spec (ws := ws) B.pre _ (by rw [hw]; exact List.mem_cons_self))
      cases Option.some.inj (h1.symm.trans B.method)
      cases Option.some.inj (h2.symm.trans (Stand.of_body B).code)
      intro x hx
      rw [Array.isEmpty_iff.mp h7] at hx
      cases hx
    obtain ⟨t, a1, o, b1, b2, b3⟩ := body p e s m args below meth c s₁ B hml ht hP s₁ hh0 (Stand.of_body B)
    exact ⟨t, o, a1, b1, b2, b3⟩
/-- the table of a body with handlers -/
theorem vx_table {p : Program} {x y : MethodName} {S : Spec} {cc bytes : ByteArray} {maxL maxL' : Nat} {ret ret' : Option FieldType} {e : Env} {s s₁ : State} {m : MethodId} {args : Array Value} {below : List Frame} {meth : Method} {c : Code} {hh : List (Nat × Nat × Nat × Nat)}
    (B : BodyLoose p l y S cc maxL ret e s m args below meth c s₁) (h : (Cond.codeWith y bytes maxL' ret' hh).before args s = true) : c.exceptionTable.toList = tableOf hh := by
  obtain ⟨m9, meth9, c9, hn9, h1, h2, -, -, h6, -⟩ := Cond.codeWith_spec h
  cases Option.some.inj (hn9.symm.trans B.named)
  cases Option.some.inj (h1.symm.trans B.method)
  cases Option.some.inj (h2.symm.trans (Stand.of_body B).code)
  rw [← h6, table_eq]
end Bodies
end VXA
/-! ===== END ===== -/
/-! ===== BEGIN a static call of a method with an exception table ===== -/
section VXS
variable {p : Program} {l : Launch} {e : Env} {R : Room} {s : State} {m : MethodId} {args : Array Value} {below : List Frame} {meth : Method} {c : Code} {T : State} {H : Heap} {locs : List Loc} {cells slots : Nat}
abbrev vx_CSW (R : Room) (s : State) (args : Array Value) (own : String) (index : Nat) (y : MethodName) (bytes : ByteArray) (maxL : Nat) (ret : Option FieldType) (hh : List (Nat × Nat × Nat × Nat)) (ws : List Cond) (rm : Room) (mc ms n : Nat) : Prop :=
  (rm.cells = mc ∧ rm.slots = ms ∧ rm.frames + 1 ≤ R.frames ∧ 8 + (maxL + 11) + rm.locals ≤ R.locals ∧ (∀ w ∈ ws, ∀ (a' : Array Value) (U : State), s.WarmedH U.vm → w.before a' U = true) ∧ Cond.codeWith y bytes maxL ret hh ∈ ws) ∧
  (Cond.codeWith y bytes maxL ret hh).before args s = true ∧ (Cond.initialized y.cls).before args s = true ∧ (y.cls ≠ "java/lang/invoke/MethodHandle" ∧ y.cls ≠ "java/lang/invoke/VarHandle") ∧
  (∀ sig, parseMethodDescriptor y.desc = some sig → n = sig.parameters.length) ∧ (Cond.methodLink own index y).before args s = true ∧ (Cond.static y).before args s = true
theorem vx_cwSW {own : String} {index maxL mc ms : Nat} {y : MethodName} {bytes : ByteArray} {ret : Option FieldType} {hh : List (Nat × Nat × Nat × Nat)} {Ts ws ws' : List Cond} {rm : Room} (n : Nat) (ht : ∀ w ∈ Ts, w.before args s = true) (hT : GoodIn Ts (va_wsS own index y ws)) (hw : ws = Cond.codeWith y bytes maxL ret hh :: ws') (hrc : rm.cells = mc) (hrs : rm.slots = ms)
    (hd : y.cls ≠ "java/lang/invoke/MethodHandle" ∧ y.cls ≠ "java/lang/invoke/VarHandle" ∧ (parseMethodDescriptor y.desc).map (fun d => d.parameters.length) = some n) (hR : rm.frames + 1 ≤ R.frames ∧ 8 + (maxL + 11) + rm.locals ≤ R.locals) :
    vx_CSW R s args own index y bytes maxL ret hh ws rm mc ms n := by
  have ok : ∀ w ∈ va_wsS own index y ws, w.before args s = true := fun w h => ht w (hT w h).1
  have hG : GoodIn Ts ws := fun w h => hT w (by unfold va_wsS; exact List.mem_append_right _ h)
  have hc : Cond.codeWith y bytes maxL ret hh ∈ ws := by rw [hw]; exact List.mem_cons_self
  refine ⟨⟨hrc, hrs, hR.1, hR.2, pay_in ht hG, hc⟩, ht _ (hG _ hc).1, ok _ (by simp [va_wsS]), ⟨hd.1, hd.2.1⟩, fun sig h => ?_, ok _ (by simp [va_wsS]), ok _ (by simp [va_wsS])⟩
  have h2 := hd.2.2
  rw [h] at h2
  exact (Option.some.inj h2).symm
theorem vx_callSW (X : Stand p l e R s m args below meth c T locs cells slots) (hexec : p.tables.exec = Jvm.exec) {own : String} {index : Nat} {y : MethodName} {bytes : ByteArray} {maxL : Nat} {ret : Option FieldType} {hh : List (Nat × Nat × Nat × Nat)}
    (hown : s.vm.findClass own = some m.cls) (hlink : (Cond.methodLink own index y).before args s = true) (hstat : (Cond.static y).before args s = true) (hinit : (Cond.initialized y.cls).before args s = true)
    (hcode : (Cond.codeWith y bytes maxL ret hh).before args s = true) (hy : y.cls ≠ "java/lang/invoke/MethodHandle" ∧ y.cls ≠ "java/lang/invoke/VarHandle")
    {W9 : Nat} {Pre : Pt → Array Value → Prop} {Post : Pt → Array Value → Option Value → Pt → Prop} (hK : Back l R p e below s args y 3 W9 Pre Post)
    {g : JFrame} (hg : g.method = m) (hsize : g.locals.size = c.maxLocals) {argsL rest : List Value} (hlen : ∀ sig, parseMethodDescriptor y.desc = some sig → argsL.length = sig.parameters.length)
    (hstack : g.stack = argsL.reverse ++ rest) (hW : 2 * g.monitorRoom + (rest.map fun v => v.category).sum ≤ W9) (hdg : decode c.code g.pc = .ok (.invokestatic index, 3))
    (hpre : ∀ vm₁, s.WarmedH vm₁ → Pre ⟨T.setVm vm₁, locs, cells, slots⟩ argsL.toArray) :
    ∃ (v : Option Value) (vm₁ : Vm) (B : Pt), s.WarmedH vm₁ ∧ Stand p l e R s m args below meth c B.U B.locs B.cells B.slots ∧ Post ⟨T.setVm vm₁, locs, cells, slots⟩ argsL.toArray v B ∧
      ∀ target, Steps p.tables e below (B.U.setTop { g with pc := g.pc + 3, stack := v.toList ++ rest }) target → Steps p.tables e below (T.setTop g) target := by
  obtain ⟨mk, methM, cM, hnamed, hmethM, -, -, -, -, -, -, hsigM⟩ := Cond.codeWith_spec hcode
  have hstatic : methM.isStatic = true := Cond.static_spec hnamed hmethM hstat
  obtain ⟨kP, hkP, -⟩ := className_of_methodNamed hnamed
  have hinitP : kP.init = .initialized := Cond.initialized_spec (findClass_of_methodNamed hnamed) hkP hinit
  obtain ⟨vm₁, X₁, hstep₁⟩ := X.invokestatic hexec hown hlink hnamed hmethM hstatic hkP hinitP hy (g := g) hg (argsL := argsL) (rest := rest) (hlen _ hsigM) hstack hdg
  obtain ⟨v, B, X', hpost, hsteps⟩ := hK m meth c ⟨T.setVm vm₁, locs, cells, slots⟩ { g with stack := rest } (.invokestatic index) mk argsL.toArray X₁ hg hsize hdg hW (X₁.named hnamed) (hpre vm₁ X₁.warmed)
  exact ⟨v, vm₁, B, X₁.warmed, X', hpost, fun target h => hstep₁ _ fun acts => by rw [doInvoke_state]; exact hsteps.trans h⟩
theorem vx_runSW {y : MethodName} {bytes cc : ByteArray} {maxL nL mc ms n index : Nat} {ret : Option FieldType} {hh : List (Nat × Nat × Nat × Nat)} {ws : List Cond} {rm : Room} {Pc : Array Value → State → Prop} {Qc : Array Value → State → Outcome → State → Prop} {free : Addr → Prop} {Ts : List Cond} {own : String} {As rest : List Value} {g : JFrame}
    (S : CallFix p m c cc nL s args Ts own) (hM : Met l y ws rm Pc Qc mc ms free) (cw : vx_CSW R s args own index y bytes maxL ret hh ws rm mc ms n) (hp : PreS s H Pc As)
    (hg : g.method = m) (hn : As.length = n) (hsize : g.locals.size = nL) (hstack : g.stack = As.reverse ++ rest) (hW : 2 * g.monitorRoom + (rest.map fun v => v.category).sum ≤ 8) (hdg : decode cc g.pc = .ok (.invokestatic index, 3)) (hf : cells + mc ≤ R.cells ∧ slots + ms ≤ R.slots) :
    va_Run p l e R s m args below meth c H locs cells slots mc ms g rest (Qc As.toArray) (free) := by
  obtain ⟨⟨hrc, hrs, hfr, hlo, hws, hcw⟩, hcode, hini, hy, hlen, hl, hstt⟩ := cw
  have hK : Back l R p e below s args y 3 8 (PreOf R mc ms Pc) (PostOf Qc mc ms free) := va_backW (hh := hh) (bytes := bytes) (maxL := maxL) (ret := ret) hM hp.1 hrc hrs hfr hlo hws hcw (fun a' U hW => word_at hW (Or.inl (by first | rfl | simp [Cond.onTables, Cond.keeps, Cond.steady])) hini)
  obtain ⟨hx, hb, hml, ho, -⟩ := S
  intro T hT X
  obtain ⟨v, vm₁, ⟨U', l2, c2, s2⟩, hW₁, X', ⟨g', mk, t, L, e1, e2, hq, h1, hL, h2, h3⟩, st⟩ := vx_callSW X hx (hh := hh) (bytes := bytes) (maxL := maxL) (ret := ret) ho hl hstt hini hcode hy hK hg (hsize.trans hml.symm) (argsL := As) (rest := rest) (fun sig h => hn.trans (hlen sig h)) hstack hW (by rw [hb]; exact hdg)
    (fun vm₁ hW₁ => ⟨hf.1, hf.2, hp.2 (T.setVm vm₁) hT hW₁⟩)
  dsimp only [Pt.U, Pt.locs, Pt.cells, Pt.slots] at X' e1 e2 h1 h2 h3 st
  subst h1; subst h2; subst h3
  exact ⟨v, (T.setVm vm₁).calling g' mk As.toArray, t, U', L, hT, X', hL, e1, e2, hq, st⟩
/-- not caught here, past rows that name other classes: it goes on to the caller -/
theorem vx_lt {D : va_G} {cl : List vw_C} {ws : va_W} {H1 : Heap} (h : va_P D cl ws H1) {k : Nat} {q : Nat × va_E} (hk : ws[k]? = some q) : q.1 < H1.size := (h k q hk).lt
end VXS
/-! ===== END ===== -/
/-! ===== BEGIN methods with a table of their own: called by a name, returning or throwing ===== -/
section VXH
/-! vx_backW, vx_callVX, vx_callSX, vx_callVW, vx_runVW, vx_runVX, vx_runSX, vx_ofWH follow the same proofs as their sisters above (Free/Laws.lean, Shelf42/LK1.lean); vx_outP calls Shelf42/NT130.lean (outThrough). -/
section
variable {l : Launch} {R : Room} {p : Program} {e : Env} {below : List Frame} {s : State} {sargs : Array Value} {y : MethodName} {len W9 : Nat}
theorem vx_backW {ws : List Cond} {rm : Room} {Pc : Array Value → State → Prop} {Qc : Array Value → State → Outcome → State → Prop} {XC : String → State → State → Prop} {mc ms : Nat} {free : Addr → Prop} {bytes : ByteArray} {maxL : Nat} {ret : Option FieldType} {hh : List (Nat × Nat × Nat × Nat)}
    (hM : vx_Met l y ws rm Pc Qc XC mc ms free) (hblind : FrameBlind Pc) (hrc : rm.cells = mc) (hrs : rm.slots = ms)
    (hframes : rm.frames + 1 ≤ R.frames) (hlocals : W9 + (maxL + 11) + rm.locals ≤ R.locals)
    (hws : ∀ w ∈ ws, ∀ a' U, s.WarmedH U.vm → w.before a' U = true) (hcode : Cond.codeWith y bytes maxL ret hh ∈ ws) (hinit : ∀ a' U, s.WarmedH U.vm → (Cond.initialized y.cls).before a' U = true) :
    vx_Back l R p e below s sargs y len W9 (PreOf R mc ms Pc) (PostOf Qc mc ms free) (vx_Post XC mc ms free) := by
  intro m meth c A g ig mk a X hg hsize hdg hW hn hp
  have h1 : (headSpec ws rm).pre.before a A.U = true := atoms_intro fun w hw => hws w hw _ _ X.warmed
  have h2 : (Cond.codeWith y bytes maxL ret hh).before a A.U = true := hws _ hcode _ _ X.warmed
  have h3 : (Cond.initialized y.cls).before a A.U = true := hinit _ _ X.warmed
  have h4 : A.cells + (headSpec ws rm).room.cells ≤ R.cells := by rw [show (headSpec ws rm).room.cells = mc from hrc]; exact hp.1
  have h5 : A.slots + (headSpec ws rm).room.slots ≤ R.slots := by rw [show (headSpec ws rm).room.slots = ms from hrs]; exact hp.2.1
  have hPc : Pc a (A.U.calling g mk a) := hblind _ _ _ _ hp.2.2
  obtain ⟨U, Ls, c0, s0⟩ := A
  dsimp only [Pt.U, Pt.locs, Pt.cells, Pt.slots] at h1 h2 h3 h4 h5 X hn hPc ⊢
  obtain ⟨m9, methY, cY, hn9, hmY, hcY, -, hlY, -⟩ := Cond.codeWith_spec h2
  cases Option.some.inj (hn9.symm.trans hn)
  obtain ⟨kY, hkY, -⟩ := className_of_methodNamed hn
  have hinitY : kY.init = .initialized := Cond.initialized_spec (findClass_of_methodNamed hn) hkY h3
  have h : At U g.method c below := by rw [hg]; exact X.here
  have hlocals9 : W9 + (maxL + 11) + (headSpec ws rm).room.locals ≤ R.locals := hlocals
  have happ : (headSpec ws rm).appliesLoose y e.platform (U.calling g mk a) = true :=
    Spec.appliesLoose_calling (g := g) h hdg hn hkY hinitY
      (X.room_calling (g := g) (R' := (headSpec ws rm).room) hsize hmY hcY hframes (by rw [hlY]; omega) h4 h5) h1
  obtain ⟨mid, hmid⟩ := h.above
  have hfr : (U.setTop g).frames = (.java g :: mid) ++ below := by rw [State.frames_setTop' g h.top, hmid]; rfl
  obtain ⟨o, s₂, hsteps, -, hend, hq⟩ := Steps.callFree hM p X.admits X.cas X.clock (acts := []) hfr happ hPc trivial
  have hq' : vx_Q Qc XC mc ms free a (U.calling g mk a) o s₂ := hq
  rw [State.frames_setTop' g h.top] at hend
  obtain ⟨g₀, hg0⟩ := Option.isSome_iff_exists.mp h.top
  obtain ⟨r, hr⟩ := State.topJava?_eq_some.mp hg0
  have hr' : (({ U with heap := s₂.heap, slotsUsed := s₂.slotsUsed } : State).setVm s₂.vm).frames = .java g₀ :: r := hr
  rcases hq' with ⟨hqc, L, hfe, hL⟩ | ⟨q, rfl, E, ce, L, hx, hce, hcv, hcl, hW₂, hsm, hL⟩
  · obtain ⟨⟨v, rfl⟩, hW₂, e2, q2, q3, q4, q5, q6⟩ := id hfe
    have e3 : s₂ = ({ (U.calling g mk a).setFrames s₂.frames with heap := s₂.heap, slotsUsed := s₂.slotsUsed } : State).setVm s₂.vm := by
      have : s₂ = ({ s₂ with vm := (U.calling g mk a).vm } : State).setVm s₂.vm := rfl
      rw [e2] at this
      exact this
    obtain ⟨c₂, i₂, len₂, hc₂, hd₂, hf₂⟩ := hend
    have hW' : U.WarmedH s₂.vm := hW₂
    have hcc : c₂ = c := by
      have h1 : s₂.code? g.method = U.code? g.method := by
        rw [State.code?_eq, State.code?_eq, hW'.alike.method?]
      exact Option.some.inj (hc₂.symm.trans (h1.trans h.code))
    subst hcc
    have hlen : len₂ = len := by rw [hdg] at hd₂; cases hd₂; rfl
    subst hlen
    have hs₂ : s₂ = (({ U with heap := s₂.heap, slotsUsed := s₂.slotsUsed } : State).setVm s₂.vm).setTop { g with pc := g.pc + len₂, stack := v.toList ++ g.stack } := by
      refine e3.trans ?_
      rw [hf₂, State.calling_eq h.top, State.setFrames_setFrames, State.setTop_of_frames _ hr', hr]
      rfl
    have hsame : U.sameButNew ({ U with heap := s₂.heap, slotsUsed := s₂.slotsUsed } : State) L mc ms := by
      refine ⟨?_, q2, q3, q4, q5, q6⟩
      obtain ⟨t, ht, -⟩ := State.frames_cons hr
      show ({ U with heap := s₂.heap, slotsUsed := s₂.slotsUsed } : State) = { U.setFrames U.frames with heap := s₂.heap, slotsUsed := s₂.slotsUsed }
      rw [State.setFrames_self ht]
    subst hg
    refine Or.inl ⟨v, ⟨(({ U with heap := s₂.heap, slotsUsed := s₂.slotsUsed } : State).setVm s₂.vm), Ls ++ L, c0 + mc, s0 + ms⟩,
      ⟨X.admits, X.cas, X.clock, X.frames, X.room, X.hears, X.method, X.code, (X.here.setHeapUsed s₂.heap s₂.slotsUsed).setVm hW'.alike, X.tail, State.WarmedH.trans X.warmed hW', X.limits, X.bytes, X.same.trans (hsame.setVm s.vm)⟩,
      ⟨g, mk, s₂, L, rfl, rfl, hqc, rfl, hL, rfl, rfl⟩, ?_⟩
    show Steps p.tables e below _ ((({ U with heap := s₂.heap, slotsUsed := s₂.slotsUsed } : State).setVm s₂.vm).setTop { g with pc := g.pc + len₂, stack := v.toList ++ g.stack })
    rw [← hs₂]
    exact hsteps
  · obtain ⟨e2, q2, q3, q4, q5, q6⟩ := id hsm
    have e3 : s₂ = ({ (U.calling g mk a).setFrames s₂.frames with heap := s₂.heap, slotsUsed := s₂.slotsUsed } : State).setVm s₂.vm := by
      have : s₂ = ({ s₂ with vm := (U.calling g mk a).vm } : State).setVm s₂.vm := rfl
      rw [e2] at this
      exact this
    have hf₂ : s₂.frames = .throwing q :: .java g :: U.frames.tail := hend
    have hW' : U.WarmedH s₂.vm := hW₂
    have hs₂ : s₂ = ((({ U with heap := s₂.heap, slotsUsed := s₂.slotsUsed } : State).setVm s₂.vm).setTop g).pushFrame (.throwing q) := by
      refine e3.trans ?_
      rw [hf₂, State.calling_eq h.top, State.setFrames_setFrames, State.pushFrame, State.frames_setTop _ hr', State.setTop_of_frames _ hr', State.setFrames_setFrames, hr]
      rfl
    have hsame : U.sameButNew ({ U with heap := s₂.heap, slotsUsed := s₂.slotsUsed } : State) L mc ms := by
      refine ⟨?_, q2, q3, q4, q5, q6⟩
      obtain ⟨t, ht, -⟩ := State.frames_cons hr
      show ({ U with heap := s₂.heap, slotsUsed := s₂.slotsUsed } : State) = { U.setFrames U.frames with heap := s₂.heap, slotsUsed := s₂.slotsUsed }
      rw [State.setFrames_self ht]
    subst hg
    refine Or.inr ⟨q, ⟨(({ U with heap := s₂.heap, slotsUsed := s₂.slotsUsed } : State).setVm s₂.vm), Ls ++ L, c0 + mc, s0 + ms⟩,
      ⟨X.admits, X.cas, X.clock, X.frames, X.room, X.hears, X.method, X.code, (X.here.setHeapUsed s₂.heap s₂.slotsUsed).setVm hW'.alike, X.tail, State.WarmedH.trans X.warmed hW', X.limits, X.bytes, X.same.trans (hsame.setVm s.vm)⟩,
      ⟨g, mk, s₂, L, E, ce, rfl, rfl, hx, hce, hcv, hcl, rfl, hL, rfl, rfl⟩, ?_⟩
    show Steps p.tables e below _ (((({ U with heap := s₂.heap, slotsUsed := s₂.slotsUsed } : State).setVm s₂.vm).setTop g).pushFrame (.throwing q))
    rw [← hs₂]
    exact hsteps
end
variable {p : Program} {l : Launch} {e : Env} {R : Room} {s : State} {m : MethodId} {args : Array Value} {below : List Frame} {meth : Method} {c : Code} {T : State} {H : Heap} {locs : List Loc} {cells slots : Nat}
theorem vx_callVX (X : Stand p l e R s m args below meth c T locs cells slots) (hexec : p.tables.exec = Jvm.exec) {own C : String} {index : Nat} {y : MethodName} {bytes : ByteArray} {maxL : Nat} {ret : Option FieldType} {hh : List (Nat × Nat × Nat × Nat)}
    (hown : s.vm.findClass own = some m.cls) (hlink : (Cond.methodLink own index y).before args s = true) (hinst : (Cond.instanceMethod y).before args s = true) (hsel : (Cond.selects C y y).before args s = true)
    (hcode : (Cond.codeWith y bytes maxL ret hh).before args s = true) (hy : y.cls ≠ "java/lang/invoke/MethodHandle" ∧ y.cls ≠ "java/lang/invoke/VarHandle")
    {W9 : Nat} {Pre : Pt → Array Value → Prop} {Post : Pt → Array Value → Option Value → Pt → Prop} {PostX : Pt → Array Value → Addr → Pt → Prop} (hK : vx_Back l R p e below s args y 3 W9 Pre Post PostX)
    {b : Addr} {cellB : Cell} (hcell : T.heap[b]? = some cellB) (hobj : cellB.vm.isStatics = false) (hcls : s.vm.findClass C = some cellB.cls)
    {g : JFrame} (hg : g.method = m) (hsize : g.locals.size = c.maxLocals) {argsL rest : List Value} (hlen : ∀ sig, parseMethodDescriptor y.desc = some sig → argsL.length = sig.parameters.length)
    (hstack : g.stack = argsL.reverse ++ .ref b :: rest) (hW : 2 * g.monitorRoom + (rest.map fun v => v.category).sum ≤ W9) (hdg : decode c.code g.pc = .ok (.invokevirtual index, 3))
    (hpre : ∀ vm₁, s.WarmedH vm₁ → Pre ⟨T.setVm vm₁, locs, cells, slots⟩ (Value.ref b :: argsL).toArray) :
    (∃ (v : Option Value) (vm₁ : Vm) (B : Pt), s.WarmedH vm₁ ∧ Stand p l e R s m args below meth c B.U B.locs B.cells B.slots ∧ Post ⟨T.setVm vm₁, locs, cells, slots⟩ (Value.ref b :: argsL).toArray v B ∧
      ∀ target, Steps p.tables e below (B.U.setTop { g with pc := g.pc + 3, stack := v.toList ++ rest }) target → Steps p.tables e below (T.setTop g) target) ∨
    (∃ (q : Addr) (vm₁ : Vm) (B : Pt), s.WarmedH vm₁ ∧ Stand p l e R s m args below meth c B.U B.locs B.cells B.slots ∧ PostX ⟨T.setVm vm₁, locs, cells, slots⟩ (Value.ref b :: argsL).toArray q B ∧
      Steps p.tables e below (T.setTop g) ((B.U.setTop { g with stack := rest }).pushFrame (.throwing q))) := by
  obtain ⟨mk, methM, hnamed, hmethM, hstM, habM⟩ := Cond.instanceMethod_spec hinst
  obtain ⟨m8, methM', cM, hn8, hmethM', -, -, -, -, -, -, hsigM⟩ := Cond.codeWith_spec hcode
  cases Option.some.inj (hn8.symm.trans hnamed)
  cases hmethM.symm.trans hmethM'
  obtain ⟨c2, r2, m2, q1, q2, q3, q4, kP, hkP, hkPi⟩ := Cond.selects_spec hsel
  cases hcls.symm.trans q1
  cases (State.methodFound?_of_named hnamed hy).symm.trans q2
  cases hnamed.symm.trans q3
  have hselP : selectMethod e.platform s.vm cellB.cls mk = .method mk := by rw [Launch.admits_selectMethod X.admits]; exact q4
  obtain ⟨vm₁, X₁, hstep₁⟩ := X.invokevirtual hexec hown hlink hnamed hmethM hstM hkP hkPi hy (a := b) (cell := cellB) hcell
    (fun z h => by rw [h] at hobj; cases hobj) hselP hmethM habM hkP hkPi (g := g) hg (argsL := argsL) (rest := rest) (hlen _ hsigM) hstack hdg
  rcases hK m meth c ⟨T.setVm vm₁, locs, cells, slots⟩ { g with stack := rest } (.invokevirtual index) mk (Value.ref b :: argsL).toArray X₁ hg hsize hdg hW (X₁.named hnamed) (hpre vm₁ X₁.warmed) with ⟨v, B, X', hpost, hsteps⟩ | ⟨q, B, X', hpost, hsteps⟩
  · exact Or.inl ⟨v, vm₁, B, X₁.warmed, X', hpost, fun target h => hstep₁ _ fun acts => by rw [doInvoke_state]; exact hsteps.trans h⟩
  · exact Or.inr ⟨q, vm₁, B, X₁.warmed, X', hpost, hstep₁ _ fun acts => by rw [doInvoke_state]; exact hsteps⟩
theorem vx_callSX (X : Stand p l e R s m args below meth c T locs cells slots) (hexec : p.tables.exec = Jvm.exec) {own : String} {index : Nat} {y : MethodName} {bytes : ByteArray} {maxL : Nat} {ret : Option FieldType} {hh : List (Nat × Nat × Nat × Nat)}
    (hown : s.vm.findClass own = some m.cls) (hlink : (Cond.methodLink own index y).before args s = true) (hstat : (Cond.static y).before args s = true) (hinit : (Cond.initialized y.cls).before args s = true)
    (hcode : (Cond.codeWith y bytes maxL ret hh).before args s = true) (hy : y.cls ≠ "java/lang/invoke/MethodHandle" ∧ y.cls ≠ "java/lang/invoke/VarHandle")
    {W9 : Nat} {Pre : Pt → Array Value → Prop} {Post : Pt → Array Value → Option Value → Pt → Prop} {PostX : Pt → Array Value → Addr → Pt → Prop} (hK : vx_Back l R p e below s args y 3 W9 Pre Post PostX)
    {g : JFrame} (hg : g.method = m) (hsize : g.locals.size = c.maxLocals) {argsL rest : List Value} (hlen : ∀ sig, parseMethodDescriptor y.desc = some sig → argsL.length = sig.parameters.length)
    (hstack : g.stack = argsL.reverse ++ rest) (hW : 2 * g.monitorRoom + (rest.map fun v => v.category).sum ≤ W9) (hdg : decode c.code g.pc = .ok (.invokestatic index, 3))
    (hpre : ∀ vm₁, s.WarmedH vm₁ → Pre ⟨T.setVm vm₁, locs, cells, slots⟩ argsL.toArray) :
    (∃ (v : Option Value) (vm₁ : Vm) (B : Pt), s.WarmedH vm₁ ∧ Stand p l e R s m args below meth c B.U B.locs B.cells B.slots ∧ Post ⟨T.setVm vm₁, locs, cells, slots⟩ argsL.toArray v B ∧
      ∀ target, Steps p.tables e below (B.U.setTop { g with pc := g.pc + 3, stack := v.toList ++ rest }) target → Steps p.tables e below (T.setTop g) target) ∨
    (∃ (q : Addr) (vm₁ : Vm) (B : Pt), s.WarmedH vm₁ ∧ Stand p l e R s m args below meth c B.U B.locs B.cells B.slots ∧ PostX ⟨T.setVm vm₁, locs, cells, slots⟩ argsL.toArray q B ∧
      Steps p.tables e below (T.setTop g) ((B.U.setTop { g with stack := rest }).pushFrame (.throwing q))) := by
  obtain ⟨mk, methM, cM, hnamed, hmethM, -, -, -, -, -, -, hsigM⟩ := Cond.codeWith_spec hcode
  have hstatic : methM.isStatic = true := Cond.static_spec hnamed hmethM hstat
  obtain ⟨kP, hkP, -⟩ := className_of_methodNamed hnamed
  have hinitP : kP.init = .initialized := Cond.initialized_spec (findClass_of_methodNamed hnamed) hkP hinit
  obtain ⟨vm₁, X₁, hstep₁⟩ := X.invokestatic hexec hown hlink hnamed hmethM hstatic hkP hinitP hy (g := g) hg (argsL := argsL) (rest := rest) (hlen _ hsigM) hstack hdg
  rcases hK m meth c ⟨T.setVm vm₁, locs, cells, slots⟩ { g with stack := rest } (.invokestatic index) mk argsL.toArray X₁ hg hsize hdg hW (X₁.named hnamed) (hpre vm₁ X₁.warmed) with ⟨v, B, X', hpost, hsteps⟩ | ⟨q, B, X', hpost, hsteps⟩
  · exact Or.inl ⟨v, vm₁, B, X₁.warmed, X', hpost, fun target h => hstep₁ _ fun acts => by rw [doInvoke_state]; exact hsteps.trans h⟩
  · exact Or.inr ⟨q, vm₁, B, X₁.warmed, X', hpost, hstep₁ _ fun acts => by rw [doInvoke_state]; exact hsteps⟩
theorem vx_callVW (X : Stand p l e R s m args below meth c T locs cells slots) (hexec : p.tables.exec = Jvm.exec) {own C : String} {index : Nat} {y : MethodName} {bytes : ByteArray} {maxL : Nat} {ret : Option FieldType} {hh : List (Nat × Nat × Nat × Nat)}
    (hown : s.vm.findClass own = some m.cls) (hlink : (Cond.methodLink own index y).before args s = true) (hinst : (Cond.instanceMethod y).before args s = true) (hsel : (Cond.selects C y y).before args s = true)
    (hcode : (Cond.codeWith y bytes maxL ret hh).before args s = true) (hy : y.cls ≠ "java/lang/invoke/MethodHandle" ∧ y.cls ≠ "java/lang/invoke/VarHandle")
    {W9 : Nat} {Pre : Pt → Array Value → Prop} {Post : Pt → Array Value → Option Value → Pt → Prop} (hK : Back l R p e below s args y 3 W9 Pre Post)
    {b : Addr} {cellB : Cell} (hcell : T.heap[b]? = some cellB) (hobj : cellB.vm.isStatics = false) (hcls : s.vm.findClass C = some cellB.cls)
    {g : JFrame} (hg : g.method = m) (hsize : g.locals.size = c.maxLocals) {argsL rest : List Value} (hlen : ∀ sig, parseMethodDescriptor y.desc = some sig → argsL.length = sig.parameters.length)
    (hstack : g.stack = argsL.reverse ++ .ref b :: rest) (hW : 2 * g.monitorRoom + (rest.map fun v => v.category).sum ≤ W9) (hdg : decode c.code g.pc = .ok (.invokevirtual index, 3))
    (hpre : ∀ vm₁, s.WarmedH vm₁ → Pre ⟨T.setVm vm₁, locs, cells, slots⟩ (Value.ref b :: argsL).toArray) :
    ∃ (v : Option Value) (vm₁ : Vm) (B : Pt), s.WarmedH vm₁ ∧ Stand p l e R s m args below meth c B.U B.locs B.cells B.slots ∧ Post ⟨T.setVm vm₁, locs, cells, slots⟩ (Value.ref b :: argsL).toArray v B ∧
      ∀ target, Steps p.tables e below (B.U.setTop { g with pc := g.pc + 3, stack := v.toList ++ rest }) target → Steps p.tables e below (T.setTop g) target := by
  obtain ⟨mk, methM, hnamed, hmethM, hstM, habM⟩ := Cond.instanceMethod_spec hinst
  obtain ⟨m8, methM', cM, hn8, hmethM', -, -, -, -, -, -, hsigM⟩ := Cond.codeWith_spec hcode
  cases Option.some.inj (hn8.symm.trans hnamed)
  cases hmethM.symm.trans hmethM'
  obtain ⟨c2, r2, m2, q1, q2, q3, q4, kP, hkP, hkPi⟩ := Cond.selects_spec hsel
  cases hcls.symm.trans q1
  cases (State.methodFound?_of_named hnamed hy).symm.trans q2
  cases hnamed.symm.trans q3
  have hselP : selectMethod e.platform s.vm cellB.cls mk = .method mk := by rw [Launch.admits_selectMethod X.admits]; exact q4
  obtain ⟨vm₁, X₁, hstep₁⟩ := X.invokevirtual hexec hown hlink hnamed hmethM hstM hkP hkPi hy (a := b) (cell := cellB) hcell
    (fun z h => by rw [h] at hobj; cases hobj) hselP hmethM habM hkP hkPi (g := g) hg (argsL := argsL) (rest := rest) (hlen _ hsigM) hstack hdg
  obtain ⟨v, B, X', hpost, hsteps⟩ := hK m meth c ⟨T.setVm vm₁, locs, cells, slots⟩ { g with stack := rest } (.invokevirtual index) mk (Value.ref b :: argsL).toArray X₁ hg hsize hdg hW (X₁.named hnamed) (hpre vm₁ X₁.warmed)
  exact ⟨v, vm₁, B, X₁.warmed, X', hpost, fun target h => hstep₁ _ fun acts => by rw [doInvoke_state]; exact hsteps.trans h⟩
abbrev vx_CVW (R : Room) (s : State) (args : Array Value) (own C : String) (index : Nat) (y : MethodName) (bytes : ByteArray) (maxL : Nat) (ret : Option FieldType) (hh : List (Nat × Nat × Nat × Nat)) (ws : List Cond) (rm : Room) (mc ms n : Nat) : Prop :=
  (rm.cells = mc ∧ rm.slots = ms ∧ rm.frames + 1 ≤ R.frames ∧ 8 + (maxL + 11) + rm.locals ≤ R.locals ∧ (∀ w ∈ ws, ∀ (a' : Array Value) (U : State), s.WarmedH U.vm → w.before a' U = true) ∧ Cond.codeWith y bytes maxL ret hh ∈ ws) ∧
  (Cond.codeWith y bytes maxL ret hh).before args s = true ∧ (Cond.initialized y.cls).before args s = true ∧ (y.cls ≠ "java/lang/invoke/MethodHandle" ∧ y.cls ≠ "java/lang/invoke/VarHandle") ∧
  (∀ sig, parseMethodDescriptor y.desc = some sig → n = sig.parameters.length) ∧ (Cond.methodLink own index y).before args s = true ∧ (Cond.instanceMethod y).before args s = true ∧ (Cond.selects C y y).before args s = true
theorem vx_cwVW {own C : String} {index maxL mc ms : Nat} {y : MethodName} {bytes : ByteArray} {ret : Option FieldType} {hh : List (Nat × Nat × Nat × Nat)} {Ts ws ws' : List Cond} {rm : Room} (n : Nat) (ht : ∀ w ∈ Ts, w.before args s = true) (hT : GoodIn Ts (wsV own index C y ws)) (hw : ws = Cond.codeWith y bytes maxL ret hh :: ws') (hrc : rm.cells = mc) (hrs : rm.slots = ms)
    (hd : y.cls = C ∧ y.cls ≠ "java/lang/invoke/MethodHandle" ∧ y.cls ≠ "java/lang/invoke/VarHandle" ∧ (parseMethodDescriptor y.desc).map (fun d => d.parameters.length) = some n) (hR : rm.frames + 1 ≤ R.frames ∧ 8 + (maxL + 11) + rm.locals ≤ R.locals) :
    vx_CVW R s args own C index y bytes maxL ret hh ws rm mc ms n := by
  obtain ⟨hC, hd⟩ := hd
  subst hC
  have ok : ∀ w ∈ wsV own index y.cls y ws, w.before args s = true := fun w h => ht w (hT w h).1
  have hG : GoodIn Ts ws := fun w h => hT w (by unfold wsV; exact List.mem_append_right _ h)
  have hc : Cond.codeWith y bytes maxL ret hh ∈ ws := by rw [hw]; exact List.mem_cons_self
  refine ⟨⟨hrc, hrs, hR.1, hR.2, pay_in ht hG, hc⟩, ht _ (hG _ hc).1, ok _ (by simp [wsV]), ⟨hd.1, hd.2.1⟩, fun sig h => ?_, ok _ (by simp [wsV]), ok _ (by simp [wsV]), ok _ (by simp [wsV])⟩
  have h2 := hd.2.2
  rw [h] at h2
  exact (Option.some.inj h2).symm
theorem vx_runVW {y : MethodName} {bytes cc : ByteArray} {maxL nL mc ms n index : Nat} {ret : Option FieldType} {hh : List (Nat × Nat × Nat × Nat)} {ws : List Cond} {rm : Room} {Pc : Array Value → State → Prop} {Qc : Array Value → State → Outcome → State → Prop} {free : Addr → Prop} {Ts : List Cond} {own C : String} {b : Addr} {As rest : List Value} {g : JFrame}
    (S : CallFix p m c cc nL s args Ts own) (hM : Met l y ws rm Pc Qc mc ms free) (cw : vx_CVW R s args own C index y bytes maxL ret hh ws rm mc ms n) (hp : PreV s H C b Pc As)
    (hg : g.method = m) (hn : As.length = n) (hsize : g.locals.size = nL) (hstack : g.stack = As.reverse ++ .ref b :: rest) (hW : 2 * g.monitorRoom + (rest.map fun v => v.category).sum ≤ 8) (hdg : decode cc g.pc = .ok (.invokevirtual index, 3)) (hf : cells + mc ≤ R.cells ∧ slots + ms ≤ R.slots) :
    va_Run p l e R s m args below meth c H locs cells slots mc ms g rest (Qc (Value.ref b :: As).toArray) free := by
  obtain ⟨⟨hrc, hrs, hfr, hlo, hws, hcw⟩, hcode, hini, hy, hlen, hl, hin, hse⟩ := cw
  have hK : Back l R p e below s args y 3 8 (PreOf R mc ms Pc) (PostOf Qc mc ms free) := va_backW (hh := hh) (bytes := bytes) (maxL := maxL) (ret := ret) hM hp.1 hrc hrs hfr hlo hws hcw (fun a' U hW => word_at hW (Or.inl (by first | rfl | simp [Cond.onTables, Cond.keeps, Cond.steady])) hini)
  obtain ⟨hx, hb, hml, ho, -⟩ := S
  obtain ⟨-, ⟨cellB, hcB, hoB, hclB⟩, hPc⟩ := hp
  intro T hT X
  obtain ⟨v, vm₁, ⟨U', l2, c2, s2⟩, hW₁, X', ⟨g', mk, t, L, e1, e2, hq, h1, hL, h2, h3⟩, st⟩ := vx_callVW X hx (C := C) (hh := hh) (bytes := bytes) (maxL := maxL) (ret := ret) ho hl hin hse hcode hy hK (by rw [hT]; exact hcB) hoB hclB hg (hsize.trans hml.symm) (argsL := As) (rest := rest) (fun sig h => hn.trans (hlen sig h)) hstack hW (by rw [hb]; exact hdg)
    (fun vm₁ hW₁ => ⟨hf.1, hf.2, hPc (T.setVm vm₁) hT hW₁⟩)
  dsimp only [Pt.U, Pt.locs, Pt.cells, Pt.slots] at X' e1 e2 h1 h2 h3 st
  subst h1; subst h2; subst h3
  exact ⟨v, (T.setVm vm₁).calling g' mk (Value.ref b :: As).toArray, t, U', L, hT, X', hL, e1, e2, hq, st⟩
section
variable {y : MethodName} {bytes cc : ByteArray} {maxL nL mc ms n index : Nat} {ret : Option FieldType} {ws : List Cond} {rm : Room} {Pc : Array Value → State → Prop} {Qc : Array Value → State → Outcome → State → Prop} {XC : String → State → State → Prop} {free : Addr → Prop} {Ts : List Cond} {own C : String} {b : Addr} {As rest : List Value} {g : JFrame}
theorem vx_runVX {hh : List (Nat × Nat × Nat × Nat)} (S : CallFix p m c cc nL s args Ts own) (hM : vx_Met l y ws rm Pc Qc XC mc ms free) (cw : vx_CVW R s args own C index y bytes maxL ret hh ws rm mc ms n) (hp : PreV s H C b Pc As)
    (hg : g.method = m) (hn : As.length = n) (hsize : g.locals.size = nL) (hstack : g.stack = As.reverse ++ .ref b :: rest) (hW : 2 * g.monitorRoom + (rest.map fun v => v.category).sum ≤ 8) (hdg : decode cc g.pc = .ok (.invokevirtual index, 3)) (hf : cells + mc ≤ R.cells ∧ slots + ms ≤ R.slots) :
    vx_Run p l e R s m args below meth c H locs cells slots mc ms g rest (Qc (Value.ref b :: As).toArray) XC free := by
  obtain ⟨⟨hrc, hrs, hfr, hlo, hws, hcw⟩, hcode, hini, hy, hlen, hl, hin, hse⟩ := cw
  have hK : vx_Back l R p e below s args y 3 8 (PreOf R mc ms Pc) (PostOf Qc mc ms free) (vx_Post XC mc ms free) := vx_backW (hh := hh) (bytes := bytes) (maxL := maxL) (ret := ret) hM hp.1 hrc hrs hfr hlo hws hcw (fun a' U hW => word_at hW (Or.inl (by first | rfl | simp [Cond.onTables, Cond.keeps, Cond.steady])) hini)
  obtain ⟨hx, hb, hml, ho, -⟩ := S
  obtain ⟨-, ⟨cellB, hcB, hoB, hclB⟩, hPc⟩ := hp
  intro T hT X
  rcases vx_callVX X hx (C := C) (hh := hh) (bytes := bytes) (maxL := maxL) (ret := ret) ho hl hin hse hcode hy hK (by rw [hT]; exact hcB) hoB hclB hg (hsize.trans hml.symm) (argsL := As) (rest := rest) (fun sig h => hn.trans (hlen sig h)) hstack hW (by rw [hb]; exact hdg)
    (fun vm₁ hW₁ => ⟨hf.1, hf.2, hPc (T.setVm vm₁) hT hW₁⟩) with ⟨v, vm₁, ⟨U', l2, c2, s2⟩, hW₁, X', ⟨g', mk, t, L, e1, e2, hq, h1, hL, h2, h3⟩, st⟩ | ⟨q, vm₁, ⟨U', l2, c2, s2⟩, hW₁, X', ⟨g', mk, t, L, E, ce, e1, e2, hq, hce, hcv, hcl, h1, hL, h2, h3⟩, st⟩
  · dsimp only [Pt.U, Pt.locs, Pt.cells, Pt.slots] at X' e1 e2 h1 h2 h3 st
    subst h1; subst h2; subst h3
    exact Or.inl ⟨v, (T.setVm vm₁).calling g' mk (Value.ref b :: As).toArray, t, U', L, hT, X', hL, e1, e2, hq, st⟩
  · dsimp only [Pt.U, Pt.locs, Pt.cells, Pt.slots] at X' e1 e2 h1 h2 h3 st hcl
    subst h1; subst h2; subst h3
    exact Or.inr ⟨q, (T.setVm vm₁).calling g' mk (Value.ref b :: As).toArray, t, U', L, E, ce, hT, X', hL, e1, e2, hq, hce, hcv, vx_cls hW₁ hcl, st⟩
theorem vx_runSX {hh : List (Nat × Nat × Nat × Nat)} (S : CallFix p m c cc nL s args Ts own) (hM : vx_Met l y ws rm Pc Qc XC mc ms free) (cw : vx_CSW R s args own index y bytes maxL ret hh ws rm mc ms n) (hp : PreS s H Pc As)
    (hg : g.method = m) (hn : As.length = n) (hsize : g.locals.size = nL) (hstack : g.stack = As.reverse ++ rest) (hW : 2 * g.monitorRoom + (rest.map fun v => v.category).sum ≤ 8) (hdg : decode cc g.pc = .ok (.invokestatic index, 3)) (hf : cells + mc ≤ R.cells ∧ slots + ms ≤ R.slots) :
    vx_Run p l e R s m args below meth c H locs cells slots mc ms g rest (Qc As.toArray) XC free := by
  obtain ⟨⟨hrc, hrs, hfr, hlo, hws, hcw⟩, hcode, hini, hy, hlen, hl, hstt⟩ := cw
  have hK : vx_Back l R p e below s args y 3 8 (PreOf R mc ms Pc) (PostOf Qc mc ms free) (vx_Post XC mc ms free) := vx_backW (hh := hh) (bytes := bytes) (maxL := maxL) (ret := ret) hM hp.1 hrc hrs hfr hlo hws hcw (fun a' U hW => word_at hW (Or.inl (by first | rfl | simp [Cond.onTables, Cond.keeps, Cond.steady])) hini)
  obtain ⟨hx, hb, hml, ho, -⟩ := S
  intro T hT X
  rcases vx_callSX X hx (hh := hh) (bytes := bytes) (maxL := maxL) (ret := ret) ho hl hstt hini hcode hy hK hg (hsize.trans hml.symm) (argsL := As) (rest := rest) (fun sig h => hn.trans (hlen sig h)) hstack hW (by rw [hb]; exact hdg)
    (fun vm₁ hW₁ => ⟨hf.1, hf.2, hp.2 (T.setVm vm₁) hT hW₁⟩) with ⟨v, vm₁, ⟨U', l2, c2, s2⟩, hW₁, X', ⟨g', mk, t, L, e1, e2, hq, h1, hL, h2, h3⟩, st⟩ | ⟨q, vm₁, ⟨U', l2, c2, s2⟩, hW₁, X', ⟨g', mk, t, L, E, ce, e1, e2, hq, hce, hcv, hcl, h1, hL, h2, h3⟩, st⟩
  · dsimp only [Pt.U, Pt.locs, Pt.cells, Pt.slots] at X' e1 e2 h1 h2 h3 st
    subst h1; subst h2; subst h3
    exact Or.inl ⟨v, (T.setVm vm₁).calling g' mk As.toArray, t, U', L, hT, X', hL, e1, e2, hq, st⟩
  · dsimp only [Pt.U, Pt.locs, Pt.cells, Pt.slots] at X' e1 e2 h1 h2 h3 st hcl
    subst h1; subst h2; subst h3
    exact Or.inr ⟨q, (T.setVm vm₁).calling g' mk As.toArray, t, U', L, E, ce, hT, X', hL, e1, e2, hq, hce, hcv, vx_cls hW₁ hcl, st⟩
end
end VXH
theorem vx_ofWH {l : Launch} {y : MethodName} {ws ws' : List Cond} {rm : Room} {Pc : Array Value → State → Prop} {Qc : Array Value → State → Outcome → State → Prop} {XC : String → State → State → Prop} {mc ms : Nat} {free : Addr → Prop} {cc : ByteArray} {maxL : Nat} {ret : Option FieldType} {hh : List (Nat × Nat × Nat × Nat)}
    (hy : plainName y.cls = true) (hw : ws = Cond.codeWith y cc maxL ret hh :: ws')
    (body : ∀ p e s m args below meth c s₁, BodyLoose p l y (headSpec ws rm) cc maxL ret e s m args below meth c s₁ → c.maxLocals = maxL → Pc args s →
      W p l e (headSpec ws rm).room s m args below meth c s.heap [] 0 0 (vx_MQ below Qc XC args s mc ms free) (entryFrame m args maxL)) : vx_Met l y ws rm Pc Qc XC mc ms free := by
  refine MetFree.of_bodyS (code := cc) (maxLocals := maxL) (ret := ret) hy ?_ ?_
  · intro args s m h hn
    obtain ⟨m9, meth, c, hn9, h1, h2, h3, h4, -, h5, h6, -⟩ := Cond.codeWith_spec (atoms_spec (ws := ws) h _ (by rw [hw]; exact List.mem_cons_self))
    cases hn.symm.trans hn9
    exact ⟨meth, c, h1, h2, h3, h4, h5, h6⟩
  · intro p e s m args below meth c s₁ B hml hP _
    have hh0 : s₁.heap = s.heap := by rw [B.state]; rfl
    obtain ⟨t, a1, o, b1, b2, b3⟩ := body p e s m args below meth c s₁ B hml hP s₁ hh0 (Stand.of_body B)
    exact ⟨t, o, a1, b1, b2, b3⟩
/-! ===== END ===== -/
end
section
def nthD {α : Type} : List α → Nat → α → α
  | [], _, d => d
  | x :: _, 0, _ => x
  | _ :: r, n + 1, d => nthD r n d
def jmp (o : Int) : Nat := o.toNat
end
section
/-! SM: the program: rows of every method, linked ahead (printed by a program of mine out of the Statement's bytes and words) -/
/-- ArchEnds$Broker.<init>()V -/
noncomputable def cd_0 : List (Nat × Instr) := [(0, .aload 0), (1, .monitorexit), (4, .return_)]
/-- ArchEnds$Broker.copyFrom(LArchEnds$Broker;)V -/
noncomputable def cd_1 : List (Nat × Instr) := [(0, .aload 0), (1, .aload 1), (2, .getfield 0), (5, .putfield 0), (8, .aload 0), (9, .aload 1), (10, .getfield 10), (13, .putfield 10), (16, .aload 0), (17, .aload 1), (18, .getfield 20), (21, .putfield 20), (24, .return_)]
/-- ArchEnds$Broker.earn(I)V -/
noncomputable def cd_2 : List (Nat × Instr) := [(0, .aload 0), (1, .aload 0), (2, .getfield 0), (5, .iload 1), (6, .iadd), (7, .iconst 9999), (10, .if_icmp .le 19), (13, .iconst 9999), (16, .goto 25), (19, .aload 0), (20, .getfield 0), (23, .iload 1), (24, .iadd), (25, .jsr 3), (25, .putfield 0), (28, .return_)]
/-- ArchEnds$Broker.minutesTo(I)I -/
noncomputable def cd_3 : List (Nat × Instr) := [(0, .aload 0), (1, .getfield 10), (4, .iload 1), (5, .invokedynamic 1409921), (8, .istore 2), (9, .aload 0), (10, .getfield 20), (13, .iconst 1), (14, .if_icmp .ge 21), (17, .iload 2), (18, .goto 34), (21, .jsr 2), (21, .iload 2), (22, .aload 0), (23, .getfield 20), (26, .iadd), (27, .iconst 1), (28, .isub), (29, .aload 0), (30, .getfield 20), (33, .idiv), (34, .jsr 7), (34, .ireturn)]
/-- ArchEnds$County.<init>()V -/
noncomputable def cd_4 : List (Nat × Instr) := [(0, .aload 0), (1, .monitorexit), (4, .aload 0), (5, .iconst 6), (7, .anewarray 8), (10, .putfield 1001), (13, .aload 0), (14, .iconst 5), (15, .anewarray 0), (18, .putfield 1011), (21, .aload 0), (22, .iconst 8), (24, .anewarray 2), (27, .putfield 1021), (30, .aload 0), (31, .new 5), (34, .dup), (35, .invokespecial 509910), (38, .putfield 1031), (41, .aload 0), (42, .iconst 8), (44, .putfield 1080), (47, .aload 0), (48, .iconst 5), (49, .putfield 1090), (52, .aload 0), (53, .iconst 1), (54, .putfield 1110), (57, .aload 0), (58, .iconst 8), (60, .newarray .int), (62, .putfield 1131), (65, .iconst 0), (66, .istore 1), (100067, .goto_w 67), (67, .iload 1), (68, .aload 0), (69, .getfield 1001), (72, .arraylength), (73, .if_icmp .ge 95), (76, .aload 0), (77, .getfield 1001), (80, .iload 1), (81, .new 8), (84, .dup), (85, .invokespecial 939910), (88, .aastore), (89, .iinc 1 1), (92, .goto 67), (95, .jsr 2), (95, .iconst 0), (96, .istore 1), (100097, .goto_w 97), (97, .iload 1), (98, .aload 0), (99, .getfield 1011), (102, .arraylength), (103, .if_icmp .ge 125), (106, .aload 0), (107, .getfield 1011), (110, .iload 1), (111, .new 0), (114, .dup), (115, .invokespecial 9910), (118, .aastore), (119, .iinc 1 1), (122, .goto 97), (125, .jsr 2), (125, .iconst 0), (126, .istore 1), (100127, .goto_w 127), (127, .iload 1), (128, .aload 0), (129, .getfield 1021), (132, .arraylength), (133, .if_icmp .ge 155), (136, .aload 0), (137, .getfield 1021), (140, .iload 1), (141, .new 2), (144, .dup), (145, .invokespecial 219910), (148, .aastore), (149, .iinc 1 1), (152, .goto 127), (155, .jsr 3), (155, .return_)]
/-- ArchEnds$County.worthOf(I)I -/
noncomputable def cd_5 : List (Nat × Instr) := [(0, .aload 0), (1, .getfield 1011), (4, .iload 1), (5, .aaload), (6, .getfield 0), (9, .istore 2), (10, .iconst 0), (11, .istore 3), (100012, .goto_w 12), (12, .iload 3), (13, .aload 0), (14, .getfield 1060), (17, .if_icmp .ge 51), (20, .aload 0), (21, .getfield 1021), (24, .iload 3), (25, .aaload), (26, .getfield 2040), (29, .iload 1), (30, .if_icmp .ne 45), (33, .iload 2), (34, .aload 0), (35, .getfield 1021), (38, .iload 3), (39, .aaload), (40, .getfield 2030), (43, .iadd), (44, .istore 2), (45, .iinc 3 1), (48, .goto 12), (51, .jsr 11), (51, .iload 2), (52, .ireturn)]
/-- ArchEnds$County.copyFrom(LArchEnds$County;)V -/
noncomputable def cd_6 : List (Nat × Instr) := [(0, .iconst 0), (1, .istore 2), (100002, .goto_w 2), (2, .iload 2), (3, .aload 0), (4, .getfield 1001), (7, .arraylength), (8, .if_icmp .ge 32), (11, .aload 0), (12, .getfield 1001), (15, .iload 2), (16, .aaload), (17, .aload 1), (18, .getfield 1001), (21, .iload 2), (22, .aaload), (23, .invokevirtual 940820), (26, .iinc 2 1), (29, .goto 2), (32, .jsr 4), (32, .iconst 0), (33, .istore 2), (100034, .goto_w 34), (34, .iload 2), (35, .aload 0), (36, .getfield 1011), (39, .arraylength), (40, .if_icmp .ge 64), (43, .aload 0), (44, .getfield 1011), (47, .iload 2), (48, .aaload), (49, .aload 1), (50, .getfield 1011), (53, .iload 2), (54, .aaload), (55, .invokevirtual 10020), (58, .iinc 2 1), (61, .goto 34), (64, .jsr 4), (64, .iconst 0), (65, .istore 2), (100066, .goto_w 66), (66, .iload 2), (67, .aload 0), (68, .getfield 1021), (71, .arraylength), (72, .if_icmp .ge 96), (75, .aload 0), (76, .getfield 1021), (79, .iload 2), (80, .aaload), (81, .aload 1), (82, .getfield 1021), (85, .iload 2), (86, .aaload), (87, .invokevirtual 220220), (90, .iinc 2 1), (93, .goto 66), (96, .jsr 4), (96, .aload 0), (97, .getfield 1031), (100, .aload 1), (101, .getfield 1031), (104, .invokevirtual 510520), (107, .aload 0), (108, .aload 1), (109, .getfield 1040), (112, .putfield 1040), (115, .aload 0), (116, .aload 1), (117, .getfield 1050), (120, .putfield 1050), (123, .aload 0), (124, .aload 1), (125, .getfield 1060), (128, .putfield 1060), (131, .aload 0), (132, .aload 1), (133, .getfield 1070), (136, .putfield 1070), (139, .aload 0), (140, .aload 1), (141, .getfield 1080), (144, .putfield 1080), (147, .aload 0), (148, .aload 1), (149, .getfield 1090), (152, .putfield 1090), (155, .aload 0), (156, .aload 1), (157, .getfield 1100), (160, .putfield 1100), (163, .aload 0), (164, .aload 1), (165, .getfield 1110), (168, .putfield 1110), (171, .aload 0), (172, .aload 1), (173, .getfield 1123), (176, .putfield 1121), (179, .return_)]
/-- ArchEnds$County.pursesTogether()I -/
noncomputable def cd_7 : List (Nat × Instr) := [(0, .iconst 0), (1, .istore 1), (2, .iconst 0), (3, .istore 2), (100004, .goto_w 4), (4, .iload 2), (5, .aload 0), (6, .getfield 1050), (9, .if_icmp .ge 30), (12, .iload 1), (13, .aload 0), (14, .getfield 1011), (17, .iload 2), (18, .aaload), (19, .getfield 0), (22, .iadd), (23, .istore 1), (24, .iinc 2 1), (27, .goto 4), (30, .jsr 5), (30, .iload 1), (31, .ireturn)]
/-- ArchEnds$County.ownedDeeds()I -/
noncomputable def cd_8 : List (Nat × Instr) := [(0, .iconst 0), (1, .istore 1), (2, .iconst 0), (3, .istore 2), (100004, .goto_w 4), (4, .iload 2), (5, .aload 0), (6, .getfield 1060), (9, .if_icmp .ge 37), (12, .aload 0), (13, .getfield 1021), (16, .iload 2), (17, .aaload), (18, .getfield 2040), (21, .iconst (-1)), (22, .if_icmp .eq 31), (25, .iload 1), (26, .iconst 1), (27, .iload 2), (28, .ishl), (29, .ior), (30, .istore 1), (31, .iinc 2 1), (34, .goto 4), (37, .jsr 5), (37, .iload 1), (38, .ireturn)]
/-- ArchEnds$County.walkOf(I)I -/
noncomputable def cd_9 : List (Nat × Instr) := [(0, .aload 0), (1, .getfield 1011), (4, .iload 1), (5, .aaload), (6, .getfield 20), (9, .aload 0), (10, .getstatic 16), (13, .aload 0), (14, .getfield 1011), (17, .iload 1), (18, .aaload), (19, .getfield 10), (22, .aload 0), (23, .getfield 1100), (26, .iload 1), (27, .invokevirtual 100151), (30, .isub), (31, .istore 2), (32, .iload 2), (33, .ifCond .ge 40), (36, .iconst 0), (37, .goto 41), (40, .jsr 3), (40, .iload 2), (41, .jsr 7), (41, .ireturn)]
/-- ArchEnds$County.judge(LArchEnds$Sign;III)I -/
noncomputable def cd_10 : List (Nat × Instr) := [(0, .aload 0), (1, .getfield 1123), (4, .ifnonnull 9), (7, .iconst 0), (8, .ireturn), (9, .jsr 96), (9, .iload 3), (10, .invokedynamic 1269911), (13, .istore 5), (15, .aload 0), (16, .iload 2), (17, .iload 3), (18, .invokevirtual 110131), (21, .invokestatic 3259911), (24, .istore 6), (26, .aload 0), (27, .getfield 1131), (30, .getstatic 18), (33, .getfield 9010), (36, .iconst 1000), (39, .isub), (40, .iload 2), (41, .iastore), (42, .aload 0), (43, .getfield 1131), (46, .getstatic 19), (49, .getfield 9010), (52, .iconst 1000), (55, .isub), (56, .iload 3), (57, .invokedynamic 1279911), (60, .iastore), (61, .aload 0), (62, .getfield 1131), (65, .getstatic 20), (68, .getfield 9010), (71, .iconst 1000), (74, .isub), (75, .iload 5), (77, .iconst (-1)), (78, .if_icmp .ne 85), (81, .iconst 0), (82, .goto 87), (85, .iload 5), (87, .jsr 32), (87, .iastore), (88, .aload 0), (89, .getfield 1131), (92, .getstatic 21), (95, .getfield 9010), (98, .iconst 1000), (101, .isub), (102, .iload 3), (103, .iconst 96), (105, .irem), (106, .iastore), (107, .aload 0), (108, .getfield 1131), (111, .getstatic 22), (114, .getfield 9010), (117, .iconst 1000), (120, .isub), (121, .iload 6), (123, .iastore), (124, .aload 0), (125, .getfield 1131), (128, .getstatic 23), (131, .getfield 9010), (134, .iconst 1000), (137, .isub), (138, .iload 4), (140, .iastore), (141, .aload 0), (142, .getfield 1131), (145, .getstatic 24), (148, .getfield 9010), (151, .iconst 1000), (154, .isub), (155, .iload 6), (157, .ifCond .le 164), (160, .iconst 1), (161, .goto 165), (164, .jsr 112), (164, .iconst 0), (165, .jsr 112), (165, .iastore), (166, .aload 0), (167, .getfield 1131), (170, .getstatic 25), (173, .getfield 9010), (176, .iconst 1000), (179, .isub), (180, .aload 0), (181, .iload 2), (182, .iload 3), (183, .invokevirtual 120131), (186, .ifCond .eq 193), (189, .iconst 1), (190, .goto 194), (193, .jsr 124), (193, .iconst 0), (194, .jsr 124), (194, .iastore), (195, .aload 0), (196, .getfield 1123), (199, .aload 1), (200, .aload 0), (201, .getfield 1131), (204, .invokevirtual 480431), (207, .ireturn)]
/-- ArchEnds$County.wettersOf(II)I -/
noncomputable def cd_11 : List (Nat × Instr) := [(0, .iconst 0), (1, .istore 3), (2, .iconst 0), (3, .istore 4), (100005, .goto_w 5), (5, .iload 4), (7, .aload 0), (8, .getfield 1040), (11, .if_icmp .ge 59), (14, .aload 0), (15, .getfield 1001), (18, .iload 4), (20, .aaload), (21, .getfield 8060), (24, .iconst 2), (25, .if_icmp .eq 53), (28, .aload 0), (29, .getfield 1001), (32, .iload 4), (34, .aaload), (35, .iload 2), (36, .invokevirtual 950821), (39, .iload 1), (40, .invokedynamic 1289921), (43, .ifCond .eq 53), (46, .iload 3), (47, .iconst 1), (48, .iload 4), (50, .ishl), (51, .ior), (52, .istore 3), (53, .iinc 4 1), (56, .goto 5), (59, .jsr 23), (59, .iload 3), (60, .ireturn)]
/-- ArchEnds$County.isOwned(II)Z -/
noncomputable def cd_12 : List (Nat × Instr) := [(0, .iconst 0), (1, .istore 3), (100002, .goto_w 2), (2, .iload 3), (3, .aload 0), (4, .getfield 1060), (7, .if_icmp .ge 57), (10, .aload 0), (11, .getfield 1021), (14, .iload 3), (15, .aaload), (16, .getfield 2040), (19, .iconst (-1)), (20, .if_icmp .eq 51), (23, .aload 0), (24, .getfield 1021), (27, .iload 3), (28, .aaload), (29, .getfield 2000), (32, .iload 1), (33, .if_icmp .ne 51), (36, .aload 0), (37, .getfield 1021), (40, .iload 3), (41, .aaload), (42, .iload 2), (43, .invokevirtual 230221), (46, .ifCond .eq 51), (49, .iconst 1), (50, .freturn), (51, .iinc 3 1), (54, .goto 2), (57, .jsr 15), (57, .iconst 0), (58, .freturn)]
/-- ArchEnds$County.deedsOf(I)I -/
noncomputable def cd_13 : List (Nat × Instr) := [(0, .iconst 0), (1, .istore 2), (2, .iconst 0), (3, .istore 3), (100004, .goto_w 4), (4, .iload 3), (5, .aload 0), (6, .getfield 1060), (9, .if_icmp .ge 37), (12, .aload 0), (13, .getfield 1021), (16, .iload 3), (17, .aaload), (18, .getfield 2040), (21, .iload 1), (22, .if_icmp .ne 31), (25, .iload 2), (26, .iconst 1), (27, .iload 3), (28, .ishl), (29, .ior), (30, .istore 2), (31, .iinc 3 1), (34, .goto 4), (37, .jsr 11), (37, .iload 2), (38, .ireturn)]
/-- ArchEnds$County.costFor(II)I -/
noncomputable def cd_14 : List (Nat × Instr) := [(0, .aload 0), (1, .getfield 1021), (4, .iload 2), (5, .aaload), (6, .getfield 2030), (9, .aload 0), (10, .getstatic 14), (13, .aload 0), (14, .getfield 1021), (17, .iload 2), (18, .aaload), (19, .getfield 2000), (22, .aload 0), (23, .getfield 1100), (26, .iload 1), (27, .invokevirtual 100151), (30, .iadd), (31, .ireturn)]
/-- ArchEnds$County.payFor(III)I -/
noncomputable def cd_15 : List (Nat × Instr) := [(0, .aload 0), (1, .getfield 1090), (4, .aload 0), (5, .getstatic 15), (8, .aload 0), (9, .getfield 1021), (12, .iload 2), (13, .aaload), (14, .getfield 2000), (17, .iload 3), (18, .iload 1), (19, .invokevirtual 100151), (22, .iadd), (23, .ireturn)]
/-- ArchEnds$County.ownerOf(LArchEnds$Deed;)LArchEnds$Broker; -/
noncomputable def cd_16 : List (Nat × Instr) := [(0, .aload 1), (1, .getfield 2040), (4, .ifCond .lt 18), (7, .aload 1), (8, .getfield 2040), (11, .aload 0), (12, .getfield 1050), (15, .if_icmp .lt 22), (18, .jsr 3), (18, .aconst_null), (19, .goto 31), (22, .aload 0), (23, .getfield 1011), (26, .aload 1), (27, .getfield 2040), (30, .aaload), (31, .jsr 3), (31, .areturn)]
/-- ArchEnds$County.passMinutes(IZ)I -/
noncomputable def cd_17 : List (Nat × Instr) := [(0, .iconst 0), (1, .istore 3), (2, .iconst 0), (3, .istore 4), (100005, .goto_w 5), (5, .iload 4), (7, .iload 1), (8, .if_icmp .ge 52), (11, .iload 2), (12, .ifCond .eq 19), (15, .aload 0), (16, .invokevirtual 180110), (19, .iload 3), (20, .aload 0), (21, .invokevirtual 190111), (24, .iadd), (25, .istore 3), (26, .aload 0), (27, .getfield 1100), (30, .iconst 9999), (33, .if_icmp .ge 46), (36, .aload 0), (37, .dup), (38, .getfield 1100), (41, .iconst 1), (42, .iadd), (43, .putfield 1100), (46, .iinc 4 1), (49, .goto 5), (52, .jsr 23), (52, .iload 3), (53, .ireturn)]
/-- ArchEnds$County.drawShowers()V -/
noncomputable def cd_18 : List (Nat × Instr) := [(0, .iconst 0), (1, .istore 1), (100002, .goto_w 2), (2, .jsr 4), (2, .iload 1), (3, .aload 0), (4, .getfield 1040), (7, .if_icmp .ge 101), (10, .aload 0), (11, .getfield 1001), (14, .iload 1), (15, .aaload), (16, .getfield 8060), (19, .ifCond .ne 95), (22, .aload 0), (23, .getfield 1001), (26, .iload 1), (27, .aaload), (28, .getfield 8020), (31, .aload 0), (32, .getfield 1100), (35, .if_icmp .ne 95), (38, .aload 0), (39, .iconst 1103515245), (41, .aload 0), (42, .getfield 1110), (45, .imul), (46, .iconst 12345), (49, .iadd), (50, .putfield 1110), (53, .aload 0), (54, .getfield 1110), (57, .iconst 16), (59, .iushr), (60, .iconst 32767), (63, .iand), (64, .istore 2), (65, .aload 0), (66, .getfield 1001), (69, .iload 1), (70, .aaload), (71, .iload 2), (72, .iconst 100), (74, .irem), (75, .aload 0), (76, .getfield 1001), (79, .iload 1), (80, .aaload), (81, .getfield 8050), (84, .if_icmp .ge 91), (87, .iconst 1), (88, .goto 92), (91, .jsr 4), (91, .iconst 2), (92, .jsr 4), (92, .putfield 8060), (95, .jsr 4), (95, .iinc 1 1), (98, .goto 2), (101, .jsr 7), (101, .return_)]
/-- ArchEnds$County.settleDeeds()I -/
noncomputable def cd_19 : List (Nat × Instr) := [(0, .iconst 0), (1, .istore 1), (2, .aload 0), (3, .aload 0), (4, .getfield 1080), (7, .aload 0), (8, .getfield 1100), (11, .invokevirtual 200131), (14, .istore 2), (15, .iconst 0), (16, .istore 3), (100017, .goto_w 17), (17, .jsr 112), (17, .iload 3), (18, .aload 0), (19, .getfield 1060), (22, .if_icmp .ge 166), (25, .aload 0), (26, .getfield 1021), (29, .iload 3), (30, .aaload), (31, .astore 4), (33, .aload 0), (34, .aload 4), (36, .invokevirtual 160123), (39, .astore 5), (41, .aload 5), (43, .ifnull 160), (46, .aload 4), (48, .aload 0), (49, .getfield 1100), (52, .invokevirtual 230221), (55, .ifCond .ne 61), (58, .goto 160), (61, .jsr 64), (61, .aload 4), (63, .getfield 2000), (66, .iload 2), (67, .if_icmp .ne 122), (70, .aload 0), (71, .aload 4), (73, .getfield 2040), (76, .iload 3), (77, .aload 0), (78, .getfield 1100), (81, .invokevirtual 150141), (84, .istore 6), (86, .aload 4), (88, .dup), (89, .getfield 2050), (92, .iconst 1), (93, .iadd), (94, .putfield 2050), (97, .aload 5), (99, .iload 6), (101, .invokevirtual 20020), (104, .aload 0), (105, .getfield 1031), (108, .aload 0), (109, .getfield 1100), (112, .iload 3), (113, .iload 2), (114, .iload 6), (116, .invokevirtual 520550), (119, .iinc 1 1), (122, .jsr 64), (122, .aload 4), (124, .getfield 2060), (127, .ifCond .eq 160), (130, .aload 4), (132, .getfield 2020), (135, .aload 0), (136, .getfield 1100), (139, .if_icmp .ne 160), (142, .aload 4), (144, .getfield 2050), (147, .ifCond .ne 160), (150, .aload 5), (152, .aload 4), (154, .getfield 2030), (157, .invokevirtual 20020), (160, .jsr 112), (160, .iinc 3 1), (163, .goto 17), (166, .jsr 125), (166, .iload 1), (167, .ireturn)]
/-- ArchEnds$County.archFrom(II)I -/
noncomputable def cd_20 : List (Nat × Instr) := [(0, .iload 1), (1, .iload 2), (2, .invokedynamic 1459921), (5, .istore 3), (6, .iload 3), (7, .iconst (-1)), (8, .if_icmp .eq 20), (11, .aload 0), (12, .iload 3), (13, .iload 2), (14, .invokevirtual 110131), (17, .ifCond .ne 24), (20, .jsr 15), (20, .iconst (-1)), (21, .goto 25), (24, .jsr 7), (24, .iload 3), (25, .jsr 15), (25, .ireturn)]
/-- ArchEnds$Deed.<init>()V -/
noncomputable def cd_21 : List (Nat × Instr) := [(0, .aload 0), (1, .monitorexit), (4, .aload 0), (5, .iconst (-1)), (6, .putfield 2040), (9, .return_)]
/-- ArchEnds$Deed.copyFrom(LArchEnds$Deed;)V -/
noncomputable def cd_22 : List (Nat × Instr) := [(0, .aload 0), (1, .aload 1), (2, .getfield 2000), (5, .putfield 2000), (8, .aload 0), (9, .aload 1), (10, .getfield 2010), (13, .putfield 2010), (16, .aload 0), (17, .aload 1), (18, .getfield 2020), (21, .putfield 2020), (24, .aload 0), (25, .aload 1), (26, .getfield 2030), (29, .putfield 2030), (32, .aload 0), (33, .aload 1), (34, .getfield 2040), (37, .putfield 2040), (40, .aload 0), (41, .aload 1), (42, .getfield 2050), (45, .putfield 2050), (48, .aload 0), (49, .aload 1), (50, .getfield 2060), (53, .putfield 2062), (56, .return_)]
/-- ArchEnds$Deed.has(I)Z -/
noncomputable def cd_23 : List (Nat × Instr) := [(0, .aload 0), (1, .getfield 2010), (4, .iload 1), (5, .if_icmp .gt 20), (8, .iload 1), (9, .aload 0), (10, .getfield 2020), (13, .if_icmp .gt 20), (16, .iconst 1), (17, .goto 21), (20, .jsr 3), (20, .iconst 0), (21, .jsr 3), (21, .freturn)]
/-- ArchEnds$Forecast.<init>(LArchEnds$County;)V -/
noncomputable def cd_24 : List (Nat × Instr) := [(0, .aload 0), (1, .monitorexit), (4, .aload 0), (5, .iconst 16), (7, .newarray .int), (9, .putfield 3011), (12, .aload 0), (13, .aload 1), (14, .putfield 3001), (17, .return_)]
/-- ArchEnds$Forecast.minutesToDry()I -/
noncomputable def cd_25 : List (Nat × Instr) := [(0, .iconst 0), (1, .istore 1), (2, .iconst 0), (3, .istore 2), (100004, .goto_w 4), (4, .jsr 24), (4, .iload 2), (5, .aload 0), (6, .getfield 3001), (9, .getfield 1040), (12, .if_icmp .ge 64), (15, .aload 0), (16, .getfield 3001), (19, .getfield 1001), (22, .iload 2), (23, .aaload), (24, .astore 3), (25, .aload 3), (26, .getfield 8030), (29, .iconst 1), (30, .iadd), (31, .aload 0), (32, .getfield 3001), (35, .getfield 1100), (38, .isub), (39, .istore 4), (41, .aload 3), (42, .getfield 8060), (45, .iconst 2), (46, .if_icmp .eq 58), (49, .iload 4), (51, .iload 1), (52, .if_icmp .le 58), (55, .iload 4), (57, .istore 1), (58, .jsr 24), (58, .iinc 2 1), (61, .goto 4), (64, .jsr 29), (64, .iload 1), (65, .iconst 200), (68, .if_icmp .le 75), (71, .iconst (-1)), (72, .goto 76), (75, .jsr 29), (75, .iload 1), (76, .jsr 31), (76, .ireturn)]
/-- ArchEnds$Forecast.looksAt(II)I -/
noncomputable def cd_26 : List (Nat × Instr) := [(0, .iconst 0), (1, .istore 3), (2, .iconst 0), (3, .istore 4), (100005, .goto_w 5), (5, .iload 4), (7, .iconst 16), (9, .if_icmp .ge 39), (12, .aload 0), (13, .getfield 3001), (16, .iload 4), (18, .iload 2), (19, .invokevirtual 200131), (22, .iload 1), (23, .if_icmp .ne 33), (26, .iload 3), (27, .iconst 1), (28, .iload 4), (30, .ishl), (31, .ior), (32, .istore 3), (33, .iinc 4 1), (36, .goto 5), (39, .jsr 23), (39, .iload 3), (40, .ireturn)]
/-- ArchEnds$Forecast.standsOn(III)I -/
noncomputable def cd_27 : List (Nat × Instr) := [(0, .iconst 0), (1, .istore 4), (3, .iload 2), (4, .istore 5), (100006, .goto_w 6), (6, .iload 5), (8, .iload 2), (9, .iload 3), (10, .iadd), (11, .if_icmp .ge 43), (14, .aload 0), (15, .getfield 3001), (18, .aload 0), (19, .getfield 3001), (22, .getfield 1080), (25, .iload 5), (27, .invokevirtual 200131), (30, .iload 1), (31, .if_icmp .ne 37), (34, .iinc 4 1), (37, .iinc 5 1), (40, .goto 6), (43, .jsr 47), (43, .iload 4), (45, .ireturn)]
/-- ArchEnds$Forecast.bestAcre(II)I -/
noncomputable def cd_28 : List (Nat × Instr) := [(0, .aload 0), (1, .invokevirtual 290310), (4, .iload 1), (5, .istore 3), (100006, .goto_w 6), (6, .jsr 16), (6, .iload 3), (7, .iload 1), (8, .iload 2), (9, .iadd), (10, .if_icmp .ge 53), (13, .aload 0), (14, .getfield 3001), (17, .aload 0), (18, .getfield 3001), (21, .getfield 1080), (24, .iload 3), (25, .invokevirtual 200131), (28, .istore 4), (30, .iload 4), (32, .iconst (-1)), (33, .if_icmp .eq 47), (36, .aload 0), (37, .getfield 3011), (40, .iload 4), (42, .dup2), (43, .iaload), (44, .iconst 1), (45, .iadd), (46, .iastore), (47, .jsr 16), (47, .iinc 3 1), (50, .goto 6), (53, .jsr 30), (53, .aload 0), (54, .invokevirtual 300311), (57, .ireturn)]
/-- ArchEnds$Forecast.clearStood()V -/
noncomputable def cd_29 : List (Nat × Instr) := [(0, .iconst 0), (1, .istore 1), (100002, .goto_w 2), (2, .iload 1), (3, .iconst 16), (5, .if_icmp .ge 21), (8, .aload 0), (9, .getfield 3011), (12, .iload 1), (13, .iconst 0), (14, .iastore), (15, .iinc 1 1), (18, .goto 2), (21, .jsr 3), (21, .return_)]
/-- ArchEnds$Forecast.firstOfMost()I -/
noncomputable def cd_30 : List (Nat × Instr) := [(0, .iconst 0), (1, .istore 1), (2, .iconst 1), (3, .istore 2), (100004, .goto_w 4), (4, .iload 2), (5, .iconst 16), (7, .if_icmp .ge 33), (10, .aload 0), (11, .getfield 3011), (14, .iload 2), (15, .iaload), (16, .aload 0), (17, .getfield 3011), (20, .iload 1), (21, .iaload), (22, .if_icmp .le 27), (25, .iload 2), (26, .istore 1), (27, .iinc 2 1), (30, .goto 4), (33, .jsr 5), (33, .iload 1), (34, .ireturn)]
/-- ArchEnds$Forecast.firstOn(II)I -/
noncomputable def cd_31 : List (Nat × Instr) := [(0, .iload 2), (1, .istore 3), (100002, .goto_w 2), (2, .iload 3), (3, .iload 2), (4, .iconst 200), (7, .iadd), (8, .if_icmp .ge 38), (11, .aload 0), (12, .getfield 3001), (15, .aload 0), (16, .getfield 3001), (19, .getfield 1080), (22, .iload 3), (23, .invokevirtual 200131), (26, .iload 1), (27, .if_icmp .ne 32), (30, .iload 3), (31, .ireturn), (32, .iinc 3 1), (35, .goto 2), (38, .jsr 15), (38, .iconst (-1)), (39, .ireturn)]
/-- ArchEnds$Forecast.siteOf(III)I -/
noncomputable def cd_32 : List (Nat × Instr) := [(0, .aload 0), (1, .invokevirtual 290310), (4, .iload 2), (5, .istore 4), (100007, .goto_w 7), (7, .iload 4), (9, .iload 2), (10, .iload 3), (11, .iadd), (12, .if_icmp .ge 41), (15, .aload 0), (16, .getfield 3001), (19, .iload 1), (20, .iload 4), (22, .invokevirtual 110131), (25, .ifCond .eq 35), (28, .aload 0), (29, .iload 1), (30, .iload 4), (32, .invokevirtual 330330), (35, .iinc 4 1), (38, .goto 7), (41, .jsr 30), (41, .aload 0), (42, .invokevirtual 300311), (45, .ireturn)]
/-- ArchEnds$Forecast.countRoadsTo(II)V -/
noncomputable def cd_33 : List (Nat × Instr) := [(0, .iconst 0), (1, .istore 3), (100002, .goto_w 2), (2, .iload 3), (3, .iconst 16), (5, .if_icmp .ge 33), (8, .iload 3), (9, .iload 2), (10, .invokedynamic 1459921), (13, .iload 1), (14, .if_icmp .ne 27), (17, .aload 0), (18, .getfield 3011), (21, .iload 3), (22, .dup2), (23, .iaload), (24, .iconst 1), (25, .iadd), (26, .iastore), (27, .iinc 3 1), (30, .goto 2), (33, .jsr 15), (33, .return_)]
/-- ArchEnds$Forecast.oddsOf(II)I -/
noncomputable def cd_34 : List (Nat × Instr) := [(0, .lconst 1), (1, .lstore 3), (2, .lconst 1), (3, .lstore 5), (5, .iconst 0), (6, .istore 7), (100008, .goto_w 8), (8, .jsr 256), (8, .iload 7), (10, .aload 0), (11, .getfield 3001), (14, .getfield 1040), (17, .if_icmp .ge 93), (20, .aload 0), (21, .getfield 3001), (24, .getfield 1001), (27, .iload 7), (29, .aaload), (30, .astore 8), (32, .aload 8), (34, .getfield 8060), (37, .iconst 2), (38, .if_icmp .eq 87), (41, .aload 8), (43, .iload 2), (44, .invokevirtual 950821), (47, .iload 1), (48, .invokedynamic 1289921), (51, .ifCond .eq 87), (54, .aload 8), (56, .getfield 8060), (59, .iconst 1), (60, .if_icmp .ne 67), (63, .iconst 10000), (66, .ireturn), (67, .lload 3), (68, .ldc2_w 100), (71, .lmul), (72, .lstore 3), (73, .lload 5), (75, .iconst 100), (77, .aload 8), (79, .getfield 8050), (82, .isub), (83, .i2l), (84, .lmul), (85, .lstore 5), (87, .jsr 256), (87, .iinc 7 1), (90, .goto 8), (93, .jsr 391), (93, .lload 3), (94, .lconst 1), (95, .lcmp), (96, .ifCond .ge 103), (99, .iconst 0), (100, .goto 114), (103, .jsr 391), (103, .ldc2_w 10000), (106, .lload 3), (107, .lload 5), (109, .lsub), (110, .lmul), (111, .lload 3), (112, .ldiv), (113, .l2i), (114, .jsr 511), (114, .ireturn)]
/-- ArchEnds$Forecast.hopeOf(LArchEnds$Deed;)I -/
noncomputable def cd_35 : List (Nat × Instr) := [(0, .iconst 0), (1, .istore 2), (2, .aload 1), (3, .getfield 2010), (6, .istore 3), (100007, .goto_w 7), (7, .iload 3), (8, .aload 1), (9, .getfield 2020), (12, .if_icmp .gt 51), (15, .aload 0), (16, .getfield 3001), (19, .getfield 1080), (22, .iload 3), (23, .invokedynamic 1459921), (26, .aload 1), (27, .getfield 2000), (30, .if_icmp .ne 45), (33, .iload 2), (34, .aload 0), (35, .aload 1), (36, .getfield 2000), (39, .iload 3), (40, .invokevirtual 340331), (43, .iadd), (44, .istore 2), (45, .iinc 3 1), (48, .goto 7), (51, .jsr 11), (51, .iload 2), (52, .iconst 100), (54, .idiv), (55, .ireturn)]
/-- ArchEnds$Forecast.takeSights(LArchEnds$Tape;)Z -/
noncomputable def cd_36 : List (Nat × Instr) := [(0, .aload 0), (1, .iconst 0), (2, .putfield 3020), (5, .aload 0), (6, .iconst 0), (7, .putfield 3030), (10, .aload 1), (11, .getfield 10010), (14, .iconst 40), (16, .if_icmp .gt 28), (19, .aload 1), (20, .getfield 10010), (23, .iconst 2), (24, .irem), (25, .ifCond .eq 30), (28, .jsr 7), (28, .iconst 0), (29, .freturn), (30, .jsr 4), (30, .iconst 0), (31, .istore 2), (100032, .goto_w 32), (32, .iload 2), (33, .iconst 1), (34, .iadd), (35, .aload 1), (36, .getfield 10010), (39, .if_icmp .ge 122), (42, .aload 1), (43, .getfield 10001), (46, .iload 2), (47, .iaload), (48, .iconst 16), (50, .if_icmp .ge 65), (53, .aload 1), (54, .getfield 10001), (57, .iload 2), (58, .iconst 1), (59, .iadd), (60, .iaload), (61, .iconst 1), (62, .if_icmp .le 67), (65, .jsr 7), (65, .iconst 0), (66, .freturn), (67, .aload 1), (68, .getfield 10001), (71, .iload 2), (72, .iconst 1), (73, .iadd), (74, .iaload), (75, .iconst 1), (76, .if_icmp .ne 99), (79, .aload 0), (80, .dup), (81, .getfield 3020), (84, .iconst 1), (85, .aload 1), (86, .getfield 10001), (89, .iload 2), (90, .iaload), (91, .ishl), (92, .ior), (93, .putfield 3020), (96, .goto 116), (99, .aload 0), (100, .dup), (101, .getfield 3030), (104, .iconst 1), (105, .aload 1), (106, .getfield 10001), (109, .iload 2), (110, .iaload), (111, .ishl), (112, .ior), (113, .putfield 3030), (116, .iinc 2 2), (119, .goto 32), (122, .jsr 7), (122, .iconst 1), (123, .freturn)]
/-- ArchEnds$Forecast.sureShowers(I)I -/
noncomputable def cd_37 : List (Nat × Instr) := [(0, .iconst (-1)), (1, .istore 2), (2, .iconst 0), (3, .istore 3), (100004, .goto_w 4), (4, .iload 3), (5, .iconst 1), (6, .aload 0), (7, .getfield 3001), (10, .getfield 1040), (13, .ishl), (14, .if_icmp .ge 36), (17, .aload 0), (18, .iload 3), (19, .iload 1), (20, .invokevirtual 380331), (23, .ifCond .eq 30), (26, .iload 2), (27, .iload 3), (28, .iand), (29, .istore 2), (30, .iinc 3 1), (33, .goto 4), (36, .jsr 11), (36, .iload 2), (37, .iconst (-1)), (38, .if_icmp .ne 45), (41, .iconst 0), (42, .goto 46), (45, .jsr 11), (45, .iload 2), (46, .jsr 15), (46, .ireturn)]
/-- ArchEnds$Forecast.fits(II)Z -/
noncomputable def cd_38 : List (Nat × Instr) := [(0, .iconst 0), (1, .istore 3), (100002, .goto_w 2), (2, .jsr 16), (2, .iload 3), (3, .aload 0), (4, .getfield 3001), (7, .getfield 1040), (10, .if_icmp .ge 58), (13, .aload 0), (14, .getfield 3001), (17, .getfield 1001), (20, .iload 3), (21, .aaload), (22, .getfield 8060), (25, .istore 4), (27, .iload 1), (28, .iload 3), (29, .invokedynamic 1289921), (32, .ifCond .eq 44), (35, .iload 4), (37, .iconst 2), (38, .if_icmp .ne 52), (41, .goto 50), (44, .iload 4), (46, .iconst 1), (47, .if_icmp .ne 52), (50, .jsr 31), (50, .iconst 0), (51, .freturn), (52, .jsr 16), (52, .iinc 3 1), (55, .goto 2), (58, .jsr 24), (58, .aload 0), (59, .iload 1), (60, .iload 2), (61, .invokevirtual 390331), (64, .istore 3), (65, .iload 3), (66, .aload 0), (67, .getfield 3020), (70, .iand), (71, .aload 0), (72, .getfield 3020), (75, .if_icmp .ne 91), (78, .iload 3), (79, .aload 0), (80, .getfield 3030), (83, .iand), (84, .ifCond .ne 91), (87, .iconst 1), (88, .goto 92), (91, .jsr 31), (91, .iconst 0), (92, .jsr 31), (92, .freturn)]
/-- ArchEnds$Forecast.acresUnder(II)I -/
noncomputable def cd_39 : List (Nat × Instr) := [(0, .iconst 0), (1, .istore 3), (2, .iconst 0), (3, .istore 4), (100005, .goto_w 5), (5, .iload 4), (7, .aload 0), (8, .getfield 3001), (11, .getfield 1040), (14, .if_icmp .ge 49), (17, .iload 1), (18, .iload 4), (20, .invokedynamic 1289921), (23, .ifCond .eq 43), (26, .iload 3), (27, .aload 0), (28, .getfield 3001), (31, .getfield 1001), (34, .iload 4), (36, .aaload), (37, .iload 2), (38, .invokevirtual 950821), (41, .ior), (42, .istore 3), (43, .iinc 4 1), (46, .goto 5), (49, .jsr 23), (49, .iload 3), (50, .ireturn)]
/-- ArchEnds$Forecast.fittingSets(I)I -/
noncomputable def cd_40 : List (Nat × Instr) := [(0, .iconst 0), (1, .istore 2), (2, .iconst 0), (3, .istore 3), (100004, .goto_w 4), (4, .iload 3), (5, .iconst 1), (6, .aload 0), (7, .getfield 3001), (10, .getfield 1040), (13, .ishl), (14, .if_icmp .ge 35), (17, .aload 0), (18, .iload 3), (19, .iload 1), (20, .invokevirtual 380331), (23, .ifCond .eq 29), (26, .iinc 2 1), (29, .iinc 3 1), (32, .goto 4), (35, .jsr 11), (35, .iload 2), (36, .ireturn)]
/-- ArchEnds$Forecast.tellingAcre(I)I -/
noncomputable def cd_41 : List (Nat × Instr) := [(0, .iconst 0), (1, .istore 2), (2, .aload 0), (3, .invokevirtual 290310), (6, .iconst 0), (7, .istore 3), (100008, .goto_w 8), (8, .iload 3), (9, .iconst 1), (10, .aload 0), (11, .getfield 3001), (14, .getfield 1040), (17, .ishl), (18, .if_icmp .ge 49), (21, .aload 0), (22, .iload 3), (23, .iload 1), (24, .invokevirtual 380331), (27, .ifCond .eq 43), (30, .iinc 2 1), (33, .aload 0), (34, .aload 0), (35, .iload 3), (36, .iload 1), (37, .invokevirtual 390331), (40, .invokevirtual 420320), (43, .iinc 3 1), (46, .goto 8), (49, .jsr 10), (49, .iload 2), (50, .iconst 2), (51, .if_icmp .ge 58), (54, .iconst (-1)), (55, .goto 63), (58, .jsr 10), (58, .aload 0), (59, .iload 2), (60, .invokevirtual 430321), (63, .jsr 15), (63, .ireturn)]
/-- ArchEnds$Forecast.countWet(I)V -/
noncomputable def cd_42 : List (Nat × Instr) := [(0, .iconst 0), (1, .istore 2), (100002, .goto_w 2), (2, .iload 2), (3, .iconst 16), (5, .if_icmp .ge 32), (8, .iload 1), (9, .iload 2), (10, .invokedynamic 1289921), (13, .ifCond .eq 26), (16, .aload 0), (17, .getfield 3011), (20, .iload 2), (21, .dup2), (22, .iaload), (23, .iconst 1), (24, .iadd), (25, .iastore), (26, .iinc 2 1), (29, .goto 2), (32, .jsr 7), (32, .return_)]
/-- ArchEnds$Forecast.leastGreaterPart(I)I -/
noncomputable def cd_43 : List (Nat × Instr) := [(0, .iconst 0), (1, .istore 2), (2, .iload 1), (3, .istore 3), (4, .iconst 0), (5, .istore 4), (100007, .goto_w 7), (7, .jsr 32), (7, .iload 4), (9, .iconst 16), (11, .if_icmp .ge 72), (14, .aload 0), (15, .getfield 3011), (18, .iload 4), (20, .iaload), (21, .iload 1), (22, .aload 0), (23, .getfield 3011), (26, .iload 4), (28, .iaload), (29, .isub), (30, .if_icmp .le 43), (33, .aload 0), (34, .getfield 3011), (37, .iload 4), (39, .iaload), (40, .goto 52), (43, .jsr 32), (43, .iload 1), (44, .aload 0), (45, .getfield 3011), (48, .iload 4), (50, .iaload), (51, .isub), (52, .jsr 32), (52, .istore 5), (54, .iload 5), (56, .iload 3), (57, .if_icmp .ge 66), (60, .iload 5), (62, .istore 3), (63, .iload 4), (65, .istore 2), (66, .jsr 32), (66, .iinc 4 1), (69, .goto 7), (72, .jsr 59), (72, .iload 2), (73, .ireturn)]
/-- ArchEnds$Forecast.sprayAt(I)I -/
noncomputable def cd_44 : List (Nat × Instr) := [(0, .iconst 0), (1, .istore 2), (2, .iconst 0), (3, .istore 3), (100004, .goto_w 4), (4, .jsr 16), (4, .iload 3), (5, .iconst 16), (7, .if_icmp .ge 34), (10, .aload 0), (11, .getfield 3001), (14, .iload 3), (15, .iload 1), (16, .invokevirtual 110131), (19, .ifCond .eq 28), (22, .iload 2), (23, .iconst 1), (24, .iload 3), (25, .ishl), (26, .ior), (27, .istore 2), (28, .jsr 16), (28, .iinc 3 1), (31, .goto 4), (34, .jsr 25), (34, .iconst 0), (35, .istore 3), (100036, .goto_w 36), (36, .jsr 17), (36, .iload 3), (37, .iconst 16), (39, .if_icmp .ge 70), (42, .iload 3), (43, .iload 1), (44, .invokedynamic 1459921), (47, .istore 4), (49, .iload 4), (51, .iconst (-1)), (52, .if_icmp .eq 64), (55, .iload 2), (56, .iconst 1), (57, .iload 4), (59, .ishl), (60, .iconst (-1)), (61, .ixor), (62, .iand), (63, .istore 2), (64, .jsr 17), (64, .iinc 3 1), (67, .goto 36), (70, .jsr 27), (70, .iload 2), (71, .ireturn)]
/-- ArchEnds$Forecast.bothFrom(IIII)I -/
noncomputable def cd_45 : List (Nat × Instr) := [(0, .iconst 0), (1, .istore 5), (3, .iload 3), (4, .istore 6), (100006, .goto_w 6), (6, .iload 6), (8, .iload 3), (9, .iload 4), (11, .iadd), (12, .if_icmp .ge 52), (15, .aload 0), (16, .getfield 3001), (19, .iload 1), (20, .iload 6), (22, .invokevirtual 200131), (25, .iconst (-1)), (26, .if_icmp .eq 46), (29, .aload 0), (30, .getfield 3001), (33, .iload 2), (34, .iload 6), (36, .invokevirtual 200131), (39, .iconst (-1)), (40, .if_icmp .eq 46), (43, .iinc 5 1), (46, .iinc 6 1), (49, .goto 6), (52, .jsr 95), (52, .iload 5), (54, .ireturn)]
/-- ArchEnds$Forecast.weddings(III)I -/
noncomputable def cd_46 : List (Nat × Instr) := [(0, .iconst 0), (1, .istore 4), (3, .iload 2), (4, .istore 5), (6, .iload 2), (7, .istore 6), (100009, .goto_w 9), (9, .iload 6), (11, .iload 2), (12, .iconst 96), (14, .iadd), (15, .if_icmp .ge 69), (18, .iload 6), (20, .iload 5), (22, .if_icmp .lt 63), (25, .aload 0), (26, .getfield 3001), (29, .aload 0), (30, .getfield 3001), (33, .getfield 1080), (36, .iload 6), (38, .invokevirtual 200131), (41, .iconst (-1)), (42, .if_icmp .eq 63), (45, .iload 4), (47, .iload 3), (48, .if_icmp .ne 54), (51, .iload 6), (53, .ireturn), (54, .jsr 32), (54, .iinc 4 1), (57, .iload 6), (59, .iload 1), (60, .iadd), (61, .istore 5), (63, .iinc 6 1), (66, .goto 9), (69, .jsr 103), (69, .iload 3), (70, .iconst (-1)), (71, .if_icmp .ne 79), (74, .iload 4), (76, .goto 80), (79, .jsr 127), (79, .iconst (-1)), (80, .jsr 127), (80, .ireturn)]
/-- ArchEnds$Law.<init>(I[LArchEnds$Sign;[I[I[I)V -/
noncomputable def cd_47 : List (Nat × Instr) := [(0, .aload 0), (1, .monitorexit), (4, .iload 1), (5, .ifCond .ne 12), (8, .iconst 0), (9, .goto 18), (12, .jsr 192), (12, .aload 4), (14, .iload 1), (15, .iconst 1), (16, .isub), (17, .iaload), (18, .jsr 192), (18, .istore 6), (20, .aload 0), (21, .iload 1), (22, .putfield 4000), (25, .aload 0), (26, .iload 1), (27, .anewarray 9), (30, .putfield 4011), (33, .aload 0), (34, .iload 1), (35, .newarray .int), (37, .putfield 4021), (40, .aload 0), (41, .iload 1), (42, .newarray .int), (44, .putfield 4031), (47, .aload 0), (48, .iload 6), (50, .newarray .int), (52, .putfield 4041), (55, .aload 0), (56, .iload 6), (58, .iconst 1), (59, .iadd), (60, .newarray .int), (62, .putfield 4051), (65, .iconst 0), (66, .istore 7), (100068, .goto_w 68), (68, .iload 7), (70, .iload 1), (71, .if_icmp .ge 114), (74, .aload 0), (75, .getfield 4011), (78, .iload 7), (80, .aload 2), (81, .iload 7), (83, .aaload), (84, .aastore), (85, .aload 0), (86, .getfield 4021), (89, .iload 7), (91, .aload 3), (92, .iload 7), (94, .iaload), (95, .iastore), (96, .aload 0), (97, .getfield 4031), (100, .iload 7), (102, .aload 4), (104, .iload 7), (106, .iaload), (107, .iastore), (108, .iinc 7 1), (111, .goto 68), (114, .jsr 158), (114, .aload 5), (116, .iconst 0), (117, .aload 0), (118, .getfield 4041), (121, .iconst 0), (122, .iload 6), (124, .monitorenter), (127, .return_)]
/-- ArchEnds$Law.sumOf(LArchEnds$Sign;[I)I -/
noncomputable def cd_48 : List (Nat × Instr) := [(0, .iconst 0), (1, .istore 3), (2, .iconst 0), (3, .istore 4), (100005, .goto_w 5), (5, .iload 4), (7, .aload 0), (8, .getfield 4000), (11, .if_icmp .ge 51), (14, .aload 0), (15, .getfield 4011), (18, .iload 4), (20, .aaload), (21, .aload 1), (22, .if_acmp .ne 45), (25, .aload 0), (26, .iload 4), (28, .aload 2), (29, .invokevirtual 490431), (32, .ifCond .eq 45), (35, .iload 3), (36, .aload 0), (37, .getfield 4021), (40, .iload 4), (42, .iaload), (43, .iadd), (44, .istore 3), (45, .iinc 4 1), (48, .goto 5), (51, .jsr 23), (51, .iload 3), (52, .ireturn)]
/-- ArchEnds$Law.holds(I[I)Z -/
noncomputable def cd_49 : List (Nat × Instr) := [(0, .iconst 0), (1, .istore 3), (2, .iload 1), (3, .ifCond .ne 10), (6, .iconst 0), (7, .goto 18), (10, .jsr 240), (10, .aload 0), (11, .getfield 4031), (14, .iload 1), (15, .iconst 1), (16, .isub), (17, .iaload), (18, .jsr 240), (18, .istore 4), (100020, .goto_w 20), (20, .jsr 224), (20, .iload 4), (22, .aload 0), (23, .getfield 4031), (26, .iload 1), (27, .iaload), (28, .if_icmp .ge 281), (31, .aload 0), (32, .getfield 4041), (35, .iload 4), (37, .iaload), (38, .istore 5), (40, .iload 5), (42, .iconst 1000), (45, .isub), (46, .aload 2), (47, .arraylength), (48, .if_icmp .ge 93), (51, .iload 3), (52, .aload 0), (53, .getfield 4051), (56, .arraylength), (57, .if_icmp .ge 93), (60, .aload 0), (61, .getfield 4051), (64, .iload 3), (65, .iload 5), (67, .iconst 1000), (70, .if_icmp .ge 78), (73, .iload 5), (75, .goto 86), (78, .jsr 192), (78, .aload 2), (79, .iload 5), (81, .iconst 1000), (84, .isub), (85, .iaload), (86, .jsr 224), (86, .iastore), (87, .iinc 3 1), (90, .goto 275), (93, .jsr 192), (93, .iload 5), (95, .iconst 1100), (98, .if_icmp .ne 127), (101, .iload 3), (102, .iconst 1), (103, .if_icmp .lt 127), (106, .aload 0), (107, .getfield 4051), (110, .iload 3), (111, .iconst 1), (112, .isub), (113, .iconst 1), (114, .aload 0), (115, .getfield 4051), (118, .iload 3), (119, .iconst 1), (120, .isub), (121, .iaload), (122, .isub), (123, .iastore), (124, .goto 275), (127, .jsr 192), (127, .iload 3), (128, .iconst 2), (129, .if_icmp .lt 275), (132, .iinc 3 (-1)), (135, .aload 0), (136, .getfield 4051), (139, .iload 3), (140, .iconst 1), (141, .isub), (142, .iaload), (143, .istore 6), (145, .aload 0), (146, .getfield 4051), (149, .iload 3), (150, .iaload), (151, .istore 7), (153, .iload 5), (155, .tableswitch 262 1101 1104 #[184, 200, 223, 246]), (184, .jsr 32), (184, .aload 0), (185, .getfield 4051), (188, .iload 3), (189, .iconst 1), (190, .isub), (191, .iload 6), (193, .iload 7), (195, .iadd), (196, .iastore), (197, .goto 275), (200, .jsr 32), (200, .aload 0), (201, .getfield 4051), (204, .iload 3), (205, .iconst 1), (206, .isub), (207, .iload 6), (209, .iload 7), (211, .if_icmp .ge 218), (214, .iconst 1), (215, .goto 219), (218, .jsr 224), (218, .iconst 0), (219, .jsr 224), (219, .iastore), (220, .goto 275), (223, .jsr 32), (223, .aload 0), (224, .getfield 4051), (227, .iload 3), (228, .iconst 1), (229, .isub), (230, .iload 6), (232, .iload 7), (234, .if_icmp .le 241), (237, .iconst 1), (238, .goto 242), (241, .jsr 224), (241, .iconst 0), (242, .jsr 224), (242, .iastore), (243, .goto 275), (246, .jsr 32), (246, .aload 0), (247, .getfield 4051), (250, .iload 3), (251, .iconst 1), (252, .isub), (253, .iload 6), (255, .iload 7), (257, .iand), (258, .iastore), (259, .goto 275), (262, .jsr 32), (262, .aload 0), (263, .getfield 4051), (266, .iload 3), (267, .iconst 1), (268, .isub), (269, .iload 6), (271, .iload 7), (273, .ior), (274, .iastore), (275, .jsr 224), (275, .iinc 4 1), (278, .goto 20), (281, .jsr 246), (281, .iload 3), (282, .ifCond .eq 294), (285, .aload 0), (286, .getfield 4051), (289, .iconst 0), (290, .iaload), (291, .ifCond .eq 298), (294, .jsr 255), (294, .iconst 1), (295, .goto 299), (298, .jsr 255), (298, .iconst 0), (299, .jsr 255), (299, .freturn)]
/-- ArchEnds$LogBook.<init>()V -/
noncomputable def cd_50 : List (Nat × Instr) := [(0, .aload 0), (1, .monitorexit), (4, .aload 0), (5, .iconst 240), (8, .newarray .int), (10, .putfield 5021), (13, .return_)]
/-- ArchEnds$LogBook.copyFrom(LArchEnds$LogBook;)V -/
noncomputable def cd_51 : List (Nat × Instr) := [(0, .aload 0), (1, .aload 1), (2, .getfield 5000), (5, .putfield 5000), (8, .aload 0), (9, .aload 1), (10, .getfield 5010), (13, .putfield 5010), (16, .aload 1), (17, .getfield 5021), (20, .iconst 0), (21, .aload 0), (22, .getfield 5021), (25, .iconst 0), (26, .aload 0), (27, .getfield 5021), (30, .arraylength), (31, .monitorenter), (34, .return_)]
/-- ArchEnds$LogBook.add(IIII)V -/
noncomputable def cd_52 : List (Nat × Instr) := [(0, .aload 0), (1, .getfield 5010), (4, .iconst 4), (5, .imul), (6, .istore 5), (8, .aload 0), (9, .getfield 5021), (12, .iload 5), (14, .iload 1), (15, .iastore), (16, .aload 0), (17, .getfield 5021), (20, .iload 5), (22, .iconst 1), (23, .iadd), (24, .iload 2), (25, .iastore), (26, .aload 0), (27, .getfield 5021), (30, .iload 5), (32, .iconst 2), (33, .iadd), (34, .iload 3), (35, .iastore), (36, .aload 0), (37, .getfield 5021), (40, .iload 5), (42, .iconst 3), (43, .iadd), (44, .iload 4), (46, .iastore), (47, .aload 0), (48, .aload 0), (49, .getfield 5010), (52, .iconst 1), (53, .iadd), (54, .iconst 60), (56, .irem), (57, .putfield 5010), (60, .aload 0), (61, .aload 0), (62, .getfield 5000), (65, .iconst 60), (67, .if_icmp .ge 79), (70, .aload 0), (71, .getfield 5000), (74, .iconst 1), (75, .iadd), (76, .goto 81), (79, .jsr 63), (79, .iconst 60), (81, .jsr 63), (81, .putfield 5000), (84, .return_)]
/-- ArchEnds$LogBook.latestMinuteOf(I)I -/
noncomputable def cd_53 : List (Nat × Instr) := [(0, .iconst 0), (1, .istore 2), (100002, .goto_w 2), (2, .iload 2), (3, .aload 0), (4, .getfield 5000), (7, .if_icmp .ge 33), (10, .aload 0), (11, .iload 2), (12, .iconst 2), (13, .invokevirtual 540531), (16, .iload 1), (17, .if_icmp .ne 27), (20, .aload 0), (21, .iload 2), (22, .iconst 0), (23, .invokevirtual 540531), (26, .ireturn), (27, .iinc 2 1), (30, .goto 2), (33, .jsr 7), (33, .iconst (-1)), (34, .ireturn)]
/-- ArchEnds$LogBook.entry(II)I -/
noncomputable def cd_54 : List (Nat × Instr) := [(0, .iload 1), (1, .ifCond .lt 12), (4, .iload 1), (5, .aload 0), (6, .getfield 5000), (9, .if_icmp .lt 14), (12, .jsr 7), (12, .iconst (-1)), (13, .ireturn), (14, .aload 0), (15, .getfield 5021), (18, .aload 0), (19, .getfield 5010), (22, .iconst 60), (24, .iadd), (25, .iconst 1), (26, .isub), (27, .iload 1), (28, .isub), (29, .iconst 60), (31, .irem), (32, .iconst 4), (33, .imul), (34, .iload 2), (35, .iadd), (36, .iaload), (37, .ireturn)]
/-- ArchEnds$LogBook.rowsOf(I)I -/
noncomputable def cd_55 : List (Nat × Instr) := [(0, .iconst 0), (1, .istore 2), (2, .iconst 0), (3, .istore 3), (100004, .goto_w 4), (4, .iload 3), (5, .aload 0), (6, .getfield 5000), (9, .if_icmp .ge 31), (12, .aload 0), (13, .iload 3), (14, .iconst 2), (15, .invokevirtual 540531), (18, .iload 1), (19, .if_icmp .ne 25), (22, .iinc 2 1), (25, .iinc 3 1), (28, .goto 4), (31, .jsr 11), (31, .iload 2), (32, .ireturn)]
/-- ArchEnds$Market.<init>(LArchEnds$County;LArchEnds$Forecast;)V -/
noncomputable def cd_56 : List (Nat × Instr) := [(0, .aload 0), (1, .monitorexit), (4, .aload 0), (5, .iconst 8), (7, .newarray .int), (9, .putfield 6021), (12, .aload 0), (13, .iconst 8), (15, .newarray .int), (17, .putfield 6031), (20, .aload 0), (21, .iconst 2), (22, .newarray .int), (24, .putfield 6041), (27, .aload 0), (28, .iconst 4), (29, .newarray .int), (31, .putfield 6051), (34, .aload 0), (35, .iconst 5), (36, .newarray .int), (38, .putfield 6061), (41, .aload 0), (42, .iconst 32), (44, .newarray .int), (46, .putfield 6071), (49, .aload 0), (50, .aload 1), (51, .putfield 6001), (54, .aload 0), (55, .aload 2), (56, .putfield 6011), (59, .return_)]
/-- ArchEnds$Market.richest()I -/
noncomputable def cd_57 : List (Nat × Instr) := [(0, .iconst (-1)), (1, .istore 1), (2, .iconst (-1)), (3, .istore 2), (4, .iconst 0), (5, .istore 3), (100006, .goto_w 6), (6, .jsr 16), (6, .iload 3), (7, .aload 0), (8, .getfield 6001), (11, .getfield 1050), (14, .if_icmp .ge 44), (17, .aload 0), (18, .getfield 6001), (21, .iload 3), (22, .invokevirtual 50121), (25, .istore 4), (27, .iload 4), (29, .iload 2), (30, .if_icmp .le 38), (33, .iload 4), (35, .istore 2), (36, .iload 3), (37, .istore 1), (38, .jsr 16), (38, .iinc 3 1), (41, .goto 6), (44, .jsr 29), (44, .iload 1), (45, .ireturn)]
/-- ArchEnds$Market.clashes()I -/
noncomputable def cd_58 : List (Nat × Instr) := [(0, .iconst 0), (1, .istore 1), (2, .iconst 0), (3, .istore 2), (100004, .goto_w 4), (4, .jsr 8), (4, .iload 2), (5, .aload 0), (6, .getfield 6001), (9, .getfield 1060), (12, .if_icmp .ge 61), (15, .iconst 0), (16, .istore 3), (100017, .goto_w 17), (17, .iload 3), (18, .iload 2), (19, .if_icmp .ge 55), (22, .aload 0), (23, .getfield 6001), (26, .getfield 1021), (29, .iload 2), (30, .aaload), (31, .aload 0), (32, .getfield 6001), (35, .getfield 1021), (38, .iload 3), (39, .aaload), (40, .invokestatic 599921), (43, .ifCond .eq 49), (46, .iinc 1 1), (49, .iinc 3 1), (52, .goto 17), (55, .jsr 8), (55, .iinc 2 1), (58, .goto 4), (61, .jsr 13), (61, .iload 1), (62, .ireturn)]
/-- ArchEnds$Market.areOfOneAcreAndMinute(LArchEnds$Deed;LArchEnds$Deed;)Z -/
noncomputable def cd_59 : List (Nat × Instr) := [(0, .aload 0), (1, .getfield 2000), (4, .aload 1), (5, .getfield 2000), (8, .if_icmp .ne 37), (11, .aload 0), (12, .getfield 2010), (15, .aload 1), (16, .getfield 2020), (19, .if_icmp .gt 37), (22, .aload 1), (23, .getfield 2010), (26, .aload 0), (27, .getfield 2020), (30, .if_icmp .gt 37), (33, .iconst 1), (34, .goto 38), (37, .jsr 3), (37, .iconst 0), (38, .jsr 3), (38, .freturn)]
/-- ArchEnds$Market.gainOf(II)I -/
noncomputable def cd_60 : List (Nat × Instr) := [(0, .aload 0), (1, .getfield 6001), (4, .getfield 1021), (7, .iload 2), (8, .aaload), (9, .astore 3), (10, .aload 0), (11, .getfield 6001), (14, .iload 1), (15, .iload 2), (16, .invokevirtual 140131), (19, .ineg), (20, .istore 4), (22, .aload 3), (23, .getfield 2010), (26, .aload 0), (27, .getfield 6001), (30, .getfield 1100), (33, .if_icmp .le 43), (36, .aload 3), (37, .getfield 2010), (40, .goto 50), (43, .jsr 96), (43, .aload 0), (44, .getfield 6001), (47, .getfield 1100), (50, .jsr 96), (50, .istore 5), (52, .iload 5), (54, .istore 6), (100056, .goto_w 56), (56, .jsr 32), (56, .iload 6), (58, .aload 3), (59, .getfield 2020), (62, .if_icmp .gt 110), (65, .aload 0), (66, .getfield 6001), (69, .aload 0), (70, .getfield 6001), (73, .getfield 1080), (76, .iload 6), (78, .invokevirtual 200131), (81, .aload 3), (82, .getfield 2000), (85, .if_icmp .ne 104), (88, .iload 4), (90, .aload 0), (91, .getfield 6001), (94, .iload 1), (95, .iload 2), (96, .iload 6), (98, .invokevirtual 150141), (101, .iadd), (102, .istore 4), (104, .jsr 32), (104, .iinc 6 1), (107, .goto 56), (110, .jsr 111), (110, .iload 4), (112, .ireturn)]
/-- ArchEnds$Market.bestDeals(I)I -/
noncomputable def cd_61 : List (Nat × Instr) := [(0, .aload 0), (1, .getfield 6001), (4, .invokevirtual 80111), (7, .istore 2), (8, .iconst 0), (9, .istore 3), (100010, .goto_w 10), (10, .jsr 48), (10, .iload 3), (11, .aload 0), (12, .getfield 6001), (15, .getfield 1060), (18, .if_icmp .ge 66), (21, .aload 0), (22, .getfield 6021), (25, .iload 3), (26, .aload 0), (27, .getfield 6001), (30, .iload 1), (31, .iload 3), (32, .invokevirtual 140131), (35, .iastore), (36, .aload 0), (37, .getfield 6031), (40, .iload 3), (41, .iload 2), (42, .iload 3), (43, .invokedynamic 1289921), (46, .ifCond .eq 53), (49, .iconst 0), (50, .goto 59), (53, .jsr 48), (53, .aload 0), (54, .iload 1), (55, .iload 3), (56, .invokevirtual 600631), (59, .jsr 48), (59, .iastore), (60, .iinc 3 1), (63, .goto 10), (66, .jsr 56), (66, .iconst 0), (67, .istore 3), (68, .iconst 0), (69, .istore 4), (71, .iconst 1), (72, .istore 5), (100074, .goto_w 74), (74, .iload 5), (76, .iconst 1), (77, .aload 0), (78, .getfield 6001), (81, .getfield 1060), (84, .ishl), (85, .if_icmp .ge 144), (88, .iload 5), (90, .iload 2), (91, .iand), (92, .ifCond .ne 138), (95, .aload 0), (96, .iload 5), (98, .invokevirtual 620621), (101, .aload 0), (102, .getfield 6001), (105, .getfield 1011), (108, .iload 1), (109, .aaload), (110, .getfield 0), (113, .if_icmp .gt 138), (116, .aload 0), (117, .iload 5), (119, .invokevirtual 630621), (122, .iload 4), (124, .if_icmp .le 138), (127, .iload 5), (129, .istore 3), (130, .aload 0), (131, .iload 5), (133, .invokevirtual 630621), (136, .istore 4), (138, .iinc 5 1), (141, .goto 74), (144, .jsr 55), (144, .iload 3), (145, .ireturn)]
/-- ArchEnds$Market.costsTogether(I)I -/
noncomputable def cd_62 : List (Nat × Instr) := [(0, .iconst 0), (1, .istore 2), (2, .iconst 0), (3, .istore 3), (100004, .goto_w 4), (4, .iload 3), (5, .aload 0), (6, .getfield 6001), (9, .getfield 1060), (12, .if_icmp .ge 38), (15, .iload 1), (16, .iload 3), (17, .invokedynamic 1289921), (20, .ifCond .eq 32), (23, .iload 2), (24, .aload 0), (25, .getfield 6021), (28, .iload 3), (29, .iaload), (30, .iadd), (31, .istore 2), (32, .iinc 3 1), (35, .goto 4), (38, .jsr 11), (38, .iload 2), (39, .ireturn)]
/-- ArchEnds$Market.gainsTogether(I)I -/
noncomputable def cd_63 : List (Nat × Instr) := [(0, .iconst 0), (1, .istore 2), (2, .iconst 0), (3, .istore 3), (100004, .goto_w 4), (4, .iload 3), (5, .aload 0), (6, .getfield 6001), (9, .getfield 1060), (12, .if_icmp .ge 38), (15, .iload 1), (16, .iload 3), (17, .invokedynamic 1289921), (20, .ifCond .eq 32), (23, .iload 2), (24, .aload 0), (25, .getfield 6031), (28, .iload 3), (29, .iaload), (30, .iadd), (31, .istore 2), (32, .iinc 3 1), (35, .goto 4), (38, .jsr 11), (38, .iload 2), (39, .ireturn)]
/-- ArchEnds$Market.meetingAcre(LArchEnds$Broker;LArchEnds$Broker;)I -/
noncomputable def cd_64 : List (Nat × Instr) := [(0, .iconst 0), (1, .istore 3), (2, .iconst 16), (4, .istore 4), (6, .iconst 0), (7, .istore 5), (100009, .goto_w 9), (9, .jsr 449), (9, .iload 5), (11, .iconst 16), (13, .if_icmp .ge 68), (16, .aload 1), (17, .iload 5), (19, .invokevirtual 30021), (22, .istore 6), (24, .aload 2), (25, .iload 5), (27, .invokevirtual 30021), (30, .istore 7), (32, .iload 6), (34, .iload 7), (36, .if_icmp .le 44), (39, .iload 6), (41, .goto 46), (44, .jsr 321), (44, .iload 7), (46, .jsr 449), (46, .istore 8), (48, .iload 8), (50, .iload 4), (52, .if_icmp .ge 62), (55, .iload 8), (57, .istore 4), (59, .iload 5), (61, .istore 3), (62, .jsr 449), (62, .iinc 5 1), (65, .goto 9), (68, .jsr 503), (68, .iload 3), (69, .ireturn)]
/-- ArchEnds$Market.takePlaces(LArchEnds$Tape;)Z -/
noncomputable def cd_65 : List (Nat × Instr) := [(0, .aload 1), (1, .getfield 10010), (4, .aload 0), (5, .getfield 6001), (8, .getfield 1050), (11, .if_icmp .eq 16), (14, .iconst 0), (15, .freturn), (16, .jsr 4), (16, .iconst 0), (17, .istore 2), (100018, .goto_w 18), (18, .iload 2), (19, .aload 0), (20, .getfield 6001), (23, .getfield 1050), (26, .if_icmp .ge 60), (29, .aload 1), (30, .getfield 10001), (33, .iload 2), (34, .iaload), (35, .iconst 16), (37, .if_icmp .lt 42), (40, .iconst 0), (41, .freturn), (42, .aload 0), (43, .getfield 6061), (46, .iload 2), (47, .aload 1), (48, .getfield 10001), (51, .iload 2), (52, .iaload), (53, .iastore), (54, .iinc 2 1), (57, .goto 18), (60, .jsr 7), (60, .iconst 1), (61, .freturn)]
/-- ArchEnds$Market.planWays()V -/
noncomputable def cd_66 : List (Nat × Instr) := [(0, .iconst 1), (1, .aload 0), (2, .getfield 6001), (5, .getfield 1050), (8, .ishl), (9, .iconst 1), (10, .isub), (11, .istore 1), (12, .aload 0), (13, .getfield 6071), (16, .iload 1), (17, .iconst 0), (18, .iastore), (19, .iload 1), (20, .iconst 1), (21, .isub), (22, .istore 2), (100023, .goto_w 23), (23, .jsr 58), (23, .iload 2), (24, .ifCond .lt 104), (27, .iload 2), (28, .invokestatic 3259911), (31, .istore 3), (32, .iconst 1000), (35, .istore 4), (37, .iconst 0), (38, .istore 5), (100040, .goto_w 40), (40, .jsr 2), (40, .iload 5), (42, .aload 0), (43, .getfield 6001), (46, .getfield 1050), (49, .if_icmp .ge 90), (52, .iload 2), (53, .iload 5), (55, .invokedynamic 1289921), (58, .ifCond .ne 84), (61, .aload 0), (62, .iload 2), (63, .iload 3), (64, .iload 5), (66, .invokevirtual 670641), (69, .iload 4), (71, .if_icmp .ge 84), (74, .aload 0), (75, .iload 2), (76, .iload 3), (77, .iload 5), (79, .invokevirtual 670641), (82, .istore 4), (84, .jsr 2), (84, .iinc 5 1), (87, .goto 40), (90, .jsr 42), (90, .aload 0), (91, .getfield 6071), (94, .iload 2), (95, .iload 4), (97, .iastore), (98, .iinc 2 (-1)), (101, .goto 23), (104, .jsr 63), (104, .return_)]
/-- ArchEnds$Market.minutesBy(III)I -/
noncomputable def cd_67 : List (Nat × Instr) := [(0, .aload 0), (1, .getfield 6001), (4, .getfield 1011), (7, .iload 2), (8, .aaload), (9, .aload 0), (10, .getfield 6061), (13, .iload 3), (14, .iaload), (15, .invokevirtual 30021), (18, .aload 0), (19, .getfield 6071), (22, .iload 1), (23, .iconst 1), (24, .iload 3), (25, .ishl), (26, .ior), (27, .iaload), (28, .iadd), (29, .ireturn)]
/-- ArchEnds$Market.fewestMinutes()I -/
noncomputable def cd_68 : List (Nat × Instr) := [(0, .aload 0), (1, .getfield 6071), (4, .iconst 0), (5, .iaload), (6, .ireturn)]
/-- ArchEnds$Market.placeOf(I)I -/
noncomputable def cd_69 : List (Nat × Instr) := [(0, .iconst 0), (1, .istore 2), (2, .iconst (-1)), (3, .istore 3), (4, .iconst 0), (5, .istore 4), (100007, .goto_w 7), (7, .iload 4), (9, .iload 1), (10, .if_icmp .gt 40), (13, .aload 0), (14, .iload 2), (15, .iload 4), (17, .invokevirtual 700631), (20, .istore 3), (21, .iload 3), (22, .iconst (-1)), (23, .if_icmp .ne 28), (26, .iconst (-1)), (27, .ireturn), (28, .iload 2), (29, .iconst 1), (30, .iload 3), (31, .ishl), (32, .ior), (33, .istore 2), (34, .iinc 4 1), (37, .goto 7), (40, .jsr 23), (40, .iload 3), (41, .ireturn)]
/-- ArchEnds$Market.firstPlace(II)I -/
noncomputable def cd_70 : List (Nat × Instr) := [(0, .iconst 0), (1, .istore 3), (100002, .goto_w 2), (2, .iload 3), (3, .aload 0), (4, .getfield 6001), (7, .getfield 1050), (10, .if_icmp .ge 45), (13, .iload 1), (14, .iload 3), (15, .invokedynamic 1289921), (18, .ifCond .ne 39), (21, .aload 0), (22, .iload 1), (23, .iload 2), (24, .iload 3), (25, .invokevirtual 670641), (28, .aload 0), (29, .getfield 6071), (32, .iload 1), (33, .iaload), (34, .if_icmp .ne 39), (37, .iload 3), (38, .ireturn), (39, .iinc 3 1), (42, .goto 2), (45, .jsr 15), (45, .iconst (-1)), (46, .ireturn)]
/-- ArchEnds$Market.firstBrokerOn(I)I -/
noncomputable def cd_71 : List (Nat × Instr) := [(0, .iconst (-1)), (1, .istore 2), (2, .iconst 16), (4, .istore 3), (5, .iconst 0), (6, .istore 4), (100008, .goto_w 8), (8, .jsr 32), (8, .iload 4), (10, .aload 0), (11, .getfield 6001), (14, .getfield 1050), (17, .if_icmp .ge 54), (20, .aload 0), (21, .getfield 6001), (24, .getfield 1011), (27, .iload 4), (29, .aaload), (30, .iload 1), (31, .invokevirtual 30021), (34, .istore 5), (36, .iload 5), (38, .iload 3), (39, .if_icmp .ge 48), (42, .iload 5), (44, .istore 3), (45, .iload 4), (47, .istore 2), (48, .jsr 32), (48, .iinc 4 1), (51, .goto 8), (54, .jsr 59), (54, .iload 2), (55, .ireturn)]
/-- ArchEnds$Market.restingChoices(IIII)I -/
noncomputable def cd_72 : List (Nat × Instr) := [(0, .aload 0), (1, .getfield 6041), (4, .iconst 0), (5, .aload 0), (6, .getfield 6011), (9, .aload 0), (10, .getfield 6001), (13, .getfield 1021), (16, .iload 3), (17, .aaload), (18, .invokevirtual 350321), (21, .iastore), (22, .aload 0), (23, .getfield 6041), (26, .iconst 1), (27, .aload 0), (28, .getfield 6011), (31, .aload 0), (32, .getfield 6001), (35, .getfield 1021), (38, .iload 4), (40, .aaload), (41, .invokevirtual 350321), (44, .iastore), (45, .aload 0), (46, .getfield 6051), (49, .iconst 0), (50, .aload 0), (51, .getfield 6001), (54, .iload 1), (55, .iload 3), (56, .invokevirtual 140131), (59, .iastore), (60, .aload 0), (61, .getfield 6051), (64, .iconst 1), (65, .aload 0), (66, .getfield 6001), (69, .iload 1), (70, .iload 4), (72, .invokevirtual 140131), (75, .iastore), (76, .aload 0), (77, .getfield 6051), (80, .iconst 2), (81, .aload 0), (82, .getfield 6001), (85, .iload 2), (86, .iload 3), (87, .invokevirtual 140131), (90, .iastore), (91, .aload 0), (92, .getfield 6051), (95, .iconst 3), (96, .aload 0), (97, .getfield 6001), (100, .iload 2), (101, .iload 4), (103, .invokevirtual 140131), (106, .iastore), (107, .iconst 0), (108, .istore 5), (110, .iconst 0), (111, .istore 6), (100113, .goto_w 113), (113, .jsr 414), (113, .iload 6), (115, .iconst 4), (116, .if_icmp .ge 170), (119, .iload 6), (121, .iconst 2), (122, .idiv), (123, .istore 7), (125, .iload 6), (127, .iconst 2), (128, .irem), (129, .istore 8), (131, .aload 0), (132, .iconst 0), (133, .iload 7), (135, .iload 8), (137, .invokevirtual 730641), (140, .ifCond .eq 164), (143, .aload 0), (144, .iconst 1), (145, .iload 8), (147, .iload 7), (149, .invokevirtual 730641), (152, .ifCond .eq 164), (155, .iload 5), (157, .iconst 1), (158, .iload 6), (160, .ishl), (161, .ior), (162, .istore 5), (164, .jsr 414), (164, .iinc 6 1), (167, .goto 113), (170, .jsr 479), (170, .iload 5), (172, .ireturn)]
/-- ArchEnds$Market.isContent(III)Z -/
noncomputable def cd_73 : List (Nat × Instr) := [(0, .aload 0), (1, .iload 1), (2, .iload 2), (3, .iload 3), (4, .invokevirtual 740641), (7, .aload 0), (8, .iload 1), (9, .iconst 1), (10, .iload 2), (11, .isub), (12, .iload 3), (13, .invokevirtual 740641), (16, .if_icmp .lt 23), (19, .iconst 1), (20, .goto 24), (23, .jsr 15), (23, .iconst 0), (24, .jsr 15), (24, .freturn)]
/-- ArchEnds$Market.shareOf(III)I -/
noncomputable def cd_74 : List (Nat × Instr) := [(0, .iload 2), (1, .iload 3), (2, .if_icmp .ne 16), (5, .aload 0), (6, .getfield 6041), (9, .iload 2), (10, .iaload), (11, .iconst 2), (12, .idiv), (13, .goto 22), (16, .jsr 24), (16, .aload 0), (17, .getfield 6041), (20, .iload 2), (21, .iaload), (22, .jsr 24), (22, .istore 4), (24, .iload 4), (26, .aload 0), (27, .getfield 6051), (30, .iconst 2), (31, .iload 1), (32, .imul), (33, .iload 2), (34, .iadd), (35, .iaload), (36, .isub), (37, .ireturn)]
/-- ArchEnds$Reader.<init>(LArchEnds$Tape;)V -/
noncomputable def cd_75 : List (Nat × Instr) := [(0, .aload 0), (1, .monitorexit), (4, .aload 0), (5, .iconst 12), (7, .anewarray 9), (10, .putfield 7011), (13, .aload 0), (14, .iconst 12), (16, .newarray .int), (18, .putfield 7021), (21, .aload 0), (22, .iconst 12), (24, .newarray .int), (26, .putfield 7031), (29, .aload 0), (30, .iconst 400), (33, .newarray .int), (35, .putfield 7041), (38, .aload 0), (39, .aload 1), (40, .putfield 7001), (43, .return_)]
/-- ArchEnds$Reader.readCounty(LArchEnds$County;)Z -/
noncomputable def cd_76 : List (Nat × Instr) := [(0, .aload 0), (1, .getfield 7001), (4, .invokevirtual 1021012), (7, .getstatic 37), (10, .if_acmp .ne 15), (13, .iconst 1), (14, .freturn), (15, .jsr 4), (15, .iconst 0), (16, .istore 2), (100017, .goto_w 17), (17, .iload 2), (18, .iconst 14), (20, .if_icmp .ge 69), (23, .aload 0), (24, .aload 1), (25, .invokevirtual 770721), (28, .ifCond .ne 33), (31, .iconst 0), (32, .freturn), (33, .aload 0), (34, .getfield 7001), (37, .invokevirtual 1021012), (40, .getstatic 37), (43, .if_acmp .ne 48), (46, .iconst 1), (47, .freturn), (48, .aload 0), (49, .getfield 7001), (52, .getstatic 34), (55, .invokevirtual 1031021), (58, .ifCond .ne 63), (61, .iconst 0), (62, .freturn), (63, .iinc 2 1), (66, .goto 17), (69, .jsr 7), (69, .iconst 0), (70, .freturn)]
/-- ArchEnds$Reader.readCountyLine(LArchEnds$County;)Z -/
noncomputable def cd_77 : List (Nat × Instr) := [(0, .aload 0), (1, .getfield 7001), (4, .invokevirtual 1021012), (7, .astore 2), (8, .aload 2), (9, .getstatic 0), (12, .if_acmp .ne 38), (15, .aload 1), (16, .getfield 1040), (19, .iconst 6), (21, .if_icmp .ge 36), (24, .aload 0), (25, .aload 1), (26, .invokevirtual 780721), (29, .ifCond .eq 36), (32, .iconst 1), (33, .goto 37), (36, .jsr 7), (36, .iconst 0), (37, .jsr 7), (37, .freturn), (38, .aload 2), (39, .getstatic 1), (42, .if_acmp .ne 67), (45, .aload 1), (46, .getfield 1050), (49, .iconst 5), (50, .if_icmp .ge 65), (53, .aload 0), (54, .aload 1), (55, .invokevirtual 810721), (58, .ifCond .eq 65), (61, .iconst 1), (62, .goto 66), (65, .jsr 7), (65, .iconst 0), (66, .jsr 7), (66, .freturn), (67, .aload 2), (68, .getstatic 2), (71, .if_acmp .ne 97), (74, .aload 1), (75, .getfield 1060), (78, .iconst 8), (80, .if_icmp .ge 95), (83, .aload 0), (84, .aload 1), (85, .invokevirtual 820721), (88, .ifCond .eq 95), (91, .iconst 1), (92, .goto 96), (95, .jsr 7), (95, .iconst 0), (96, .jsr 7), (96, .freturn), (97, .jsr 4), (97, .aload 0), (98, .getfield 7001), (101, .getstatic 3), (104, .invokevirtual 1031021), (107, .ifCond .eq 116), (110, .aload 0), (111, .aload 1), (112, .invokevirtual 830721), (115, .freturn), (116, .jsr 4), (116, .aload 0), (117, .getfield 7001), (120, .getstatic 4), (123, .invokevirtual 1031021), (126, .ifCond .eq 135), (129, .aload 0), (130, .aload 1), (131, .invokevirtual 840721), (134, .freturn), (135, .jsr 4), (135, .aload 0), (136, .getfield 7001), (139, .getstatic 5), (142, .invokevirtual 1031021), (145, .ifCond .eq 160), (148, .aload 0), (149, .aload 1), (150, .invokevirtual 850721), (153, .ifCond .eq 160), (156, .iconst 1), (157, .goto 161), (160, .jsr 7), (160, .iconst 0), (161, .jsr 7), (161, .freturn)]
/-- ArchEnds$Reader.readShower(LArchEnds$County;)Z -/
noncomputable def cd_78 : List (Nat × Instr) := [(0, .aload 1), (1, .getfield 1001), (4, .aload 1), (5, .getfield 1040), (8, .aaload), (9, .astore 2), (10, .aload 0), (11, .getfield 7001), (14, .getstatic 0), (17, .invokevirtual 1031021), (20, .ifCond .eq 36), (23, .aload 0), (24, .getfield 7001), (27, .iconst 0), (28, .iconst 15), (30, .invokevirtual 1041031), (33, .ifCond .ne 38), (36, .jsr 7), (36, .iconst 0), (37, .freturn), (38, .aload 2), (39, .aload 0), (40, .getfield 7001), (43, .getfield 10070), (46, .putfield 8000), (49, .aload 0), (50, .getfield 7001), (53, .getstatic 6), (56, .invokevirtual 1031021), (59, .ifCond .eq 78), (62, .aload 0), (63, .getfield 7001), (66, .aload 2), (67, .getfield 8000), (70, .iconst 15), (72, .invokevirtual 1041031), (75, .ifCond .ne 80), (78, .jsr 7), (78, .iconst 0), (79, .freturn), (80, .aload 2), (81, .aload 0), (82, .getfield 7001), (85, .getfield 10070), (88, .putfield 8010), (91, .aload 0), (92, .getfield 7001), (95, .getstatic 7), (98, .invokevirtual 1031021), (101, .ifCond .eq 118), (104, .aload 0), (105, .getfield 7001), (108, .iconst 0), (109, .iconst 999), (112, .invokevirtual 1041031), (115, .ifCond .ne 120), (118, .jsr 7), (118, .iconst 0), (119, .freturn), (120, .aload 2), (121, .aload 0), (122, .getfield 7001), (125, .getfield 10070), (128, .putfield 8020), (131, .aload 0), (132, .getfield 7001), (135, .getstatic 6), (138, .invokevirtual 1031021), (141, .ifCond .eq 161), (144, .aload 0), (145, .getfield 7001), (148, .aload 2), (149, .getfield 8020), (152, .iconst 999), (155, .invokevirtual 1041031), (158, .ifCond .ne 163), (161, .jsr 7), (161, .iconst 0), (162, .freturn), (163, .aload 2), (164, .aload 0), (165, .getfield 7001), (168, .getfield 10070), (171, .putfield 8030), (174, .aload 2), (175, .iconst 0), (176, .putfield 8060), (179, .aload 0), (180, .aload 2), (181, .invokevirtual 790721), (184, .ifCond .eq 195), (187, .aload 0), (188, .aload 2), (189, .invokevirtual 800721), (192, .ifCond .ne 197), (195, .jsr 7), (195, .iconst 0), (196, .freturn), (197, .jsr 5), (197, .aload 1), (198, .dup), (199, .getfield 1040), (202, .iconst 1), (203, .iadd), (204, .putfield 1040), (207, .iconst 1), (208, .freturn)]
/-- ArchEnds$Reader.readDrift(LArchEnds$Shower;)Z -/
noncomputable def cd_79 : List (Nat × Instr) := [(0, .aload 1), (1, .iconst 0), (2, .putfield 8040), (5, .aload 0), (6, .getfield 7001), (9, .getstatic 8), (12, .invokevirtual 1031021), (15, .istore 2), (16, .iload 2), (17, .ifCond .ne 35), (20, .aload 0), (21, .getfield 7001), (24, .getstatic 9), (27, .invokevirtual 1031021), (30, .ifCond .ne 35), (33, .iconst 1), (34, .freturn), (35, .aload 0), (36, .getfield 7001), (39, .iconst 0), (40, .iconst 2), (41, .invokevirtual 1041031), (44, .ifCond .ne 49), (47, .iconst 0), (48, .freturn), (49, .aload 1), (50, .iload 2), (51, .ifCond .eq 64), (54, .aload 0), (55, .getfield 7001), (58, .getfield 10070), (61, .goto 72), (64, .jsr 6), (64, .aload 0), (65, .getfield 7001), (68, .getfield 10070), (71, .ineg), (72, .jsr 7), (72, .putfield 8040), (75, .iconst 1), (76, .freturn)]
/-- ArchEnds$Reader.readChance(LArchEnds$Shower;)Z -/
noncomputable def cd_80 : List (Nat × Instr) := [(0, .aload 1), (1, .iconst 100), (3, .putfield 8050), (6, .aload 0), (7, .getfield 7001), (10, .getstatic 10), (13, .invokevirtual 1031021), (16, .ifCond .ne 21), (19, .iconst 1), (20, .freturn), (21, .aload 0), (22, .getfield 7001), (25, .iconst 0), (26, .iconst 100), (28, .invokevirtual 1041031), (31, .ifCond .ne 36), (34, .iconst 0), (35, .freturn), (36, .aload 1), (37, .aload 0), (38, .getfield 7001), (41, .getfield 10070), (44, .putfield 8050), (47, .iconst 1), (48, .freturn)]
/-- ArchEnds$Reader.readBroker(LArchEnds$County;)Z -/
noncomputable def cd_81 : List (Nat × Instr) := [(0, .aload 1), (1, .getfield 1011), (4, .aload 1), (5, .getfield 1050), (8, .aaload), (9, .astore 2), (10, .aload 0), (11, .getfield 7001), (14, .getstatic 1), (17, .invokevirtual 1031021), (20, .ifCond .eq 37), (23, .aload 0), (24, .getfield 7001), (27, .iconst 0), (28, .iconst 999), (31, .invokevirtual 1041031), (34, .ifCond .ne 39), (37, .jsr 7), (37, .iconst 0), (38, .freturn), (39, .aload 2), (40, .aload 0), (41, .getfield 7001), (44, .getfield 10070), (47, .putfield 0), (50, .aload 0), (51, .getfield 7001), (54, .getstatic 11), (57, .invokevirtual 1031021), (60, .ifCond .eq 76), (63, .aload 0), (64, .getfield 7001), (67, .iconst 0), (68, .iconst 15), (70, .invokevirtual 1041031), (73, .ifCond .ne 78), (76, .jsr 7), (76, .iconst 0), (77, .freturn), (78, .aload 2), (79, .aload 0), (80, .getfield 7001), (83, .getfield 10070), (86, .putfield 10), (89, .aload 0), (90, .getfield 7001), (93, .getstatic 12), (96, .invokevirtual 1031021), (99, .ifCond .eq 114), (102, .aload 0), (103, .getfield 7001), (106, .iconst 1), (107, .iconst 4), (108, .invokevirtual 1041031), (111, .ifCond .ne 116), (114, .jsr 7), (114, .iconst 0), (115, .freturn), (116, .aload 2), (117, .aload 0), (118, .getfield 7001), (121, .getfield 10070), (124, .putfield 20), (127, .aload 1), (128, .dup), (129, .getfield 1050), (132, .iconst 1), (133, .iadd), (134, .putfield 1050), (137, .iconst 1), (138, .freturn)]
/-- ArchEnds$Reader.readDeed(LArchEnds$County;)Z -/
noncomputable def cd_82 : List (Nat × Instr) := [(0, .aload 1), (1, .getfield 1021), (4, .aload 1), (5, .getfield 1060), (8, .aaload), (9, .astore 2), (10, .aload 0), (11, .getfield 7001), (14, .getstatic 2), (17, .invokevirtual 1031021), (20, .ifCond .eq 36), (23, .aload 0), (24, .getfield 7001), (27, .iconst 0), (28, .iconst 15), (30, .invokevirtual 1041031), (33, .ifCond .ne 38), (36, .jsr 7), (36, .iconst 0), (37, .freturn), (38, .aload 2), (39, .aload 0), (40, .getfield 7001), (43, .getfield 10070), (46, .putfield 2000), (49, .aload 0), (50, .getfield 7001), (53, .getstatic 7), (56, .invokevirtual 1031021), (59, .ifCond .eq 76), (62, .aload 0), (63, .getfield 7001), (66, .iconst 0), (67, .iconst 999), (70, .invokevirtual 1041031), (73, .ifCond .ne 78), (76, .jsr 7), (76, .iconst 0), (77, .freturn), (78, .aload 2), (79, .aload 0), (80, .getfield 7001), (83, .getfield 10070), (86, .putfield 2010), (89, .aload 0), (90, .getfield 7001), (93, .getstatic 6), (96, .invokevirtual 1031021), (99, .ifCond .eq 119), (102, .aload 0), (103, .getfield 7001), (106, .aload 2), (107, .getfield 2010), (110, .iconst 999), (113, .invokevirtual 1041031), (116, .ifCond .ne 121), (119, .jsr 7), (119, .iconst 0), (120, .freturn), (121, .aload 2), (122, .aload 0), (123, .getfield 7001), (126, .getfield 10070), (129, .putfield 2020), (132, .aload 0), (133, .getfield 7001), (136, .getstatic 13), (139, .invokevirtual 1031021), (142, .ifCond .eq 159), (145, .aload 0), (146, .getfield 7001), (149, .iconst 0), (150, .iconst 999), (153, .invokevirtual 1041031), (156, .ifCond .ne 161), (159, .jsr 7), (159, .iconst 0), (160, .freturn), (161, .aload 2), (162, .aload 0), (163, .getfield 7001), (166, .getfield 10070), (169, .putfield 2030), (172, .aload 2), (173, .iconst (-1)), (174, .putfield 2040), (177, .aload 2), (178, .iconst 0), (179, .putfield 2050), (182, .aload 2), (183, .iconst 0), (184, .putfield 2062), (187, .aload 1), (188, .dup), (189, .getfield 1060), (192, .iconst 1), (193, .iadd), (194, .putfield 1060), (197, .iconst 1), (198, .freturn)]
/-- ArchEnds$Reader.readRoad(LArchEnds$County;)Z -/
noncomputable def cd_83 : List (Nat × Instr) := [(0, .aload 0), (1, .getfield 7001), (4, .iconst 0), (5, .iconst 15), (7, .invokevirtual 1041031), (10, .ifCond .ne 15), (13, .iconst 0), (14, .freturn), (15, .aload 1), (16, .aload 0), (17, .getfield 7001), (20, .getfield 10070), (23, .putfield 1080), (26, .iconst 1), (27, .freturn)]
/-- ArchEnds$Reader.readWage(LArchEnds$County;)Z -/
noncomputable def cd_84 : List (Nat × Instr) := [(0, .aload 0), (1, .getfield 7001), (4, .iconst 0), (5, .iconst 99), (7, .invokevirtual 1041031), (10, .ifCond .ne 15), (13, .iconst 0), (14, .freturn), (15, .aload 1), (16, .aload 0), (17, .getfield 7001), (20, .getfield 10070), (23, .putfield 1090), (26, .iconst 1), (27, .freturn)]
/-- ArchEnds$Reader.readMinute(LArchEnds$County;)Z -/
noncomputable def cd_85 : List (Nat × Instr) := [(0, .aload 0), (1, .getfield 7001), (4, .iconst 0), (5, .iconst 999), (8, .invokevirtual 1041031), (11, .ifCond .ne 16), (14, .iconst 0), (15, .freturn), (16, .aload 1), (17, .aload 0), (18, .getfield 7001), (21, .getfield 10070), (24, .putfield 1100), (27, .iconst 1), (28, .freturn)]
/-- ArchEnds$Reader.readLaw()LArchEnds$Law; -/
noncomputable def cd_86 : List (Nat × Instr) := [(0, .aload 0), (1, .iconst 0), (2, .putfield 7050), (5, .aload 0), (6, .getfield 7001), (9, .invokevirtual 1021012), (12, .getstatic 37), (15, .if_acmp .ne 43), (18, .new 4), (21, .dup), (22, .iconst 0), (23, .aload 0), (24, .getfield 7011), (27, .aload 0), (28, .getfield 7021), (31, .aload 0), (32, .getfield 7031), (35, .aload 0), (36, .getfield 7041), (39, .invokespecial 479960), (42, .areturn), (43, .jsr 2), (43, .iconst 0), (44, .istore 1), (100045, .goto_w 45), (45, .iload 1), (46, .iconst 12), (48, .if_icmp .ge 122), (51, .aload 0), (52, .iload 1), (53, .invokevirtual 870721), (56, .ifCond .ne 61), (59, .aconst_null), (60, .areturn), (61, .aload 0), (62, .getfield 7001), (65, .invokevirtual 1021012), (68, .getstatic 37), (71, .if_acmp .ne 101), (74, .new 4), (77, .dup), (78, .iload 1), (79, .iconst 1), (80, .iadd), (81, .aload 0), (82, .getfield 7011), (85, .aload 0), (86, .getfield 7021), (89, .aload 0), (90, .getfield 7031), (93, .aload 0), (94, .getfield 7041), (97, .invokespecial 479960), (100, .areturn), (101, .aload 0), (102, .getfield 7001), (105, .getstatic 34), (108, .invokevirtual 1031021), (111, .ifCond .ne 116), (114, .aconst_null), (115, .areturn), (116, .iinc 1 1), (119, .goto 45), (122, .jsr 3), (122, .aconst_null), (123, .areturn)]
/-- ArchEnds$Reader.readLawLine(I)Z -/
noncomputable def cd_87 : List (Nat × Instr) := [(0, .aload 0), (1, .getfield 7001), (4, .invokevirtual 1021012), (7, .astore 2), (8, .aload 2), (9, .getstatic 14), (12, .if_acmp .eq 31), (15, .aload 2), (16, .getstatic 15), (19, .if_acmp .eq 31), (22, .aload 2), (23, .getstatic 16), (26, .if_acmp .eq 31), (29, .iconst 0), (30, .freturn), (31, .aload 0), (32, .getfield 7001), (35, .aload 2), (36, .invokevirtual 1031021), (39, .ifCond .eq 55), (42, .aload 0), (43, .getfield 7001), (46, .iconst 0), (47, .iconst 99), (49, .invokevirtual 1041031), (52, .ifCond .ne 57), (55, .jsr 7), (55, .iconst 0), (56, .freturn), (57, .aload 0), (58, .getfield 7011), (61, .iload 1), (62, .aload 2), (63, .aastore), (64, .aload 0), (65, .getfield 7021), (68, .iload 1), (69, .aload 0), (70, .getfield 7001), (73, .getfield 10070), (76, .iastore), (77, .aload 0), (78, .getfield 7001), (81, .getstatic 17), (84, .invokevirtual 1031021), (87, .ifCond .eq 100), (90, .aload 0), (91, .iconst 0), (92, .invokevirtual 880721), (95, .ifCond .ne 100), (98, .iconst 0), (99, .freturn), (100, .jsr 4), (100, .aload 0), (101, .getfield 7031), (104, .iload 1), (105, .aload 0), (106, .getfield 7050), (109, .iastore), (110, .iconst 1), (111, .freturn)]
/-- ArchEnds$Reader.readAny(I)Z -/
noncomputable def cd_88 : List (Nat × Instr) := [(0, .iconst 0), (1, .istore 2), (100002, .goto_w 2), (2, .iload 2), (3, .iconst 400), (6, .if_icmp .ge 54), (9, .aload 0), (10, .iload 1), (11, .invokevirtual 890721), (14, .ifCond .ne 19), (17, .iconst 0), (18, .freturn), (19, .iload 2), (20, .ifCond .le 33), (23, .aload 0), (24, .getstatic 31), (27, .getfield 9010), (30, .invokevirtual 910720), (33, .aload 0), (34, .getfield 7001), (37, .getstatic 31), (40, .invokevirtual 1031021), (43, .ifCond .ne 48), (46, .iconst 1), (47, .freturn), (48, .iinc 2 1), (51, .goto 2), (54, .jsr 7), (54, .iconst 0), (55, .freturn)]
/-- ArchEnds$Reader.readAll(I)Z -/
noncomputable def cd_89 : List (Nat × Instr) := [(0, .iconst 0), (1, .istore 2), (100002, .goto_w 2), (2, .iload 2), (3, .iconst 400), (6, .if_icmp .ge 54), (9, .aload 0), (10, .iload 1), (11, .invokevirtual 900721), (14, .ifCond .ne 19), (17, .iconst 0), (18, .freturn), (19, .iload 2), (20, .ifCond .le 33), (23, .aload 0), (24, .getstatic 30), (27, .getfield 9010), (30, .invokevirtual 910720), (33, .aload 0), (34, .getfield 7001), (37, .getstatic 30), (40, .invokevirtual 1031021), (43, .ifCond .ne 48), (46, .iconst 1), (47, .freturn), (48, .iinc 2 1), (51, .goto 2), (54, .jsr 7), (54, .iconst 0), (55, .freturn)]
/-- ArchEnds$Reader.readAtom(I)Z -/
noncomputable def cd_90 : List (Nat × Instr) := [(0, .aload 0), (1, .getfield 7001), (4, .invokevirtual 1021012), (7, .astore 2), (8, .aload 2), (9, .getstatic 26), (12, .if_acmp .eq 22), (15, .aload 2), (16, .getstatic 32), (19, .if_acmp .ne 101), (22, .jsr 8), (22, .iload 1), (23, .iconst 6), (25, .if_icmp .ge 39), (28, .aload 0), (29, .getfield 7001), (32, .aload 2), (33, .invokevirtual 1031021), (36, .ifCond .ne 41), (39, .jsr 15), (39, .iconst 0), (40, .freturn), (41, .jsr 8), (41, .aload 2), (42, .getstatic 32), (45, .if_acmp .ne 77), (48, .aload 0), (49, .iload 1), (50, .iconst 1), (51, .iadd), (52, .invokevirtual 880721), (55, .ifCond .eq 75), (58, .aload 0), (59, .getfield 7001), (62, .getstatic 33), (65, .invokevirtual 1031021), (68, .ifCond .eq 75), (71, .iconst 1), (72, .goto 76), (75, .jsr 15), (75, .iconst 0), (76, .jsr 15), (76, .freturn), (77, .jsr 12), (77, .aload 0), (78, .iload 1), (79, .iconst 1), (80, .iadd), (81, .invokevirtual 900721), (84, .ifCond .ne 89), (87, .iconst 0), (88, .freturn), (89, .jsr 14), (89, .aload 0), (90, .getstatic 26), (93, .getfield 9010), (96, .invokevirtual 910720), (99, .iconst 1), (100, .freturn), (101, .jsr 10), (101, .aload 2), (102, .getstatic 24), (105, .if_acmp .eq 115), (108, .aload 2), (109, .getstatic 25), (112, .if_acmp .ne 132), (115, .jsr 10), (115, .aload 0), (116, .aload 2), (117, .getfield 9010), (120, .invokevirtual 910720), (123, .aload 0), (124, .getfield 7001), (127, .aload 2), (128, .invokevirtual 1031021), (131, .freturn), (132, .jsr 14), (132, .aload 0), (133, .invokevirtual 920711), (136, .ifCond .ne 141), (139, .iconst 0), (140, .freturn), (141, .jsr 14), (141, .aload 0), (142, .getfield 7001), (145, .invokevirtual 1021012), (148, .astore 3), (149, .aload 3), (150, .getstatic 28), (153, .if_acmp .eq 165), (156, .aload 3), (157, .getstatic 29), (160, .if_acmp .eq 165), (163, .iconst 0), (164, .freturn), (165, .jsr 6), (165, .aload 0), (166, .getfield 7001), (169, .aload 3), (170, .invokevirtual 1031021), (173, .ifCond .eq 183), (176, .aload 0), (177, .invokevirtual 920711), (180, .ifCond .ne 185), (183, .jsr 15), (183, .iconst 0), (184, .freturn), (185, .jsr 6), (185, .aload 0), (186, .aload 3), (187, .getfield 9010), (190, .invokevirtual 910720), (193, .iconst 1), (194, .freturn)]
/-- ArchEnds$Reader.addStep(I)V -/
noncomputable def cd_91 : List (Nat × Instr) := [(0, .aload 0), (1, .getfield 7050), (4, .aload 0), (5, .getfield 7041), (8, .arraylength), (9, .if_icmp .ge 32), (12, .aload 0), (13, .getfield 7041), (16, .aload 0), (17, .getfield 7050), (20, .iload 1), (21, .iastore), (22, .aload 0), (23, .dup), (24, .getfield 7050), (27, .iconst 1), (28, .iadd), (29, .putfield 7050), (32, .jsr 3), (32, .return_)]
/-- ArchEnds$Reader.readSum()Z -/
noncomputable def cd_92 : List (Nat × Instr) := [(0, .iconst 0), (1, .istore 1), (100002, .goto_w 2), (2, .jsr 4), (2, .iload 1), (3, .iconst 400), (6, .if_icmp .ge 127), (9, .aload 0), (10, .getfield 7001), (13, .invokevirtual 1021012), (16, .astore 2), (17, .aload 0), (18, .getfield 7001), (21, .iconst 0), (22, .iconst 999), (25, .invokevirtual 1041031), (28, .ifCond .eq 45), (31, .aload 0), (32, .aload 0), (33, .getfield 7001), (36, .getfield 10070), (39, .invokevirtual 910720), (42, .goto 92), (45, .aload 2), (46, .getfield 9010), (49, .iconst 1000), (52, .if_icmp .lt 90), (55, .aload 2), (56, .getfield 9010), (59, .getstatic 24), (62, .getfield 9010), (65, .if_icmp .ge 90), (68, .aload 0), (69, .getfield 7001), (72, .aload 2), (73, .invokevirtual 1031021), (76, .ifCond .eq 90), (79, .aload 0), (80, .aload 2), (81, .getfield 9010), (84, .invokevirtual 910720), (87, .goto 92), (90, .jsr 7), (90, .iconst 0), (91, .freturn), (92, .jsr 4), (92, .iload 1), (93, .ifCond .le 106), (96, .aload 0), (97, .getstatic 27), (100, .getfield 9010), (103, .invokevirtual 910720), (106, .jsr 4), (106, .aload 0), (107, .getfield 7001), (110, .getstatic 27), (113, .invokevirtual 1031021), (116, .ifCond .ne 121), (119, .iconst 1), (120, .freturn), (121, .jsr 4), (121, .iinc 1 1), (124, .goto 2), (127, .jsr 7), (127, .iconst 0), (128, .freturn)]
/-- ArchEnds$Shower.<init>()V -/
noncomputable def cd_93 : List (Nat × Instr) := [(0, .aload 0), (1, .monitorexit), (4, .return_)]
/-- ArchEnds$Shower.copyFrom(LArchEnds$Shower;)V -/
noncomputable def cd_94 : List (Nat × Instr) := [(0, .aload 0), (1, .aload 1), (2, .getfield 8000), (5, .putfield 8000), (8, .aload 0), (9, .aload 1), (10, .getfield 8010), (13, .putfield 8010), (16, .aload 0), (17, .aload 1), (18, .getfield 8020), (21, .putfield 8020), (24, .aload 0), (25, .aload 1), (26, .getfield 8030), (29, .putfield 8030), (32, .aload 0), (33, .aload 1), (34, .getfield 8040), (37, .putfield 8040), (40, .aload 0), (41, .aload 1), (42, .getfield 8050), (45, .putfield 8050), (48, .aload 0), (49, .aload 1), (50, .getfield 8060), (53, .putfield 8060), (56, .return_)]
/-- ArchEnds$Shower.acresAt(I)I -/
noncomputable def cd_95 : List (Nat × Instr) := [(0, .iload 1), (1, .aload 0), (2, .getfield 8020), (5, .if_icmp .lt 16), (8, .iload 1), (9, .aload 0), (10, .getfield 8030), (13, .if_icmp .le 18), (16, .jsr 31), (16, .iconst 0), (17, .ireturn), (18, .jsr 28), (18, .aload 0), (19, .getfield 8040), (22, .iload 1), (23, .aload 0), (24, .getfield 8020), (27, .isub), (28, .iconst 4), (29, .idiv), (30, .imul), (31, .istore 2), (32, .aload 0), (33, .getfield 8000), (36, .iload 2), (37, .iadd), (38, .ifCond .ge 45), (41, .iconst 0), (42, .goto 51), (45, .jsr 26), (45, .aload 0), (46, .getfield 8000), (49, .iload 2), (50, .iadd), (51, .jsr 26), (51, .istore 3), (52, .aload 0), (53, .getfield 8010), (56, .iload 2), (57, .iadd), (58, .iconst 16), (60, .if_icmp .lt 68), (63, .iconst 15), (65, .goto 74), (68, .jsr 18), (68, .aload 0), (69, .getfield 8010), (72, .iload 2), (73, .iadd), (74, .jsr 23), (74, .istore 4), (76, .iload 3), (77, .iload 4), (79, .if_icmp .le 84), (82, .iconst 0), (83, .ireturn), (84, .jsr 7), (84, .iconst 2), (85, .iload 4), (87, .ishl), (88, .iconst 1), (89, .iload 3), (90, .ishl), (91, .isub), (92, .ireturn)]
/-- ArchEnds$Tape.<init>()V -/
noncomputable def cd_96 : List (Nat × Instr) := [(0, .aload 0), (1, .monitorexit), (4, .aload 0), (5, .iconst 400), (8, .newarray .int), (10, .putfield 10001), (13, .aload 0), (14, .iconst 401), (17, .anewarray 9), (20, .putfield 10021), (23, .aload 0), (24, .iconst 401), (27, .newarray .int), (29, .putfield 10031), (32, .aload 0), (33, .iconst 401), (36, .newarray .int), (38, .putfield 10041), (41, .return_)]
/-- ArchEnds$Tape.append(I)V -/
noncomputable def cd_97 : List (Nat × Instr) := [(0, .iconst 24), (2, .istore 2), (100003, .goto_w 3), (3, .iload 2), (4, .ifCond .lt 51), (7, .aload 0), (8, .getfield 10010), (11, .aload 0), (12, .getfield 10001), (15, .arraylength), (16, .if_icmp .ge 51), (19, .aload 0), (20, .getfield 10001), (23, .aload 0), (24, .getfield 10010), (27, .iload 1), (28, .iload 2), (29, .iushr), (30, .iconst 255), (33, .iand), (34, .iastore), (35, .aload 0), (36, .dup), (37, .getfield 10010), (40, .iconst 1), (41, .iadd), (42, .putfield 10010), (45, .iinc 2 (-8)), (48, .goto 3), (51, .jsr 7), (51, .return_)]
/-- ArchEnds$Tape.split()V -/
noncomputable def cd_98 : List (Nat × Instr) := [(0, .aload 0), (1, .iconst 0), (2, .putfield 10050), (5, .aload 0), (6, .iconst 0), (7, .putfield 10060), (10, .iconst 3), (11, .istore 1), (12, .iconst 0), (13, .istore 2), (100014, .goto_w 14), (14, .jsr 8), (14, .iload 2), (15, .aload 0), (16, .getfield 10010), (19, .if_icmp .ge 110), (22, .aload 0), (23, .getfield 10001), (26, .iload 2), (27, .iaload), (28, .invokestatic 999911), (31, .istore 3), (32, .iload 3), (33, .iconst 3), (34, .if_icmp .eq 66), (37, .iload 3), (38, .iconst 32), (40, .if_icmp .eq 66), (43, .iload 3), (44, .iload 1), (45, .if_icmp .ne 66), (48, .aload 0), (49, .getfield 10041), (52, .aload 0), (53, .getfield 10050), (56, .iconst 1), (57, .isub), (58, .dup2), (59, .iaload), (60, .iconst 1), (61, .iadd), (62, .iastore), (63, .goto 102), (66, .jsr 2), (66, .iload 3), (67, .iconst 32), (69, .if_icmp .eq 102), (72, .aload 0), (73, .getfield 10031), (76, .aload 0), (77, .getfield 10050), (80, .iload 2), (81, .iastore), (82, .aload 0), (83, .getfield 10041), (86, .aload 0), (87, .getfield 10050), (90, .iconst 1), (91, .iastore), (92, .aload 0), (93, .dup), (94, .getfield 10050), (97, .iconst 1), (98, .iadd), (99, .putfield 10050), (102, .jsr 2), (102, .iload 3), (103, .istore 1), (104, .iinc 2 1), (107, .goto 14), (110, .jsr 14), (110, .iconst 0), (111, .istore 2), (100112, .goto_w 112), (112, .jsr 10), (112, .iload 2), (113, .aload 0), (114, .getfield 10050), (117, .if_icmp .ge 148), (120, .aload 0), (121, .getfield 10021), (124, .iload 2), (125, .aload 0), (126, .aload 0), (127, .getfield 10031), (130, .iload 2), (131, .iaload), (132, .aload 0), (133, .getfield 10041), (136, .iload 2), (137, .iaload), (138, .invokevirtual 1001032), (141, .aastore), (142, .iinc 2 1), (145, .goto 112), (148, .jsr 14), (148, .aload 0), (149, .getfield 10021), (152, .aload 0), (153, .getfield 10050), (156, .getstatic 37), (159, .aastore), (160, .aload 0), (161, .getfield 10031), (164, .aload 0), (165, .getfield 10050), (168, .aload 0), (169, .getfield 10010), (172, .iastore), (173, .return_)]
/-- ArchEnds$Tape.kindOf(I)I -/
noncomputable def cd_99 : List (Nat × Instr) := [(0, .iload 0), (1, .iconst 32), (3, .if_icmp .ne 9), (6, .iconst 32), (8, .ireturn), (9, .iload 0), (10, .iconst 97), (12, .if_icmp .lt 23), (15, .iload 0), (16, .iconst 122), (18, .if_icmp .gt 23), (21, .iconst 1), (22, .ireturn), (23, .iload 0), (24, .iconst 48), (26, .if_icmp .lt 39), (29, .iload 0), (30, .iconst 57), (32, .if_icmp .gt 39), (35, .iconst 2), (36, .goto 40), (39, .jsr 1), (39, .iconst 3), (40, .jsr 1), (40, .ireturn)]
/-- ArchEnds$Tape.signOf(II)LArchEnds$Sign; -/
noncomputable def cd_100 : List (Nat × Instr) := [(0, .aload 0), (1, .getfield 10001), (4, .iload 1), (5, .iaload), (6, .invokestatic 999911), (9, .iconst 2), (10, .if_icmp .ne 28), (13, .iload 2), (14, .iconst 3), (15, .if_icmp .gt 24), (18, .getstatic 35), (21, .goto 27), (24, .jsr 15), (24, .getstatic 36), (27, .jsr 15), (27, .areturn), (28, .jsr 8), (28, .iconst 0), (29, .istore 3), (100030, .goto_w 30), (30, .iload 3), (31, .getstatic 38), (34, .arraylength), (35, .if_icmp .ge 67), (38, .aload 0), (39, .getstatic 38), (42, .iload 3), (43, .daload), (44, .getfield 9001), (47, .iload 1), (48, .iload 2), (49, .invokevirtual 1011041), (52, .ifCond .eq 61), (55, .getstatic 38), (58, .iload 3), (59, .daload), (60, .areturn), (61, .iinc 3 1), (64, .goto 30), (67, .jsr 15), (67, .getstatic 36), (70, .areturn)]
/-- ArchEnds$Tape.matches(Ljava/lang/String;II)Z -/
noncomputable def cd_101 : List (Nat × Instr) := [(0, .aload 1), (1, .invokevirtual 3181311), (4, .iload 3), (5, .if_icmp .eq 10), (8, .iconst 0), (9, .freturn), (10, .jsr 16), (10, .iconst 0), (11, .istore 4), (100013, .goto_w 13), (13, .iload 4), (15, .iload 3), (16, .if_icmp .ge 45), (19, .aload 1), (20, .iload 4), (22, .invokevirtual 3201321), (25, .aload 0), (26, .getfield 10001), (29, .iload 2), (30, .iload 4), (32, .iadd), (33, .iaload), (34, .if_icmp .eq 39), (37, .iconst 0), (38, .freturn), (39, .iinc 4 1), (42, .goto 13), (45, .jsr 31), (45, .iconst 1), (46, .freturn)]
/-- ArchEnds$Tape.next()LArchEnds$Sign; -/
noncomputable def cd_102 : List (Nat × Instr) := [(0, .aload 0), (1, .getfield 10021), (4, .aload 0), (5, .getfield 10060), (8, .aaload), (9, .areturn)]
/-- ArchEnds$Tape.pass(LArchEnds$Sign;)Z -/
noncomputable def cd_103 : List (Nat × Instr) := [(0, .aload 0), (1, .getfield 10021), (4, .aload 0), (5, .getfield 10060), (8, .aaload), (9, .aload 1), (10, .if_acmp .ne 24), (13, .aload 0), (14, .getfield 10060), (17, .aload 0), (18, .getfield 10050), (21, .if_icmp .lt 26), (24, .jsr 3), (24, .iconst 0), (25, .freturn), (26, .jsr 2), (26, .aload 0), (27, .dup), (28, .getfield 10060), (31, .iconst 1), (32, .iadd), (33, .putfield 10060), (36, .iconst 1), (37, .freturn)]
/-- ArchEnds$Tape.passNumber(II)Z -/
noncomputable def cd_104 : List (Nat × Instr) := [(0, .aload 0), (1, .getfield 10021), (4, .aload 0), (5, .getfield 10060), (8, .aaload), (9, .getstatic 35), (12, .if_acmp .eq 17), (15, .iconst 0), (16, .freturn), (17, .jsr 24), (17, .iconst 0), (18, .istore 3), (19, .iconst 0), (20, .istore 4), (100022, .goto_w 22), (22, .iload 4), (24, .aload 0), (25, .getfield 10041), (28, .aload 0), (29, .getfield 10060), (32, .iaload), (33, .if_icmp .ge 68), (36, .iconst 10), (38, .iload 3), (39, .imul), (40, .aload 0), (41, .getfield 10001), (44, .aload 0), (45, .getfield 10031), (48, .aload 0), (49, .getfield 10060), (52, .iaload), (53, .iload 4), (55, .iadd), (56, .iaload), (57, .iadd), (58, .iconst 48), (60, .isub), (61, .istore 3), (62, .iinc 4 1), (65, .goto 22), (68, .jsr 16), (68, .iload 3), (69, .iload 1), (70, .if_icmp .lt 78), (73, .iload 3), (74, .iload 2), (75, .if_icmp .le 80), (78, .jsr 31), (78, .iconst 0), (79, .freturn), (80, .jsr 22), (80, .aload 0), (81, .iload 3), (82, .putfield 10070), (85, .aload 0), (86, .dup), (87, .getfield 10060), (90, .iconst 1), (91, .iadd), (92, .putfield 10060), (95, .iconst 1), (96, .freturn)]
/-- ArchEnds$Tape.nextBegin()I -/
noncomputable def cd_105 : List (Nat × Instr) := [(0, .aload 0), (1, .getfield 10031), (4, .aload 0), (5, .getfield 10060), (8, .iaload), (9, .ireturn)]
/-- ArchEnds.<init>()V -/
noncomputable def cd_106 : List (Nat × Instr) := [(0, .aload 0), (1, .monitorexit), (4, .aload 0), (5, .new 10), (8, .dup), (9, .invokespecial 969910), (12, .putfield 11001), (15, .aload 0), (16, .new 7), (19, .dup), (20, .aload 0), (21, .getfield 11001), (24, .invokespecial 759920), (27, .putfield 11011), (30, .aload 0), (31, .new 1), (34, .dup), (35, .invokespecial 49910), (38, .putfield 11021), (41, .aload 0), (42, .new 1), (45, .dup), (46, .invokespecial 49910), (49, .putfield 11031), (52, .aload 0), (53, .new 1), (56, .dup), (57, .invokespecial 49910), (60, .putfield 11041), (63, .aload 0), (64, .iconst 12), (66, .anewarray 1), (69, .putfield 11051), (72, .aload 0), (73, .new 3), (76, .dup), (77, .aload 0), (78, .getfield 11021), (81, .invokespecial 249920), (84, .putfield 11061), (87, .aload 0), (88, .new 6), (91, .dup), (92, .aload 0), (93, .getfield 11021), (96, .aload 0), (97, .getfield 11061), (100, .invokespecial 569930), (103, .putfield 11071), (106, .aload 0), (107, .iconst (-1)), (108, .putfield 11110), (111, .iconst 0), (112, .istore 1), (100113, .goto_w 113), (113, .iload 1), (114, .aload 0), (115, .getfield 11051), (118, .arraylength), (119, .if_icmp .ge 141), (122, .aload 0), (123, .getfield 11051), (126, .iload 1), (127, .new 1), (130, .dup), (131, .invokespecial 49910), (134, .aastore), (135, .iinc 1 1), (138, .goto 113), (141, .jsr 3), (141, .return_)]
/-- ArchEnds.feed(IIIII)I -/
noncomputable def cd_107 : List (Nat × Instr) := [(0, .aload 0), (1, .getfield 11001), (4, .getfield 10010), (7, .iconst 20), (9, .iadd), (10, .iconst 400), (13, .if_icmp .le 18), (16, .iconst (-1)), (17, .ireturn), (18, .aload 0), (19, .getfield 11001), (22, .iload 1), (23, .invokevirtual 971020), (26, .aload 0), (27, .getfield 11001), (30, .iload 2), (31, .invokevirtual 971020), (34, .aload 0), (35, .getfield 11001), (38, .iload 3), (39, .invokevirtual 971020), (42, .aload 0), (43, .getfield 11001), (46, .iload 4), (48, .invokevirtual 971020), (51, .aload 0), (52, .getfield 11001), (55, .iload 5), (57, .invokevirtual 971020), (60, .aload 0), (61, .getfield 11001), (64, .getfield 10010), (67, .ireturn)]
/-- ArchEnds.end(I)Z -/
noncomputable def cd_108 : List (Nat × Instr) := [(0, .iload 1), (1, .ifCond .lt 15), (4, .iload 1), (5, .aload 0), (6, .getfield 11001), (9, .getfield 10010), (12, .if_icmp .le 17), (15, .jsr 3), (15, .iconst 0), (16, .freturn), (17, .aload 0), (18, .getfield 11001), (21, .iload 1), (22, .putfield 10010), (25, .iconst 1), (26, .freturn)]
/-- ArchEnds.fault()I -/
noncomputable def cd_109 : List (Nat × Instr) := [(0, .aload 0), (1, .getfield 11110), (4, .ireturn)]
/-- ArchEnds.dry()I -/
noncomputable def cd_110 : List (Nat × Instr) := [(0, .aload 0), (1, .getfield 11061), (4, .invokevirtual 250311), (7, .ireturn)]
/-- ArchEnds.rich()I -/
noncomputable def cd_111 : List (Nat × Instr) := [(0, .aload 0), (1, .getfield 11071), (4, .invokevirtual 570611), (7, .ireturn)]
/-- ArchEnds.clash()I -/
noncomputable def cd_112 : List (Nat × Instr) := [(0, .aload 0), (1, .getfield 11071), (4, .invokevirtual 580611), (7, .ireturn)]
/-- ArchEnds.seed(I)I -/
noncomputable def cd_113 : List (Nat × Instr) := [(0, .aload 0), (1, .getfield 11021), (4, .getfield 1110), (7, .istore 2), (8, .aload 0), (9, .getfield 11021), (12, .iload 1), (13, .putfield 1110), (16, .iload 2), (17, .ireturn)]
/-- ArchEnds.undo()Z -/
noncomputable def cd_114 : List (Nat × Instr) := [(0, .aload 0), (1, .getfield 11100), (4, .ifCond .ne 9), (7, .iconst 0), (8, .freturn), (9, .aload 0), (10, .dup), (11, .getfield 11100), (14, .iconst 1), (15, .isub), (16, .putfield 11100), (19, .aload 0), (20, .getfield 11021), (23, .aload 0), (24, .getfield 11051), (27, .aload 0), (28, .getfield 11090), (31, .aload 0), (32, .getfield 11100), (35, .iadd), (36, .iconst 12), (38, .irem), (39, .aaload), (40, .invokevirtual 60120), (43, .iconst 1), (44, .freturn)]
/-- ArchEnds.image()V -/
noncomputable def cd_115 : List (Nat × Instr) := [(0, .aload 0), (1, .getfield 11041), (4, .aload 0), (5, .getfield 11021), (8, .invokevirtual 60120), (11, .aload 0), (12, .iconst 1), (13, .putfield 11082), (16, .return_)]
/-- ArchEnds.back()Z -/
noncomputable def cd_116 : List (Nat × Instr) := [(0, .aload 0), (1, .getfield 11080), (4, .ifCond .ne 9), (7, .iconst 0), (8, .freturn), (9, .aload 0), (10, .getfield 11021), (13, .aload 0), (14, .getfield 11041), (17, .invokevirtual 60120), (20, .aload 0), (21, .invokevirtual 1171110), (24, .iconst 1), (25, .freturn)]
/-- ArchEnds.forgetActs()V -/
noncomputable def cd_117 : List (Nat × Instr) := [(0, .aload 0), (1, .iconst 0), (2, .putfield 11090), (5, .aload 0), (6, .iconst 0), (7, .putfield 11100), (10, .return_)]
/-- ArchEnds.count(I)I -/
noncomputable def cd_118 : List (Nat × Instr) := [(0, .iload 1), (1, .tableswitch 177 0 11 #[64, 72, 80, 88, 96, 121, 129, 137, 145, 153, 161, 172]), (64, .jsr 2), (64, .aload 0), (65, .getfield 11021), (68, .getfield 1040), (71, .ireturn), (72, .jsr 2), (72, .aload 0), (73, .getfield 11021), (76, .getfield 1050), (79, .ireturn), (80, .jsr 2), (80, .aload 0), (81, .getfield 11021), (84, .getfield 1060), (87, .ireturn), (88, .jsr 2), (88, .aload 0), (89, .getfield 11021), (92, .getfield 1070), (95, .ireturn), (96, .jsr 2), (96, .aload 0), (97, .getfield 11021), (100, .getfield 1123), (103, .ifnonnull 110), (106, .iconst (-1)), (107, .goto 120), (110, .jsr 2), (110, .aload 0), (111, .getfield 11021), (114, .getfield 1123), (117, .getfield 4000), (120, .jsr 3), (120, .ireturn), (121, .jsr 2), (121, .aload 0), (122, .getfield 11021), (125, .getfield 1100), (128, .ireturn), (129, .jsr 2), (129, .aload 0), (130, .getfield 11021), (133, .getfield 1080), (136, .ireturn), (137, .jsr 2), (137, .aload 0), (138, .getfield 11021), (141, .getfield 1090), (144, .ireturn), (145, .jsr 2), (145, .aload 0), (146, .getfield 11021), (149, .invokevirtual 70111), (152, .ireturn), (153, .jsr 2), (153, .aload 0), (154, .getfield 11021), (157, .invokevirtual 80111), (160, .ireturn), (161, .jsr 2), (161, .aload 0), (162, .getfield 11021), (165, .getfield 1031), (168, .getfield 5000), (171, .ireturn), (172, .jsr 2), (172, .aload 0), (173, .getfield 11100), (176, .ireturn), (177, .jsr 3), (177, .iconst (-1)), (178, .ireturn)]
/-- ArchEnds.county()I -/
noncomputable def cd_119 : List (Nat × Instr) := [(0, .aload 0), (1, .getfield 11031), (4, .aload 0), (5, .getfield 11021), (8, .invokevirtual 60120), (11, .aload 0), (12, .getfield 11001), (15, .invokevirtual 981010), (18, .aload 0), (19, .getfield 11011), (22, .aload 0), (23, .getfield 11031), (26, .invokevirtual 760721), (29, .istore 1), (30, .aload 0), (31, .iload 1), (32, .invokevirtual 1201120), (35, .iload 1), (36, .ifCond .ne 49), (39, .new 100), (49, .jsr 2), (49, .aload 0), (50, .getfield 11021), (53, .getfield 1070), (56, .iconst 12), (58, .if_icmp .lt 71), (61, .new 101), (71, .jsr 2), (71, .aload 0), (72, .getfield 11031), (75, .dup), (76, .getfield 1070), (79, .iconst 1), (80, .iadd), (81, .putfield 1070), (84, .aload 0), (85, .getfield 11021), (88, .aload 0), (89, .getfield 11031), (92, .invokevirtual 60120), (95, .aload 0), (96, .invokevirtual 1171110), (99, .aload 0), (100, .getfield 11021), (103, .getfield 1070), (106, .ireturn)]
/-- ArchEnds.closeText(Z)V -/
noncomputable def cd_120 : List (Nat × Instr) := [(0, .aload 0), (1, .iload 1), (2, .ifCond .eq 9), (5, .iconst (-1)), (6, .goto 16), (9, .jsr 2), (9, .aload 0), (10, .getfield 11001), (13, .invokevirtual 1051011), (16, .jsr 2), (16, .putfield 11110), (19, .aload 0), (20, .getfield 11001), (23, .iconst 0), (24, .putfield 10010), (27, .return_)]
/-- ArchEnds.law()I -/
noncomputable def cd_121 : List (Nat × Instr) := [(0, .aload 0), (1, .getfield 11001), (4, .invokevirtual 981010), (7, .aload 0), (8, .getfield 11011), (11, .invokevirtual 860713), (14, .astore 1), (15, .aload 0), (16, .aload 1), (17, .ifnull 24), (20, .iconst 1), (21, .goto 25), (24, .iconst 0), (25, .invokevirtual 1201120), (28, .aload 1), (29, .ifnonnull 42), (32, .new 100), (42, .aload 0), (43, .getfield 11021), (46, .aload 1), (47, .putfield 1121), (50, .aload 0), (51, .invokevirtual 1171110), (54, .aload 1), (55, .getfield 4000), (58, .ireturn)]
/-- ArchEnds.shower(II)I -/
noncomputable def cd_122 : List (Nat × Instr) := [(0, .aload 0), (1, .iload 1), (2, .invokevirtual 1231120), (5, .aload 0), (6, .getfield 11021), (9, .getfield 1001), (12, .iload 1), (13, .aaload), (14, .astore 3), (15, .iload 2), (16, .tableswitch 97 0 6 #[60, 65, 70, 75, 80, 87, 92]), (60, .jsr 7), (60, .aload 3), (61, .getfield 8000), (64, .ireturn), (65, .jsr 7), (65, .aload 3), (66, .getfield 8010), (69, .ireturn), (70, .jsr 7), (70, .aload 3), (71, .getfield 8020), (74, .ireturn), (75, .jsr 7), (75, .aload 3), (76, .getfield 8030), (79, .ireturn), (80, .jsr 7), (80, .aload 3), (81, .getfield 8040), (84, .iconst 2), (85, .iadd), (86, .ireturn), (87, .jsr 7), (87, .aload 3), (88, .getfield 8050), (91, .ireturn), (92, .jsr 7), (92, .aload 3), (93, .getfield 8060), (96, .ireturn), (97, .jsr 15), (97, .new 103)]
/-- ArchEnds.checkShower(I)V -/
noncomputable def cd_123 : List (Nat × Instr) := [(0, .iload 1), (1, .ifCond .lt 15), (4, .iload 1), (5, .aload 0), (6, .getfield 11021), (9, .getfield 1040), (12, .if_icmp .lt 26), (15, .jsr 3), (15, .new 102), (26, .jsr 3), (26, .return_)]
/-- ArchEnds.broker(II)I -/
noncomputable def cd_124 : List (Nat × Instr) := [(0, .aload 0), (1, .iload 1), (2, .invokevirtual 1251120), (5, .aload 0), (6, .getfield 11021), (9, .getfield 1011), (12, .iload 1), (13, .aaload), (14, .astore 3), (15, .iload 2), (16, .tableswitch 98 0 5 #[56, 61, 66, 71, 80, 89]), (56, .jsr 7), (56, .aload 3), (57, .getfield 0), (60, .ireturn), (61, .jsr 7), (61, .aload 3), (62, .getfield 10), (65, .ireturn), (66, .jsr 7), (66, .aload 3), (67, .getfield 20), (70, .ireturn), (71, .jsr 12), (71, .aload 0), (72, .getfield 11021), (75, .iload 1), (76, .invokevirtual 90121), (79, .ireturn), (80, .jsr 12), (80, .aload 0), (81, .getfield 11021), (84, .iload 1), (85, .invokevirtual 130121), (88, .ireturn), (89, .jsr 12), (89, .aload 0), (90, .getfield 11021), (93, .iload 1), (94, .invokevirtual 50121), (97, .ireturn), (98, .jsr 15), (98, .new 103)]
/-- ArchEnds.checkBroker(I)V -/
noncomputable def cd_125 : List (Nat × Instr) := [(0, .iload 1), (1, .ifCond .lt 15), (4, .iload 1), (5, .aload 0), (6, .getfield 11021), (9, .getfield 1050), (12, .if_icmp .lt 26), (15, .jsr 3), (15, .new 102), (26, .jsr 3), (26, .return_)]
/-- ArchEnds.reachAt(I)I -/
noncomputable def cd_126 : List (Nat × Instr) := [(0, .iload 0), (1, .invokestatic 1279911), (4, .istore 1), (5, .iload 1), (6, .ifCond .eq 15), (9, .iload 1), (10, .iconst 42), (12, .if_icmp .le 19), (15, .jsr 3), (15, .iconst (-1)), (16, .goto 26), (19, .jsr 1), (19, .iconst 42), (21, .iload 1), (22, .isub), (23, .iconst 6), (25, .idiv), (26, .jsr 3), (26, .ireturn)]
/-- ArchEnds.sunAt(I)I -/
noncomputable def cd_127 : List (Nat × Instr) := [(0, .iload 0), (1, .iconst 96), (3, .irem), (4, .istore 1), (5, .iload 1), (6, .iconst 48), (8, .if_icmp .ge 15), (11, .iload 1), (12, .goto 19), (15, .jsr 1), (15, .iconst 96), (17, .iload 1), (18, .isub), (19, .jsr 3), (19, .ireturn)]
/-- ArchEnds.isIn(II)Z -/
noncomputable def cd_128 : List (Nat × Instr) := [(0, .iload 0), (1, .iload 1), (2, .ishr), (3, .iconst 1), (4, .iand), (5, .ifCond .eq 12), (8, .iconst 1), (9, .goto 13), (12, .jsr 3), (12, .iconst 0), (13, .jsr 3), (13, .freturn)]
/-- ArchEnds.deed(II)I -/
noncomputable def cd_129 : List (Nat × Instr) := [(0, .aload 0), (1, .iload 1), (2, .invokevirtual 1301120), (5, .aload 0), (6, .getfield 11021), (9, .getfield 1021), (12, .iload 1), (13, .aaload), (14, .astore 3), (15, .iload 2), (16, .tableswitch 103 0 6 #[60, 65, 70, 75, 80, 85, 90]), (60, .jsr 7), (60, .aload 3), (61, .getfield 2000), (64, .ireturn), (65, .jsr 7), (65, .aload 3), (66, .getfield 2010), (69, .ireturn), (70, .jsr 7), (70, .aload 3), (71, .getfield 2020), (74, .ireturn), (75, .jsr 7), (75, .aload 3), (76, .getfield 2030), (79, .ireturn), (80, .jsr 7), (80, .aload 3), (81, .getfield 2040), (84, .ireturn), (85, .jsr 7), (85, .aload 3), (86, .getfield 2050), (89, .ireturn), (90, .jsr 7), (90, .aload 3), (91, .getfield 2060), (94, .ifCond .eq 101), (97, .iconst 1), (98, .goto 102), (101, .jsr 15), (101, .iconst 0), (102, .jsr 15), (102, .ireturn), (103, .jsr 15), (103, .new 103)]
/-- ArchEnds.checkDeed(I)V -/
noncomputable def cd_130 : List (Nat × Instr) := [(0, .iload 1), (1, .ifCond .lt 15), (4, .iload 1), (5, .aload 0), (6, .getfield 11021), (9, .getfield 1060), (12, .if_icmp .lt 26), (15, .jsr 3), (15, .new 102), (26, .jsr 3), (26, .return_)]
/-- ArchEnds.costs(II)I -/
noncomputable def cd_131 : List (Nat × Instr) := [(0, .aload 0), (1, .iload 1), (2, .invokevirtual 1251120), (5, .aload 0), (6, .iload 2), (7, .invokevirtual 1301120), (10, .aload 0), (11, .getfield 11021), (14, .iload 1), (15, .iload 2), (16, .invokevirtual 140131), (19, .ireturn)]
/-- ArchEnds.brings(III)I -/
noncomputable def cd_132 : List (Nat × Instr) := [(0, .aload 0), (1, .iload 1), (2, .invokevirtual 1251120), (5, .aload 0), (6, .iload 2), (7, .invokevirtual 1301120), (10, .iload 3), (11, .invokestatic 1339910), (14, .aload 0), (15, .getfield 11021), (18, .iload 1), (19, .iload 2), (20, .iload 3), (21, .invokevirtual 150141), (24, .ireturn)]
/-- ArchEnds.checkMinute(I)V -/
noncomputable def cd_133 : List (Nat × Instr) := [(0, .iload 0), (1, .iconst 0), (2, .iconst 9999), (5, .invokestatic 1349930), (8, .return_)]
/-- ArchEnds.checkNumber(III)V -/
noncomputable def cd_134 : List (Nat × Instr) := [(0, .iload 0), (1, .iload 1), (2, .if_icmp .lt 10), (5, .iload 0), (6, .iload 2), (7, .if_icmp .le 21), (10, .jsr 7), (10, .new 100), (21, .jsr 7), (21, .return_)]
/-- ArchEnds.buy(II)I -/
noncomputable def cd_135 : List (Nat × Instr) := [(0, .aload 0), (1, .iload 1), (2, .invokevirtual 1251120), (5, .aload 0), (6, .iload 2), (7, .invokevirtual 1301120), (10, .aload 0), (11, .getfield 11021), (14, .getfield 1021), (17, .iload 2), (18, .aaload), (19, .astore 3), (20, .aload 0), (21, .getfield 11021), (24, .getfield 1011), (27, .iload 1), (28, .aaload), (29, .astore 4), (31, .aload 0), (32, .getfield 11021), (35, .iload 1), (36, .iload 2), (37, .invokevirtual 140131), (40, .istore 5), (42, .aload 3), (43, .getfield 2040), (46, .iconst (-1)), (47, .if_icmp .ne 60), (50, .aload 4), (52, .getfield 0), (55, .iload 5), (57, .if_icmp .ge 70), (60, .jsr 63), (60, .new 104), (70, .jsr 4), (70, .aload 0), (71, .invokevirtual 1361110), (74, .aload 4), (76, .dup), (77, .getfield 0), (80, .iload 5), (82, .isub), (83, .putfield 0), (86, .aload 3), (87, .iload 1), (88, .putfield 2040), (91, .aload 3), (92, .iconst 0), (93, .putfield 2050), (96, .aload 3), (97, .iconst 0), (98, .putfield 2062), (101, .aload 4), (103, .getfield 0), (106, .ireturn)]
/-- ArchEnds.remember()V -/
noncomputable def cd_136 : List (Nat × Instr) := [(0, .aload 0), (1, .getfield 11051), (4, .aload 0), (5, .getfield 11090), (8, .aload 0), (9, .getfield 11100), (12, .iadd), (13, .iconst 12), (15, .irem), (16, .aaload), (17, .aload 0), (18, .getfield 11021), (21, .invokevirtual 60120), (24, .aload 0), (25, .getfield 11100), (28, .iconst 12), (30, .if_icmp .ge 46), (33, .aload 0), (34, .dup), (35, .getfield 11100), (38, .iconst 1), (39, .iadd), (40, .putfield 11100), (43, .goto 59), (46, .aload 0), (47, .aload 0), (48, .getfield 11090), (51, .iconst 1), (52, .iadd), (53, .iconst 12), (55, .irem), (56, .putfield 11090), (59, .jsr 1), (59, .return_)]
/-- ArchEnds.sell(II)I -/
noncomputable def cd_137 : List (Nat × Instr) := [(0, .aload 0), (1, .iload 1), (2, .invokevirtual 1301120), (5, .aload 0), (6, .iload 2), (7, .invokevirtual 1251120), (10, .aload 0), (11, .getfield 11021), (14, .getfield 1021), (17, .iload 1), (18, .aaload), (19, .astore 3), (20, .aload 3), (21, .getfield 2040), (24, .iload 2), (25, .if_icmp .ne 38), (28, .new 100), (38, .jsr 112), (38, .aload 0), (39, .getfield 11021), (42, .aload 3), (43, .invokevirtual 160123), (46, .astore 4), (48, .aload 0), (49, .getfield 11021), (52, .getfield 1011), (55, .iload 2), (56, .aaload), (57, .astore 5), (59, .aload 0), (60, .getfield 11021), (63, .iload 2), (64, .iload 1), (65, .invokevirtual 140131), (68, .istore 6), (70, .aload 4), (72, .ifnull 85), (75, .aload 5), (77, .getfield 0), (80, .iload 6), (82, .if_icmp .ge 95), (85, .jsr 127), (85, .new 104), (95, .jsr 2), (95, .aload 0), (96, .invokevirtual 1361110), (99, .aload 5), (101, .dup), (102, .getfield 0), (105, .iload 6), (107, .isub), (108, .putfield 0), (111, .aload 4), (113, .iload 6), (115, .invokevirtual 20020), (118, .aload 3), (119, .iload 2), (120, .putfield 2040), (123, .iload 6), (125, .ireturn)]
/-- ArchEnds.go(II)I -/
noncomputable def cd_138 : List (Nat × Instr) := [(0, .aload 0), (1, .iload 1), (2, .invokevirtual 1251120), (5, .iload 2), (6, .invokestatic 1399910), (9, .aload 0), (10, .getfield 11021), (13, .getfield 1011), (16, .iload 1), (17, .aaload), (18, .astore 3), (19, .aload 3), (20, .getfield 10), (23, .iload 2), (24, .invokestatic 1409921), (27, .istore 4), (29, .iload 4), (31, .aload 0), (32, .getfield 11021), (35, .iload 1), (36, .invokevirtual 90121), (39, .if_icmp .le 52), (42, .new 100), (52, .jsr 2), (52, .aload 0), (53, .invokevirtual 1361110), (56, .aload 3), (57, .iload 2), (58, .putfield 10), (61, .iload 4), (63, .ireturn)]
/-- ArchEnds.checkAcre(I)V -/
noncomputable def cd_139 : List (Nat × Instr) := [(0, .iload 0), (1, .ifCond .lt 10), (4, .iload 0), (5, .iconst 16), (7, .if_icmp .lt 21), (10, .jsr 1), (10, .new 102), (21, .jsr 1), (21, .return_)]
/-- ArchEnds.apart(II)I -/
noncomputable def cd_140 : List (Nat × Instr) := [(0, .iload 0), (1, .iload 1), (2, .if_icmp .ge 11), (5, .iload 1), (6, .iload 0), (7, .isub), (8, .goto 14), (11, .iload 0), (12, .iload 1), (13, .isub), (14, .jsr 3), (14, .ireturn)]
/-- ArchEnds.tell(II)I -/
noncomputable def cd_141 : List (Nat × Instr) := [(0, .aload 0), (1, .iload 1), (2, .invokevirtual 1231120), (5, .iload 2), (6, .ifCond .lt 14), (9, .iload 2), (10, .iconst 2), (11, .if_icmp .le 24), (14, .jsr 15), (14, .new 100), (24, .jsr 8), (24, .aload 0), (25, .invokevirtual 1361110), (28, .aload 0), (29, .getfield 11021), (32, .getfield 1001), (35, .iload 1), (36, .aaload), (37, .getfield 8060), (40, .istore 3), (41, .aload 0), (42, .getfield 11021), (45, .getfield 1001), (48, .iload 1), (49, .aaload), (50, .iload 2), (51, .putfield 8060), (54, .iload 3), (55, .ireturn)]
/-- ArchEnds.road(I)I -/
noncomputable def cd_142 : List (Nat × Instr) := [(0, .iload 1), (1, .invokestatic 1399910), (4, .aload 0), (5, .invokevirtual 1361110), (8, .aload 0), (9, .getfield 11021), (12, .getfield 1080), (15, .istore 2), (16, .aload 0), (17, .getfield 11021), (20, .iload 1), (21, .putfield 1080), (24, .iload 2), (25, .ireturn)]
/-- ArchEnds.insure(I)I -/
noncomputable def cd_143 : List (Nat × Instr) := [(0, .aload 0), (1, .iload 1), (2, .invokevirtual 1301120), (5, .aload 0), (6, .getfield 11021), (9, .getfield 1021), (12, .iload 1), (13, .aaload), (14, .astore 2), (15, .aload 0), (16, .getfield 11021), (19, .aload 2), (20, .invokevirtual 160123), (23, .astore 3), (24, .aload 3), (25, .ifnull 49), (28, .aload 2), (29, .getfield 2060), (32, .ifCond .ne 49), (35, .aload 3), (36, .getfield 0), (39, .aload 0), (40, .getfield 11021), (43, .getfield 1090), (46, .if_icmp .ge 60), (49, .jsr 15), (49, .new 104), (60, .jsr 2), (60, .aload 0), (61, .invokevirtual 1361110), (64, .aload 3), (65, .dup), (66, .getfield 0), (69, .aload 0), (70, .getfield 11021), (73, .getfield 1090), (76, .isub), (77, .putfield 0), (80, .aload 2), (81, .iconst 1), (82, .putfield 2062), (85, .aload 3), (86, .getfield 0), (89, .ireturn)]
/-- ArchEnds.minutes(I)I -/
noncomputable def cd_144 : List (Nat × Instr) := [(0, .iload 1), (1, .iconst 1), (2, .iconst 100), (4, .invokestatic 1349930), (7, .aload 0), (8, .invokevirtual 1361110), (11, .aload 0), (12, .getfield 11021), (15, .iload 1), (16, .iconst 1), (17, .invokevirtual 170131), (20, .ireturn)]
/-- ArchEnds.footFrom(II)I -/
noncomputable def cd_145 : List (Nat × Instr) := [(0, .iload 1), (1, .invokestatic 1269911), (4, .istore 2), (5, .iload 2), (6, .iconst (-1)), (7, .if_icmp .ne 12), (10, .iconst (-1)), (11, .ireturn), (12, .jsr 8), (12, .iload 1), (13, .iconst 96), (15, .irem), (16, .iconst 48), (18, .if_icmp .ge 27), (21, .iload 0), (22, .iload 2), (23, .isub), (24, .goto 30), (27, .jsr 10), (27, .iload 0), (28, .iload 2), (29, .iadd), (30, .jsr 15), (30, .istore 3), (31, .iload 3), (32, .ifCond .lt 45), (35, .iload 3), (36, .iconst 16), (38, .if_icmp .ge 45), (41, .iload 3), (42, .goto 46), (45, .jsr 15), (45, .iconst (-1)), (46, .jsr 15), (46, .ireturn)]
/-- ArchEnds.sun(I)I -/
noncomputable def cd_146 : List (Nat × Instr) := [(0, .iload 1), (1, .invokestatic 1339910), (4, .iload 1), (5, .invokestatic 1279911), (8, .ireturn)]
/-- ArchEnds.reach(I)I -/
noncomputable def cd_147 : List (Nat × Instr) := [(0, .iload 1), (1, .invokestatic 1339910), (4, .iload 1), (5, .invokestatic 1269911), (8, .ireturn)]
/-- ArchEnds.foot(II)I -/
noncomputable def cd_148 : List (Nat × Instr) := [(0, .iload 1), (1, .invokestatic 1399910), (4, .iload 2), (5, .invokestatic 1339910), (8, .iload 1), (9, .iload 2), (10, .invokestatic 1459921), (13, .ireturn)]
/-- ArchEnds.arch(II)Z -/
noncomputable def cd_149 : List (Nat × Instr) := [(0, .iload 1), (1, .invokestatic 1399910), (4, .iload 2), (5, .invokestatic 1339910), (8, .aload 0), (9, .getfield 11021), (12, .iload 1), (13, .iload 2), (14, .invokevirtual 200131), (17, .iconst (-1)), (18, .if_icmp .eq 25), (21, .iconst 1), (22, .goto 26), (25, .jsr 7), (25, .iconst 0), (26, .jsr 7), (26, .freturn)]
/-- ArchEnds.wets(II)I -/
noncomputable def cd_150 : List (Nat × Instr) := [(0, .iload 1), (1, .invokestatic 1399910), (4, .iload 2), (5, .invokestatic 1339910), (8, .aload 0), (9, .getfield 11021), (12, .iload 1), (13, .iload 2), (14, .invokevirtual 110131), (17, .ireturn)]
/-- ArchEnds.looks(II)I -/
noncomputable def cd_151 : List (Nat × Instr) := [(0, .iload 1), (1, .invokestatic 1399910), (4, .iload 2), (5, .invokestatic 1339910), (8, .aload 0), (9, .getfield 11061), (12, .iload 1), (13, .iload 2), (14, .invokevirtual 260331), (17, .ireturn)]
/-- ArchEnds.stands(III)I -/
noncomputable def cd_152 : List (Nat × Instr) := [(0, .iload 1), (1, .invokestatic 1399910), (4, .iload 2), (5, .invokestatic 1339910), (8, .iload 3), (9, .iconst 1), (10, .iconst 96), (12, .invokestatic 1349930), (15, .aload 0), (16, .getfield 11061), (19, .iload 1), (20, .iload 2), (21, .iload 3), (22, .invokevirtual 270341), (25, .ireturn)]
/-- ArchEnds.best(II)I -/
noncomputable def cd_153 : List (Nat × Instr) := [(0, .iload 1), (1, .invokestatic 1339910), (4, .iload 2), (5, .iconst 1), (6, .iconst 96), (8, .invokestatic 1349930), (11, .aload 0), (12, .getfield 11061), (15, .iload 1), (16, .iload 2), (17, .invokevirtual 280331), (20, .ireturn)]
/-- ArchEnds.first(II)I -/
noncomputable def cd_154 : List (Nat × Instr) := [(0, .iload 1), (1, .invokestatic 1399910), (4, .iload 2), (5, .invokestatic 1339910), (8, .aload 0), (9, .getfield 11061), (12, .iload 1), (13, .iload 2), (14, .invokevirtual 310331), (17, .ireturn)]
/-- ArchEnds.site(III)I -/
noncomputable def cd_155 : List (Nat × Instr) := [(0, .iload 1), (1, .invokestatic 1399910), (4, .iload 2), (5, .invokestatic 1339910), (8, .iload 3), (9, .iconst 1), (10, .iconst 96), (12, .invokestatic 1349930), (15, .aload 0), (16, .getfield 11061), (19, .iload 1), (20, .iload 2), (21, .iload 3), (22, .invokevirtual 320341), (25, .ireturn)]
/-- ArchEnds.odds(II)I -/
noncomputable def cd_156 : List (Nat × Instr) := [(0, .iload 1), (1, .invokestatic 1399910), (4, .iload 2), (5, .invokestatic 1339910), (8, .aload 0), (9, .getfield 11061), (12, .iload 1), (13, .iload 2), (14, .invokevirtual 340331), (17, .ireturn)]
/-- ArchEnds.hope(I)I -/
noncomputable def cd_157 : List (Nat × Instr) := [(0, .aload 0), (1, .iload 1), (2, .invokevirtual 1301120), (5, .aload 0), (6, .getfield 11061), (9, .aload 0), (10, .getfield 11021), (13, .getfield 1021), (16, .iload 1), (17, .aaload), (18, .invokevirtual 350321), (21, .ireturn)]
/-- ArchEnds.gain(II)I -/
noncomputable def cd_158 : List (Nat × Instr) := [(0, .aload 0), (1, .iload 1), (2, .invokevirtual 1251120), (5, .aload 0), (6, .iload 2), (7, .invokevirtual 1301120), (10, .aload 0), (11, .getfield 11071), (14, .iload 1), (15, .iload 2), (16, .invokevirtual 600631), (19, .ireturn)]
/-- ArchEnds.deals(IZ)I -/
noncomputable def cd_159 : List (Nat × Instr) := [(0, .aload 0), (1, .iload 1), (2, .invokevirtual 1251120), (5, .aload 0), (6, .getfield 11071), (9, .iload 1), (10, .invokevirtual 610621), (13, .istore 3), (14, .iload 2), (15, .ifCond .eq 29), (18, .aload 0), (19, .getfield 11071), (22, .iload 3), (23, .invokevirtual 630621), (26, .goto 30), (29, .jsr 7), (29, .iload 3), (30, .jsr 15), (30, .ireturn)]
/-- ArchEnds.meet(II)I -/
noncomputable def cd_160 : List (Nat × Instr) := [(0, .aload 0), (1, .iload 1), (2, .invokevirtual 1251120), (5, .aload 0), (6, .iload 2), (7, .invokevirtual 1251120), (10, .iload 1), (11, .iload 2), (12, .invokestatic 1619920), (15, .aload 0), (16, .getfield 11071), (19, .aload 0), (20, .getfield 11021), (23, .getfield 1011), (26, .iload 1), (27, .aaload), (28, .aload 0), (29, .getfield 11021), (32, .getfield 1011), (35, .iload 2), (36, .aaload), (37, .invokevirtual 640631), (40, .ireturn)]
/-- ArchEnds.checkTwo(II)V -/
noncomputable def cd_161 : List (Nat × Instr) := [(0, .iload 0), (1, .iload 1), (2, .if_icmp .ne 16), (5, .new 100), (16, .jsr 3), (16, .return_)]
/-- ArchEnds.send(I)I -/
noncomputable def cd_162 : List (Nat × Instr) := [(0, .aload 0), (1, .getfield 11071), (4, .aload 0), (5, .getfield 11001), (8, .invokevirtual 650621), (11, .istore 2), (12, .aload 0), (13, .getfield 11001), (16, .iconst 0), (17, .putfield 10010), (20, .iload 1), (21, .iconst (-1)), (22, .if_icmp .eq 30), (25, .aload 0), (26, .iload 1), (27, .invokevirtual 1251120), (30, .iload 2), (31, .ifCond .ne 45), (34, .new 100), (45, .jsr 4), (45, .aload 0), (46, .getfield 11071), (49, .invokevirtual 660610), (52, .iload 1), (53, .iconst (-1)), (54, .if_icmp .ne 67), (57, .aload 0), (58, .getfield 11071), (61, .invokevirtual 680611), (64, .goto 75), (67, .jsr 4), (67, .aload 0), (68, .getfield 11071), (71, .iload 1), (72, .invokevirtual 690621), (75, .jsr 7), (75, .ireturn)]
/-- ArchEnds.rush(I)I -/
noncomputable def cd_163 : List (Nat × Instr) := [(0, .iload 1), (1, .invokestatic 1399910), (4, .aload 0), (5, .getfield 11071), (8, .iload 1), (9, .invokevirtual 710621), (12, .ireturn)]
/-- ArchEnds.seen(IZ)I -/
noncomputable def cd_164 : List (Nat × Instr) := [(0, .aload 0), (1, .iload 1), (2, .invokevirtual 1651120), (5, .iload 2), (6, .ifCond .eq 20), (9, .aload 0), (10, .getfield 11061), (13, .iload 1), (14, .invokevirtual 370321), (17, .goto 28), (20, .jsr 4), (20, .aload 0), (21, .getfield 11061), (24, .iload 1), (25, .invokevirtual 400321), (28, .jsr 7), (28, .ireturn)]
/-- ArchEnds.takeSights(I)V -/
noncomputable def cd_165 : List (Nat × Instr) := [(0, .aload 0), (1, .getfield 11061), (4, .aload 0), (5, .getfield 11001), (8, .invokevirtual 360321), (11, .istore 2), (12, .aload 0), (13, .getfield 11001), (16, .iconst 0), (17, .putfield 10010), (20, .iload 2), (21, .ifCond .ne 35), (24, .new 100), (35, .jsr 5), (35, .iload 1), (36, .invokestatic 1339910), (39, .return_)]
/-- ArchEnds.ask(I)I -/
noncomputable def cd_166 : List (Nat × Instr) := [(0, .aload 0), (1, .iload 1), (2, .invokevirtual 1651120), (5, .aload 0), (6, .getfield 11061), (9, .iload 1), (10, .invokevirtual 410321), (13, .ireturn)]
/-- ArchEnds.spray(I)I -/
noncomputable def cd_167 : List (Nat × Instr) := [(0, .iload 1), (1, .invokestatic 1339910), (4, .aload 0), (5, .getfield 11061), (8, .iload 1), (9, .invokevirtual 440321), (12, .ireturn)]
/-- ArchEnds.both(IIII)I -/
noncomputable def cd_168 : List (Nat × Instr) := [(0, .iload 1), (1, .invokestatic 1399910), (4, .iload 2), (5, .invokestatic 1399910), (8, .iload 1), (9, .iload 2), (10, .invokestatic 1619920), (13, .iload 3), (14, .invokestatic 1339910), (17, .iload 4), (19, .iconst 1), (20, .iconst 96), (22, .invokestatic 1349930), (25, .aload 0), (26, .getfield 11061), (29, .iload 1), (30, .iload 2), (31, .iload 3), (32, .iload 4), (34, .invokevirtual 450351), (37, .ireturn)]
/-- ArchEnds.rests(IIII)I -/
noncomputable def cd_169 : List (Nat × Instr) := [(0, .aload 0), (1, .iload 1), (2, .invokevirtual 1251120), (5, .aload 0), (6, .iload 2), (7, .invokevirtual 1251120), (10, .aload 0), (11, .iload 3), (12, .invokevirtual 1301120), (15, .aload 0), (16, .iload 4), (18, .invokevirtual 1301120), (21, .iload 1), (22, .iload 2), (23, .invokestatic 1619920), (26, .iload 3), (27, .iload 4), (29, .invokestatic 1619920), (32, .aload 0), (33, .getfield 11071), (36, .iload 1), (37, .iload 2), (38, .iload 3), (39, .iload 4), (41, .invokevirtual 720651), (44, .ireturn)]
/-- ArchEnds.row(III)I -/
noncomputable def cd_170 : List (Nat × Instr) := [(0, .iload 1), (1, .iconst 1), (2, .iconst 20), (4, .invokestatic 1349930), (7, .iload 2), (8, .invokestatic 1339910), (11, .aload 0), (12, .getfield 11061), (15, .iload 1), (16, .iload 2), (17, .iload 3), (18, .invokevirtual 460341), (21, .ireturn)]
/-- ArchEnds.ahead(II)I -/
noncomputable def cd_171 : List (Nat × Instr) := [(0, .aload 0), (1, .iload 1), (2, .invokevirtual 1251120), (5, .iload 2), (6, .iconst 0), (7, .iconst 200), (10, .invokestatic 1349930), (13, .aload 0), (14, .getfield 11031), (17, .aload 0), (18, .getfield 11021), (21, .invokevirtual 60120), (24, .aload 0), (25, .getfield 11031), (28, .iload 2), (29, .iconst 0), (30, .invokevirtual 170131), (33, .pop), (34, .aload 0), (35, .getfield 11031), (38, .getfield 1011), (41, .iload 1), (42, .aaload), (43, .getfield 0), (46, .ireturn)]
/-- ArchEnds.trial(IZ)I -/
noncomputable def cd_172 : List (Nat × Instr) := [(0, .iload 1), (1, .iconst 0), (2, .iconst 100), (4, .invokestatic 1349930), (7, .aload 0), (8, .iload 1), (9, .aload 0), (10, .getfield 11021), (13, .getfield 1110), (16, .invokevirtual 1731131), (19, .istore 3), (20, .iload 2), (21, .ifCond .eq 34), (24, .aload 0), (25, .getfield 11031), (28, .invokevirtual 70111), (31, .goto 35), (34, .jsr 7), (34, .iload 3), (35, .jsr 15), (35, .ireturn)]
/-- ArchEnds.tryOut(II)I -/
noncomputable def cd_173 : List (Nat × Instr) := [(0, .aload 0), (1, .getfield 11031), (4, .aload 0), (5, .getfield 11021), (8, .invokevirtual 60120), (11, .aload 0), (12, .getfield 11031), (15, .iload 2), (16, .putfield 1110), (19, .aload 0), (20, .getfield 11031), (23, .iload 1), (24, .iconst 1), (25, .invokevirtual 170131), (28, .ireturn)]
/-- ArchEnds.span(IZ)I -/
noncomputable def cd_174 : List (Nat × Instr) := [(0, .iload 1), (1, .iconst 0), (2, .iconst 100), (4, .invokestatic 1349930), (7, .aload 0), (8, .iload 1), (9, .iconst 1), (10, .invokevirtual 1731131), (13, .istore 3), (14, .iconst 2), (15, .istore 4), (100017, .goto_w 17), (17, .jsr 32), (17, .iload 4), (19, .iconst 6), (21, .if_icmp .gt 61), (24, .aload 0), (25, .iload 1), (26, .iload 4), (28, .invokevirtual 1731131), (31, .istore 5), (33, .iload 2), (34, .ifCond .eq 46), (37, .iload 5), (39, .iload 3), (40, .if_icmp .le 55), (43, .goto 52), (46, .iload 5), (48, .iload 3), (49, .if_icmp .ge 55), (52, .jsr 8), (52, .iload 5), (54, .istore 3), (55, .jsr 32), (55, .iinc 4 1), (58, .goto 17), (61, .jsr 55), (61, .iload 3), (62, .ireturn)]
/-- ArchEnds.led(IZ)I -/
noncomputable def cd_175 : List (Nat × Instr) := [(0, .iload 1), (1, .invokestatic 1399910), (4, .iload 2), (5, .ifCond .eq 22), (8, .aload 0), (9, .getfield 11021), (12, .getfield 1031), (15, .iload 1), (16, .invokevirtual 530521), (19, .goto 33), (22, .jsr 4), (22, .aload 0), (23, .getfield 11021), (26, .getfield 1031), (29, .iload 1), (30, .invokevirtual 550521), (33, .jsr 7), (33, .ireturn)]
/-- ArchEnds.log(II)I -/
noncomputable def cd_176 : List (Nat × Instr) := [(0, .iload 2), (1, .ifCond .lt 9), (4, .iload 2), (5, .iconst 4), (6, .if_icmp .lt 20), (9, .jsr 7), (9, .new 103), (20, .aload 0), (21, .getfield 11021), (24, .getfield 1031), (27, .iload 1), (28, .iload 2), (29, .invokevirtual 540531), (32, .ireturn)]
/-- ArchEndsModel.thrown()I -/
noncomputable def cd_177 : List (Nat × Instr) := [(0, .aload 0), (1, .getfield 12000), (4, .ireturn)]
/-- ArchEndsModel.<init>()V -/
noncomputable def cd_178 : List (Nat × Instr) := [(0, .aload 0), (1, .monitorexit), (4, .aload 0), (5, .iconst 2061), (8, .newarray .int), (10, .putfield 12011), (13, .aload 0), (14, .iconst 1212), (17, .newarray .int), (19, .putfield 12021), (22, .aload 0), (23, .iconst 1212), (26, .newarray .int), (28, .putfield 12031), (31, .aload 0), (32, .iconst 363), (35, .newarray .int), (37, .putfield 12041), (40, .aload 0), (41, .iconst 4356), (44, .newarray .int), (46, .putfield 12051), (49, .aload 0), (50, .iconst 400), (53, .newarray .byte), (55, .putfield 12081), (58, .aload 0), (59, .iconst (-1)), (60, .putfield 12140), (63, .aload 0), (64, .iconst 5), (65, .newarray .int), (67, .putfield 12151), (70, .aload 0), (71, .iconst 400), (74, .newarray .int), (76, .putfield 12171), (79, .aload 0), (80, .iconst 8), (82, .newarray .int), (84, .putfield 12211), (87, .aload 0), (88, .iconst 8), (90, .newarray .int), (92, .putfield 12221), (95, .aload 0), (96, .iconst 192), (99, .newarray .int), (101, .putfield 12231), (104, .aload 0), (105, .getfield 12011), (108, .iconst 6), (110, .iconst 8), (112, .iastore), (113, .aload 0), (114, .getfield 12011), (117, .iconst 7), (119, .iconst 5), (120, .iastore), (121, .aload 0), (122, .getfield 12011), (125, .iconst 9), (127, .iconst 1), (128, .iastore), (129, .return_)]
/-- ArchEndsModel.image()V -/
noncomputable def cd_179 : List (Nat × Instr) := [(0, .aload 0), (1, .iconst 0), (2, .putfield 12000), (5, .iconst 0), (6, .istore 1), (100007, .goto_w 7), (7, .iload 1), (8, .iconst 1212), (11, .if_icmp .ge 32), (14, .aload 0), (15, .getfield 12021), (18, .iload 1), (19, .aload 0), (20, .getfield 12011), (23, .iload 1), (24, .iaload), (25, .iastore), (26, .iinc 1 1), (29, .goto 7), (32, .jsr 2), (32, .aload 0), (33, .iconst 1), (34, .putfield 12062), (37, .return_)]
/-- ArchEndsModel.back()Z -/
noncomputable def cd_180 : List (Nat × Instr) := [(0, .aload 0), (1, .iconst 0), (2, .putfield 12000), (5, .aload 0), (6, .getfield 12060), (9, .ifCond .ne 14), (12, .iconst 0), (13, .freturn), (14, .jsr 2), (14, .iconst 0), (15, .istore 1), (100016, .goto_w 16), (16, .iload 1), (17, .iconst 1212), (20, .if_icmp .ge 41), (23, .aload 0), (24, .getfield 12011), (27, .iload 1), (28, .aload 0), (29, .getfield 12021), (32, .iload 1), (33, .iaload), (34, .iastore), (35, .iinc 1 1), (38, .goto 16), (41, .jsr 2), (41, .aload 0), (42, .iconst 0), (43, .putfield 12070), (46, .iconst 1), (47, .freturn)]
/-- ArchEndsModel.undo()Z -/
noncomputable def cd_181 : List (Nat × Instr) := [(0, .aload 0), (1, .iconst 0), (2, .putfield 12000), (5, .aload 0), (6, .getfield 12070), (9, .ifCond .ne 14), (12, .iconst 0), (13, .freturn), (14, .jsr 2), (14, .aload 0), (15, .dup), (16, .getfield 12070), (19, .iconst 1), (20, .isub), (21, .putfield 12070), (24, .iconst 0), (25, .istore 1), (100026, .goto_w 26), (26, .iload 1), (27, .iconst 363), (30, .if_icmp .ge 60), (33, .aload 0), (34, .getfield 12011), (37, .iload 1), (38, .aload 0), (39, .getfield 12051), (42, .iconst 363), (45, .aload 0), (46, .getfield 12070), (49, .imul), (50, .iload 1), (51, .iadd), (52, .iaload), (53, .iastore), (54, .iinc 1 1), (57, .goto 26), (60, .jsr 3), (60, .iconst 1), (61, .freturn)]
/-- ArchEndsModel.feed(IIIII)I -/
noncomputable def cd_182 : List (Nat × Instr) := [(0, .aload 0), (1, .iconst 0), (2, .putfield 12000), (5, .aload 0), (6, .getfield 12090), (9, .iconst 20), (11, .iadd), (12, .iconst 400), (15, .if_icmp .le 20), (18, .iconst (-1)), (19, .ireturn), (20, .jsr 64), (20, .aload 0), (21, .getfield 12151), (24, .iconst 0), (25, .iload 1), (26, .iastore), (27, .aload 0), (28, .getfield 12151), (31, .iconst 1), (32, .iload 2), (33, .iastore), (34, .aload 0), (35, .getfield 12151), (38, .iconst 2), (39, .iload 3), (40, .iastore), (41, .aload 0), (42, .getfield 12151), (45, .iconst 3), (46, .iload 4), (48, .iastore), (49, .aload 0), (50, .getfield 12151), (53, .iconst 4), (54, .iload 5), (56, .iastore), (57, .iconst 0), (58, .istore 6), (100060, .goto_w 60), (60, .jsr 62), (60, .iload 6), (62, .iconst 20), (64, .if_icmp .ge 106), (67, .aload 0), (68, .getfield 12081), (71, .aload 0), (72, .getfield 12090), (75, .iload 6), (77, .iadd), (78, .aload 0), (79, .getfield 12151), (82, .iload 6), (84, .iconst 4), (85, .idiv), (86, .iaload), (87, .iconst 24), (89, .iconst 8), (91, .iload 6), (93, .iconst 4), (94, .irem), (95, .imul), (96, .isub), (97, .ishr), (98, .i2b), (99, .bastore), (100, .iinc 6 1), (103, .goto 60), (106, .jsr 126), (106, .aload 0), (107, .dup), (108, .getfield 12090), (111, .iconst 20), (113, .iadd), (114, .putfield 12090), (117, .aload 0), (118, .getfield 12090), (121, .ireturn)]
/-- ArchEndsModel.end(I)Z -/
noncomputable def cd_183 : List (Nat × Instr) := [(0, .aload 0), (1, .iconst 0), (2, .putfield 12000), (5, .iload 1), (6, .ifCond .lt 17), (9, .iload 1), (10, .aload 0), (11, .getfield 12090), (14, .if_icmp .le 19), (17, .jsr 3), (17, .iconst 0), (18, .freturn), (19, .aload 0), (20, .iload 1), (21, .putfield 12090), (24, .iconst 1), (25, .freturn)]
/-- ArchEndsModel.fault()I -/
noncomputable def cd_184 : List (Nat × Instr) := [(0, .aload 0), (1, .iconst 0), (2, .putfield 12000), (5, .aload 0), (6, .getfield 12140), (9, .ireturn)]
/-- ArchEndsModel.county()I -/
noncomputable def cd_185 : List (Nat × Instr) := [(0, .iconst 0), (1, .istore 1), (100002, .goto_w 2), (2, .jsr 4), (2, .iload 1), (3, .iconst 1212), (6, .if_icmp .ge 27), (9, .aload 0), (10, .getfield 12031), (13, .iload 1), (14, .aload 0), (15, .getfield 12011), (18, .iload 1), (19, .iaload), (20, .iastore), (21, .iinc 1 1), (24, .goto 2), (27, .jsr 6), (27, .aload 0), (28, .iconst 1), (29, .invokevirtual 1861221), (32, .istore 1), (33, .aload 0), (34, .iload 1), (35, .ifCond .ge 45), (38, .aload 0), (39, .getfield 12120), (42, .goto 46), (45, .jsr 4), (45, .iconst (-1)), (46, .jsr 4), (46, .putfield 12140), (49, .aload 0), (50, .iload 1), (51, .ifCond .ge 58), (54, .iconst 1), (55, .goto 59), (58, .jsr 6), (58, .iconst 0), (59, .jsr 6), (59, .iconst 1), (60, .invokevirtual 2161231), (63, .ifCond .ne 90), (66, .aload 0), (67, .aload 0), (68, .getfield 12011), (71, .iconst 3), (72, .iaload), (73, .iconst 12), (75, .if_icmp .ne 82), (78, .iconst 1), (79, .goto 83), (82, .jsr 6), (82, .iconst 0), (83, .jsr 6), (83, .iconst 2), (84, .invokevirtual 2161231), (87, .ifCond .eq 119), (90, .jsr 6), (90, .iconst 0), (91, .istore 2), (100092, .goto_w 92), (92, .jsr 2), (92, .iload 2), (93, .iconst 1212), (96, .if_icmp .ge 117), (99, .aload 0), (100, .getfield 12011), (103, .iload 2), (104, .aload 0), (105, .getfield 12031), (108, .iload 2), (109, .iaload), (110, .iastore), (111, .iinc 2 1), (114, .goto 92), (117, .jsr 7), (117, .iconst 0), (118, .ireturn), (119, .jsr 6), (119, .aload 0), (120, .getfield 12011), (123, .iconst 3), (124, .dup2), (125, .iaload), (126, .iconst 1), (127, .iadd), (128, .iastore), (129, .aload 0), (130, .iconst 0), (131, .putfield 12070), (134, .aload 0), (135, .getfield 12011), (138, .iconst 3), (139, .iaload), (140, .ireturn)]
/-- ArchEndsModel.readAll(Z)I -/
noncomputable def cd_186 : List (Nat × Instr) := [(0, .aload 0), (1, .invokevirtual 1871210), (4, .aload 0), (5, .iconst 0), (6, .putfield 12160), (9, .aload 0), (10, .invokevirtual 1881210), (13, .aload 0), (14, .getfield 12100), (17, .aload 0), (18, .getfield 12110), (21, .if_icmp .ne 26), (24, .iconst 0), (25, .ireturn), (26, .jsr 4), (26, .iconst 0), (27, .istore 2), (100028, .goto_w 28), (28, .aload 0), (29, .iload 1), (30, .iload 2), (31, .invokevirtual 1901231), (34, .ifCond .ne 39), (37, .iconst (-1)), (38, .ireturn), (39, .aload 0), (40, .invokevirtual 1881210), (43, .aload 0), (44, .getfield 12100), (47, .aload 0), (48, .getfield 12110), (51, .if_icmp .ne 58), (54, .iload 2), (55, .iconst 1), (56, .iadd), (57, .ireturn), (58, .aload 0), (59, .iconst 59), (61, .iconst 59), (63, .invokevirtual 1891231), (66, .ifCond .ne 71), (69, .iconst (-1)), (70, .ireturn), (71, .aload 0), (72, .dup), (73, .getfield 12100), (76, .iconst 1), (77, .iadd), (78, .putfield 12100), (81, .iinc 2 1), (84, .goto 28)]
/-- ArchEndsModel.uses()V -/
noncomputable def cd_187 : List (Nat × Instr) := [(0, .aload 0), (1, .iconst 0), (2, .putfield 12000), (5, .aload 0), (6, .aload 0), (7, .getfield 12090), (10, .putfield 12110), (13, .aload 0), (14, .iconst 0), (15, .putfield 12090), (18, .aload 0), (19, .iconst 0), (20, .putfield 12100), (23, .return_)]
/-- ArchEndsModel.blanks()V -/
noncomputable def cd_188 : List (Nat × Instr) := [(100000, .goto_w 0), (0, .aload 0), (1, .iconst 32), (3, .iconst 32), (5, .invokevirtual 1891231), (8, .ifCond .eq 24), (11, .aload 0), (12, .dup), (13, .getfield 12100), (16, .iconst 1), (17, .iadd), (18, .putfield 12100), (21, .goto 0), (24, .aload 0), (25, .aload 0), (26, .getfield 12100), (29, .putfield 12120), (32, .return_)]
/-- ArchEndsModel.isAt(II)Z -/
noncomputable def cd_189 : List (Nat × Instr) := [(0, .aload 0), (1, .getfield 12100), (4, .aload 0), (5, .getfield 12110), (8, .if_icmp .ge 41), (11, .aload 0), (12, .getfield 12081), (15, .aload 0), (16, .getfield 12100), (19, .baload), (20, .iload 1), (21, .if_icmp .lt 41), (24, .aload 0), (25, .getfield 12081), (28, .aload 0), (29, .getfield 12100), (32, .baload), (33, .iload 2), (34, .if_icmp .gt 41), (37, .iconst 1), (38, .goto 42), (41, .jsr 7), (41, .iconst 0), (42, .jsr 7), (42, .freturn)]
/-- ArchEndsModel.readLine(ZI)Z -/
noncomputable def cd_190 : List (Nat × Instr) := [(0, .aload 0), (1, .invokevirtual 1911210), (4, .iload 2), (5, .iload 1), (6, .ifCond .eq 14), (9, .iconst 14), (11, .goto 16), (14, .iconst 12), (16, .if_icmp .ge 45), (19, .iload 1), (20, .ifCond .eq 33), (23, .aload 0), (24, .invokevirtual 1921211), (27, .ifCond .eq 45), (30, .goto 41), (33, .jsr 2), (33, .aload 0), (34, .iload 2), (35, .invokevirtual 2071221), (38, .ifCond .eq 45), (41, .jsr 7), (41, .iconst 1), (42, .goto 46), (45, .jsr 7), (45, .iconst 0), (46, .jsr 7), (46, .freturn)]
/-- ArchEndsModel.letters()V -/
noncomputable def cd_191 : List (Nat × Instr) := [(0, .aload 0), (1, .invokevirtual 1881210), (100004, .goto_w 4), (4, .aload 0), (5, .iconst 97), (7, .iconst 122), (9, .invokevirtual 1891231), (12, .ifCond .eq 28), (15, .aload 0), (16, .dup), (17, .getfield 12100), (20, .iconst 1), (21, .iadd), (22, .putfield 12100), (25, .goto 4), (28, .jsr 1), (28, .return_)]
/-- ArchEndsModel.readCountyLine()Z -/
noncomputable def cd_192 : List (Nat × Instr) := [(0, .aload 0), (1, .ldc 120), (3, .invokevirtual 1931221), (6, .ifCond .eq 14), (9, .aload 0), (10, .invokevirtual 1941211), (13, .freturn), (14, .aload 0), (15, .ldc 126), (17, .invokevirtual 1931221), (20, .ifCond .eq 28), (23, .aload 0), (24, .invokevirtual 2001211), (27, .freturn), (28, .aload 0), (29, .ldc 129), (31, .invokevirtual 1931221), (34, .ifCond .eq 42), (37, .aload 0), (38, .invokevirtual 2031211), (41, .freturn), (42, .aload 0), (43, .ldc 131), (45, .invokevirtual 1931221), (48, .ifCond .eq 61), (51, .aload 0), (52, .iconst 6), (54, .iconst 0), (55, .iconst 15), (57, .invokevirtual 2061241), (60, .freturn), (61, .aload 0), (62, .ldc 132), (64, .invokevirtual 1931221), (67, .ifCond .eq 80), (70, .aload 0), (71, .iconst 7), (73, .iconst 0), (74, .iconst 99), (76, .invokevirtual 2061241), (79, .freturn), (80, .aload 0), (81, .ldc 133), (83, .invokevirtual 1931221), (86, .ifCond .eq 105), (89, .aload 0), (90, .iconst 5), (91, .iconst 0), (92, .iconst 999), (95, .invokevirtual 2061241), (98, .ifCond .eq 105), (101, .iconst 1), (102, .goto 106), (105, .jsr 1), (105, .iconst 0), (106, .jsr 1), (106, .freturn)]
/-- ArchEndsModel.isWord(Ljava/lang/String;)Z -/
noncomputable def cd_193 : List (Nat × Instr) := [(0, .aload 0), (1, .getfield 12100), (4, .aload 0), (5, .getfield 12120), (8, .isub), (9, .aload 1), (10, .invokevirtual 3181311), (13, .if_icmp .ne 20), (16, .iconst 1), (17, .goto 21), (20, .jsr 12), (20, .iconst 0), (21, .jsr 12), (21, .istore 2), (22, .iconst 0), (23, .istore 3), (100024, .goto_w 24), (24, .iload 2), (25, .ifCond .eq 67), (28, .iload 3), (29, .aload 1), (30, .invokevirtual 3181311), (33, .if_icmp .ge 67), (36, .aload 0), (37, .getfield 12081), (40, .aload 0), (41, .getfield 12120), (44, .iload 3), (45, .iadd), (46, .baload), (47, .aload 1), (48, .iload 3), (49, .invokevirtual 3201321), (52, .if_icmp .ne 59), (55, .iconst 1), (56, .goto 60), (59, .jsr 4), (59, .iconst 0), (60, .jsr 4), (60, .istore 2), (61, .iinc 3 1), (64, .goto 24), (67, .jsr 11), (67, .iload 2), (68, .freturn)]
/-- ArchEndsModel.readShower()Z -/
noncomputable def cd_194 : List (Nat × Instr) := [(0, .aload 0), (1, .invokevirtual 1951211), (4, .istore 1), (5, .iload 1), (6, .iconst 6), (8, .if_icmp .ne 13), (11, .iconst 0), (12, .freturn), (13, .jsr 28), (13, .iconst 10), (15, .iconst 7), (17, .iload 1), (18, .imul), (19, .iadd), (20, .istore 2), (21, .aload 0), (22, .iload 2), (23, .iconst 0), (24, .iadd), (25, .aload 0), (26, .iconst 0), (27, .iconst 15), (29, .invokevirtual 1961231), (32, .iconst 15), (34, .invokevirtual 1971241), (37, .ifCond .eq 63), (40, .aload 0), (41, .iload 2), (42, .iconst 2), (43, .iadd), (44, .aload 0), (45, .ldc 122), (47, .iconst 0), (48, .iconst 999), (51, .invokevirtual 1981241), (54, .iconst 999), (57, .invokevirtual 1971241), (60, .ifCond .ne 65), (63, .jsr 31), (63, .iconst 0), (64, .freturn), (65, .jsr 26), (65, .iconst 0), (66, .istore 3), (67, .aload 0), (68, .ldc 123), (70, .invokevirtual 1991221), (73, .ifCond .eq 89), (76, .aload 0), (77, .iconst 0), (78, .iconst 2), (79, .invokevirtual 1961231), (82, .istore 3), (83, .iload 3), (84, .ifCond .ge 114), (87, .iconst 0), (88, .freturn), (89, .jsr 18), (89, .aload 0), (90, .ldc 124), (92, .invokevirtual 1991221), (95, .ifCond .eq 114), (98, .aload 0), (99, .iconst 0), (100, .iconst 2), (101, .invokevirtual 1961231), (104, .istore 3), (105, .iload 3), (106, .ifCond .ge 111), (109, .iconst 0), (110, .freturn), (111, .jsr 18), (111, .iload 3), (112, .ineg), (113, .istore 3), (114, .jsr 18), (114, .aload 0), (115, .ldc 125), (117, .invokevirtual 1991221), (120, .ifCond .eq 133), (123, .aload 0), (124, .iconst 0), (125, .iconst 100), (127, .invokevirtual 1961231), (130, .goto 135), (133, .jsr 18), (133, .iconst 100), (135, .jsr 18), (135, .istore 4), (137, .iload 4), (139, .ifCond .ge 144), (142, .iconst 0), (143, .freturn), (144, .jsr 2), (144, .aload 0), (145, .getfield 12011), (148, .iload 2), (149, .iconst 4), (150, .iadd), (151, .iload 3), (152, .iastore), (153, .aload 0), (154, .getfield 12011), (157, .iload 2), (158, .iconst 5), (159, .iadd), (160, .iload 4), (162, .iastore), (163, .aload 0), (164, .getfield 12011), (167, .iload 2), (168, .iconst 6), (170, .iadd), (171, .iconst 0), (172, .iastore), (173, .aload 0), (174, .getfield 12011), (177, .iconst 0), (178, .dup2), (179, .iaload), (180, .iconst 1), (181, .iadd), (182, .iastore), (183, .iconst 1), (184, .freturn)]
/-- ArchEndsModel.showers()I -/
noncomputable def cd_195 : List (Nat × Instr) := [(0, .aload 0), (1, .getfield 12011), (4, .iconst 0), (5, .iaload), (6, .ireturn)]
/-- ArchEndsModel.number(II)I -/
noncomputable def cd_196 : List (Nat × Instr) := [(0, .aload 0), (1, .invokevirtual 1881210), (4, .iconst 0), (5, .istore 3), (100006, .goto_w 6), (6, .aload 0), (7, .iconst 48), (9, .iconst 57), (11, .invokevirtual 1891231), (14, .ifCond .eq 65), (17, .aload 0), (18, .getfield 12100), (21, .aload 0), (22, .getfield 12120), (25, .isub), (26, .iconst 3), (27, .if_icmp .ge 50), (30, .iconst 10), (32, .iload 3), (33, .imul), (34, .aload 0), (35, .getfield 12081), (38, .aload 0), (39, .getfield 12100), (42, .baload), (43, .iadd), (44, .iconst 48), (46, .isub), (47, .goto 51), (50, .iload 3), (51, .jsr 8), (51, .istore 3), (52, .aload 0), (53, .dup), (54, .getfield 12100), (57, .iconst 1), (58, .iadd), (59, .putfield 12100), (62, .goto 6), (65, .aload 0), (66, .getfield 12100), (69, .aload 0), (70, .getfield 12120), (73, .if_icmp .eq 99), (76, .aload 0), (77, .getfield 12100), (80, .aload 0), (81, .getfield 12120), (84, .isub), (85, .iconst 3), (86, .if_icmp .gt 99), (89, .iload 3), (90, .iload 1), (91, .if_icmp .lt 99), (94, .iload 3), (95, .iload 2), (96, .if_icmp .le 103), (99, .jsr 15), (99, .iconst (-1)), (100, .goto 104), (103, .jsr 7), (103, .iload 3), (104, .jsr 15), (104, .ireturn)]
/-- ArchEndsModel.readSpan(III)Z -/
noncomputable def cd_197 : List (Nat × Instr) := [(0, .iload 2), (1, .ifCond .ge 8), (4, .iconst (-1)), (5, .goto 16), (8, .jsr 16), (8, .aload 0), (9, .ldc 121), (11, .iload 2), (12, .iload 3), (13, .invokevirtual 1981241), (16, .jsr 24), (16, .istore 4), (18, .aload 0), (19, .getfield 12011), (22, .iload 1), (23, .iload 2), (24, .iastore), (25, .aload 0), (26, .getfield 12011), (29, .iload 1), (30, .iconst 1), (31, .iadd), (32, .iload 4), (34, .iastore), (35, .iload 4), (37, .ifCond .lt 44), (40, .iconst 1), (41, .goto 45), (44, .jsr 31), (44, .iconst 0), (45, .jsr 31), (45, .freturn)]
/-- ArchEndsModel.after(Ljava/lang/String;II)I -/
noncomputable def cd_198 : List (Nat × Instr) := [(0, .aload 0), (1, .invokevirtual 1911210), (4, .aload 0), (5, .aload 1), (6, .invokevirtual 1931221), (9, .ifCond .eq 21), (12, .aload 0), (13, .iload 2), (14, .iload 3), (15, .invokevirtual 1961231), (18, .goto 22), (21, .jsr 15), (21, .iconst (-1)), (22, .jsr 15), (22, .ireturn)]
/-- ArchEndsModel.passes(Ljava/lang/String;)Z -/
noncomputable def cd_199 : List (Nat × Instr) := [(0, .aload 0), (1, .invokevirtual 1911210), (4, .aload 0), (5, .aload 1), (6, .invokevirtual 1931221), (9, .ifCond .eq 14), (12, .iconst 1), (13, .freturn), (14, .jsr 2), (14, .aload 0), (15, .aload 0), (16, .getfield 12120), (19, .putfield 12100), (22, .iconst 0), (23, .freturn)]
/-- ArchEndsModel.readBroker()Z -/
noncomputable def cd_200 : List (Nat × Instr) := [(0, .aload 0), (1, .invokevirtual 2011211), (4, .istore 1), (5, .iload 1), (6, .iconst 5), (7, .if_icmp .ne 12), (10, .iconst 0), (11, .freturn), (12, .jsr 28), (12, .aload 0), (13, .iconst 0), (14, .iconst 999), (17, .invokevirtual 1961231), (20, .istore 2), (21, .iload 2), (22, .ifCond .ge 29), (25, .iconst (-1)), (26, .goto 38), (29, .jsr 24), (29, .aload 0), (30, .ldc 127), (32, .iconst 0), (33, .iconst 15), (35, .invokevirtual 1981241), (38, .jsr 24), (38, .istore 3), (39, .iload 3), (40, .ifCond .ge 47), (43, .iconst (-1)), (44, .goto 55), (47, .jsr 16), (47, .aload 0), (48, .ldc 128), (50, .iconst 1), (51, .iconst 4), (52, .invokevirtual 1981241), (55, .jsr 16), (55, .istore 4), (57, .iload 4), (59, .ifCond .ge 64), (62, .iconst 0), (63, .freturn), (64, .aload 0), (65, .getfield 12011), (68, .iload 1), (69, .iconst 0), (70, .invokestatic 2029921), (73, .iload 2), (74, .iastore), (75, .aload 0), (76, .getfield 12011), (79, .iload 1), (80, .iconst 1), (81, .invokestatic 2029921), (84, .iload 3), (85, .iastore), (86, .aload 0), (87, .getfield 12011), (90, .iload 1), (91, .iconst 2), (92, .invokestatic 2029921), (95, .iload 4), (97, .iastore), (98, .aload 0), (99, .getfield 12011), (102, .iconst 1), (103, .dup2), (104, .iaload), (105, .iconst 1), (106, .iadd), (107, .iastore), (108, .iconst 1), (109, .freturn)]
/-- ArchEndsModel.brokers()I -/
noncomputable def cd_201 : List (Nat × Instr) := [(0, .aload 0), (1, .getfield 12011), (4, .iconst 1), (5, .iaload), (6, .ireturn)]
/-- ArchEndsModel.brokerAt(II)I -/
noncomputable def cd_202 : List (Nat × Instr) := [(0, .iconst 52), (2, .iconst 3), (3, .iload 0), (4, .imul), (5, .iadd), (6, .iload 1), (7, .iadd), (8, .ireturn)]
/-- ArchEndsModel.readDeed()Z -/
noncomputable def cd_203 : List (Nat × Instr) := [(0, .aload 0), (1, .invokevirtual 2041211), (4, .istore 1), (5, .iload 1), (6, .iconst 8), (8, .if_icmp .ne 13), (11, .iconst 0), (12, .freturn), (13, .jsr 12), (13, .aload 0), (14, .iconst 0), (15, .iconst 15), (17, .invokevirtual 1961231), (20, .istore 2), (21, .iload 2), (22, .ifCond .lt 50), (25, .aload 0), (26, .iload 1), (27, .iconst 1), (28, .invokestatic 2059921), (31, .aload 0), (32, .ldc 122), (34, .iconst 0), (35, .iconst 999), (38, .invokevirtual 1981241), (41, .iconst 999), (44, .invokevirtual 1971241), (47, .ifCond .ne 52), (50, .jsr 15), (50, .iconst 0), (51, .freturn), (52, .jsr 8), (52, .aload 0), (53, .ldc 130), (55, .iconst 0), (56, .iconst 999), (59, .invokevirtual 1981241), (62, .istore 3), (63, .iload 3), (64, .ifCond .ge 69), (67, .iconst 0), (68, .freturn), (69, .aload 0), (70, .getfield 12011), (73, .iload 1), (74, .iconst 0), (75, .invokestatic 2059921), (78, .iload 2), (79, .iastore), (80, .aload 0), (81, .getfield 12011), (84, .iload 1), (85, .iconst 3), (86, .invokestatic 2059921), (89, .iload 3), (90, .iastore), (91, .aload 0), (92, .getfield 12011), (95, .iload 1), (96, .iconst 4), (97, .invokestatic 2059921), (100, .iconst (-1)), (101, .iastore), (102, .aload 0), (103, .getfield 12011), (106, .iload 1), (107, .iconst 5), (108, .invokestatic 2059921), (111, .iconst 0), (112, .iastore), (113, .aload 0), (114, .getfield 12011), (117, .iload 1), (118, .iconst 6), (120, .invokestatic 2059921), (123, .iconst 0), (124, .iastore), (125, .aload 0), (126, .getfield 12011), (129, .iconst 2), (130, .dup2), (131, .iaload), (132, .iconst 1), (133, .iadd), (134, .iastore), (135, .iconst 1), (136, .freturn)]
/-- ArchEndsModel.deeds()I -/
noncomputable def cd_204 : List (Nat × Instr) := [(0, .aload 0), (1, .getfield 12011), (4, .iconst 2), (5, .iaload), (6, .ireturn)]
/-- ArchEndsModel.deedAt(II)I -/
noncomputable def cd_205 : List (Nat × Instr) := [(0, .iconst 67), (2, .iconst 7), (4, .iload 0), (5, .imul), (6, .iadd), (7, .iload 1), (8, .iadd), (9, .ireturn)]
/-- ArchEndsModel.readNumber(III)Z -/
noncomputable def cd_206 : List (Nat × Instr) := [(0, .aload 0), (1, .iload 2), (2, .iload 3), (3, .invokevirtual 1961231), (6, .istore 4), (8, .aload 0), (9, .getfield 12011), (12, .iload 1), (13, .iload 4), (15, .ifCond .ge 27), (18, .aload 0), (19, .getfield 12011), (22, .iload 1), (23, .iaload), (24, .goto 29), (27, .jsr 15), (27, .iload 4), (29, .jsr 15), (29, .iastore), (30, .iload 4), (32, .ifCond .lt 39), (35, .iconst 1), (36, .goto 40), (39, .jsr 31), (39, .iconst 0), (40, .jsr 31), (40, .freturn)]
/-- ArchEndsModel.readLawLine(I)Z -/
noncomputable def cd_207 : List (Nat × Instr) := [(0, .iconst 1213), (3, .iconst 4), (4, .iload 1), (5, .imul), (6, .iadd), (7, .istore 2), (8, .aload 0), (9, .getfield 12011), (12, .iload 2), (13, .aload 0), (14, .ldc 134), (16, .invokevirtual 1931221), (19, .ifCond .eq 26), (22, .iconst 0), (23, .goto 53), (26, .jsr 2), (26, .aload 0), (27, .ldc 135), (29, .invokevirtual 1931221), (32, .ifCond .eq 39), (35, .iconst 1), (36, .goto 53), (39, .jsr 2), (39, .aload 0), (40, .ldc 136), (42, .invokevirtual 1931221), (45, .ifCond .eq 52), (48, .iconst 2), (49, .goto 53), (52, .jsr 2), (52, .iconst (-1)), (53, .jsr 2), (53, .iastore), (54, .aload 0), (55, .getfield 12011), (58, .iload 2), (59, .iaload), (60, .ifCond .ge 65), (63, .iconst 0), (64, .freturn), (65, .jsr 2), (65, .aload 0), (66, .getfield 12011), (69, .iload 2), (70, .iconst 1), (71, .iadd), (72, .aload 0), (73, .iconst 0), (74, .iconst 99), (76, .invokevirtual 1961231), (79, .iastore), (80, .aload 0), (81, .getfield 12011), (84, .iload 2), (85, .iconst 1), (86, .iadd), (87, .iaload), (88, .ifCond .ge 93), (91, .iconst 0), (92, .freturn), (93, .jsr 2), (93, .aload 0), (94, .getfield 12011), (97, .iload 2), (98, .iconst 2), (99, .iadd), (100, .aload 0), (101, .getfield 12160), (104, .iastore), (105, .aload 0), (106, .iconst 0), (107, .putfield 12130), (110, .aload 0), (111, .ldc 137), (113, .invokevirtual 1991221), (116, .ifCond .eq 128), (119, .aload 0), (120, .invokevirtual 2081211), (123, .ifCond .ne 128), (126, .iconst 0), (127, .freturn), (128, .jsr 2), (128, .aload 0), (129, .getfield 12011), (132, .iload 2), (133, .iconst 3), (134, .iadd), (135, .aload 0), (136, .getfield 12160), (139, .iastore), (140, .iconst 1), (141, .freturn)]
/-- ArchEndsModel.readCond()Z -/
noncomputable def cd_208 : List (Nat × Instr) := [(0, .aload 0), (1, .invokevirtual 2091211), (4, .ifCond .ne 9), (7, .iconst 0), (8, .freturn), (9, .aload 0), (10, .ldc 148), (12, .invokevirtual 1991221), (15, .ifCond .eq 37), (18, .aload 0), (19, .invokevirtual 2091211), (22, .ifCond .ne 27), (25, .iconst 0), (26, .freturn), (27, .aload 0), (28, .iconst 14), (30, .iconst 0), (31, .invokevirtual 2121230), (34, .goto 9), (37, .jsr 1), (37, .iconst 1), (38, .freturn)]
/-- ArchEndsModel.readAllOf()Z -/
noncomputable def cd_209 : List (Nat × Instr) := [(0, .aload 0), (1, .invokevirtual 2101211), (4, .ifCond .ne 9), (7, .iconst 0), (8, .freturn), (9, .aload 0), (10, .ldc 147), (12, .invokevirtual 1991221), (15, .ifCond .eq 37), (18, .aload 0), (19, .invokevirtual 2101211), (22, .ifCond .ne 27), (25, .iconst 0), (26, .freturn), (27, .aload 0), (28, .iconst 13), (30, .iconst 0), (31, .invokevirtual 2121230), (34, .goto 9), (37, .jsr 1), (37, .iconst 1), (38, .freturn)]
/-- ArchEndsModel.readAtom()Z -/
noncomputable def cd_210 : List (Nat × Instr) := [(0, .aload 0), (1, .iconst 40), (3, .invokevirtual 2111221), (6, .ifCond .eq 56), (9, .aload 0), (10, .getfield 12130), (13, .iconst 6), (15, .if_icmp .ne 20), (18, .iconst 0), (19, .freturn), (20, .jsr 2), (20, .aload 0), (21, .dup), (22, .getfield 12130), (25, .iconst 1), (26, .iadd), (27, .putfield 12130), (30, .aload 0), (31, .invokevirtual 2081211), (34, .ifCond .ne 39), (37, .iconst 0), (38, .freturn), (39, .jsr 2), (39, .aload 0), (40, .dup), (41, .getfield 12130), (44, .iconst 1), (45, .isub), (46, .putfield 12130), (49, .aload 0), (50, .iconst 41), (52, .invokevirtual 2111221), (55, .freturn), (56, .jsr 2), (56, .aload 0), (57, .ldc 138), (59, .invokevirtual 1991221), (62, .ifCond .eq 114), (65, .aload 0), (66, .getfield 12130), (69, .iconst 6), (71, .if_icmp .ne 76), (74, .iconst 0), (75, .freturn), (76, .jsr 2), (76, .aload 0), (77, .dup), (78, .getfield 12130), (81, .iconst 1), (82, .iadd), (83, .putfield 12130), (86, .aload 0), (87, .invokevirtual 2101211), (90, .ifCond .ne 95), (93, .iconst 0), (94, .freturn), (95, .jsr 2), (95, .aload 0), (96, .dup), (97, .getfield 12130), (100, .iconst 1), (101, .isub), (102, .putfield 12130), (105, .aload 0), (106, .iconst 12), (108, .iconst 0), (109, .invokevirtual 2121230), (112, .iconst 1), (113, .freturn), (114, .jsr 2), (114, .aload 0), (115, .invokevirtual 2131211), (118, .ifCond .eq 123), (121, .iconst 1), (122, .freturn), (123, .jsr 2), (123, .aload 0), (124, .invokevirtual 2141211), (127, .ifCond .ne 132), (130, .iconst 0), (131, .freturn), (132, .jsr 2), (132, .aload 0), (133, .iconst 60), (135, .invokevirtual 2111221), (138, .istore 1), (139, .iload 1), (140, .ifCond .ne 152), (143, .aload 0), (144, .iconst 62), (146, .invokevirtual 2111221), (149, .ifCond .eq 159), (152, .aload 0), (153, .invokevirtual 2141211), (156, .ifCond .ne 161), (159, .jsr 3), (159, .iconst 0), (160, .freturn), (161, .aload 0), (162, .iload 1), (163, .ifCond .eq 171), (166, .iconst 10), (168, .goto 173), (171, .jsr 3), (171, .iconst 11), (173, .jsr 3), (173, .iconst 0), (174, .invokevirtual 2121230), (177, .iconst 1), (178, .freturn)]
/-- ArchEndsModel.sign(I)Z -/
noncomputable def cd_211 : List (Nat × Instr) := [(0, .aload 0), (1, .invokevirtual 1881210), (4, .aload 0), (5, .iload 1), (6, .iload 1), (7, .invokevirtual 1891231), (10, .ifCond .ne 15), (13, .iconst 0), (14, .freturn), (15, .jsr 2), (15, .aload 0), (16, .dup), (17, .getfield 12100), (20, .iconst 1), (21, .iadd), (22, .putfield 12100), (25, .iconst 1), (26, .freturn)]
/-- ArchEndsModel.emits(II)V -/
noncomputable def cd_212 : List (Nat × Instr) := [(0, .aload 0), (1, .getfield 12011), (4, .iconst 1261), (7, .iconst 2), (8, .aload 0), (9, .getfield 12160), (12, .imul), (13, .iadd), (14, .iload 1), (15, .iastore), (16, .aload 0), (17, .getfield 12011), (20, .iconst 1261), (23, .iconst 2), (24, .aload 0), (25, .getfield 12160), (28, .imul), (29, .iadd), (30, .iconst 1), (31, .iadd), (32, .iload 2), (33, .iastore), (34, .aload 0), (35, .dup), (36, .getfield 12160), (39, .iconst 1), (40, .iadd), (41, .putfield 12160), (44, .return_)]
/-- ArchEndsModel.readTag()Z -/
noncomputable def cd_213 : List (Nat × Instr) := [(0, .aload 0), (1, .invokevirtual 1911210), (4, .aload 0), (5, .ldc 139), (7, .invokevirtual 1931221), (10, .ifCond .eq 18), (13, .iconst 6), (15, .goto 33), (18, .jsr 2), (18, .aload 0), (19, .ldc 140), (21, .invokevirtual 1931221), (24, .ifCond .eq 32), (27, .iconst 7), (29, .goto 33), (32, .jsr 2), (32, .iconst (-1)), (33, .jsr 2), (33, .istore 1), (34, .iload 1), (35, .ifCond .lt 47), (38, .aload 0), (39, .iload 1), (40, .iconst 0), (41, .invokevirtual 2121230), (44, .goto 55), (47, .aload 0), (48, .aload 0), (49, .getfield 12120), (52, .putfield 12100), (55, .jsr 1), (55, .iload 1), (56, .ifCond .lt 63), (59, .iconst 1), (60, .goto 64), (63, .jsr 3), (63, .iconst 0), (64, .jsr 3), (64, .freturn)]
/-- ArchEndsModel.readSum()Z -/
noncomputable def cd_214 : List (Nat × Instr) := [(0, .aload 0), (1, .invokevirtual 2151211), (4, .ifCond .ne 9), (7, .iconst 0), (8, .freturn), (9, .aload 0), (10, .iconst 43), (12, .invokevirtual 2111221), (15, .ifCond .eq 37), (18, .aload 0), (19, .invokevirtual 2151211), (22, .ifCond .ne 27), (25, .iconst 0), (26, .freturn), (27, .aload 0), (28, .iconst 9), (30, .iconst 0), (31, .invokevirtual 2121230), (34, .goto 9), (37, .jsr 1), (37, .iconst 1), (38, .freturn)]
/-- ArchEndsModel.readPart()Z -/
noncomputable def cd_215 : List (Nat × Instr) := [(0, .aload 0), (1, .invokevirtual 1911210), (4, .aload 0), (5, .getfield 12100), (8, .aload 0), (9, .getfield 12120), (12, .if_icmp .ne 34), (15, .aload 0), (16, .iconst 0), (17, .iconst 999), (20, .invokevirtual 1961231), (23, .istore 1), (24, .aload 0), (25, .iconst 8), (27, .iload 1), (28, .invokevirtual 2121230), (31, .goto 120), (34, .jsr 2), (34, .aload 0), (35, .ldc 141), (37, .invokevirtual 1931221), (40, .ifCond .eq 47), (43, .iconst 0), (44, .goto 113), (47, .jsr 2), (47, .aload 0), (48, .ldc 142), (50, .invokevirtual 1931221), (53, .ifCond .eq 60), (56, .iconst 1), (57, .goto 113), (60, .jsr 2), (60, .aload 0), (61, .ldc 143), (63, .invokevirtual 1931221), (66, .ifCond .eq 73), (69, .iconst 2), (70, .goto 113), (73, .jsr 2), (73, .aload 0), (74, .ldc 144), (76, .invokevirtual 1931221), (79, .ifCond .eq 86), (82, .iconst 3), (83, .goto 113), (86, .jsr 2), (86, .aload 0), (87, .ldc 145), (89, .invokevirtual 1931221), (92, .ifCond .eq 99), (95, .iconst 4), (96, .goto 113), (99, .jsr 2), (99, .aload 0), (100, .ldc 146), (102, .invokevirtual 1931221), (105, .ifCond .eq 112), (108, .iconst 5), (109, .goto 113), (112, .jsr 2), (112, .iconst (-1)), (113, .jsr 2), (113, .istore 1), (114, .aload 0), (115, .iload 1), (116, .iconst 0), (117, .invokevirtual 2121230), (120, .jsr 1), (120, .iload 1), (121, .ifCond .lt 128), (124, .iconst 1), (125, .goto 129), (128, .jsr 3), (128, .iconst 0), (129, .jsr 3), (129, .freturn)]
/-- ArchEndsModel.throwsIf(ZI)Z -/
noncomputable def cd_216 : List (Nat × Instr) := [(0, .iload 1), (1, .ifCond .eq 9), (4, .aload 0), (5, .iload 2), (6, .putfield 12000), (9, .jsr 5), (9, .iload 1), (10, .freturn)]
/-- ArchEndsModel.law()I -/
noncomputable def cd_217 : List (Nat × Instr) := [(0, .aload 0), (1, .iconst 0), (2, .invokevirtual 1861221), (5, .istore 1), (6, .aload 0), (7, .iload 1), (8, .ifCond .ge 18), (11, .aload 0), (12, .getfield 12120), (15, .goto 19), (18, .jsr 4), (18, .iconst (-1)), (19, .jsr 4), (19, .putfield 12140), (22, .aload 0), (23, .iload 1), (24, .ifCond .ge 31), (27, .iconst 1), (28, .goto 32), (31, .jsr 4), (31, .iconst 0), (32, .jsr 4), (32, .iconst 1), (33, .invokevirtual 2161231), (36, .ifCond .eq 41), (39, .iconst 0), (40, .ireturn), (41, .jsr 4), (41, .aload 0), (42, .getfield 12011), (45, .iconst 1212), (48, .iload 1), (49, .iastore), (50, .iconst 0), (51, .istore 2), (100052, .goto_w 52), (52, .iload 2), (53, .iconst 849), (56, .if_icmp .ge 85), (59, .aload 0), (60, .getfield 12011), (63, .iconst 363), (66, .iload 2), (67, .iadd), (68, .aload 0), (69, .getfield 12011), (72, .iconst 1212), (75, .iload 2), (76, .iadd), (77, .iaload), (78, .iastore), (79, .iinc 2 1), (82, .goto 52), (85, .jsr 4), (85, .aload 0), (86, .getfield 12011), (89, .iconst 4), (90, .iconst 1), (91, .iastore), (92, .aload 0), (93, .iconst 0), (94, .putfield 12070), (97, .iload 1), (98, .ireturn)]
/-- ArchEndsModel.shower(II)I -/
noncomputable def cd_218 : List (Nat × Instr) := [(0, .aload 0), (1, .iconst 0), (2, .putfield 12000), (5, .aload 0), (6, .aload 0), (7, .iload 1), (8, .invokevirtual 2191221), (11, .iconst 1), (12, .invokevirtual 2161231), (15, .ifCond .ne 41), (18, .aload 0), (19, .iload 2), (20, .iconst 0), (21, .iconst 6), (23, .invokestatic 2209931), (26, .ifCond .ne 33), (29, .iconst 1), (30, .goto 34), (33, .iconst 0), (34, .iconst 2), (35, .invokevirtual 2161231), (38, .ifCond .eq 43), (41, .jsr 7), (41, .iconst 0), (42, .ireturn), (43, .aload 0), (44, .iload 1), (45, .iload 2), (46, .invokevirtual 2211231), (49, .iload 2), (50, .iconst 4), (51, .if_icmp .ne 58), (54, .iconst 2), (55, .goto 59), (58, .jsr 7), (58, .iconst 0), (59, .jsr 7), (59, .iadd), (60, .ireturn)]
/-- ArchEndsModel.noShower(I)Z -/
noncomputable def cd_219 : List (Nat × Instr) := [(0, .iload 1), (1, .iconst 0), (2, .aload 0), (3, .invokevirtual 1951211), (6, .iconst 1), (7, .isub), (8, .invokestatic 2209931), (11, .ifCond .ne 18), (14, .iconst 1), (15, .goto 19), (18, .jsr 3), (18, .iconst 0), (19, .jsr 3), (19, .freturn)]
/-- ArchEndsModel.in(III)Z -/
noncomputable def cd_220 : List (Nat × Instr) := [(0, .iload 0), (1, .iload 1), (2, .if_icmp .lt 14), (5, .iload 0), (6, .iload 2), (7, .if_icmp .gt 14), (10, .iconst 1), (11, .goto 15), (14, .jsr 7), (14, .iconst 0), (15, .jsr 7), (15, .freturn)]
/-- ArchEndsModel.ofShower(II)I -/
noncomputable def cd_221 : List (Nat × Instr) := [(0, .aload 0), (1, .getfield 12011), (4, .iconst 10), (6, .iconst 7), (8, .iload 1), (9, .imul), (10, .iadd), (11, .iload 2), (12, .iadd), (13, .iaload), (14, .ireturn)]
/-- ArchEndsModel.sun(I)I -/
noncomputable def cd_222 : List (Nat × Instr) := [(0, .aload 0), (1, .iconst 0), (2, .putfield 12000), (5, .aload 0), (6, .iload 1), (7, .invokestatic 2239911), (10, .iconst 1), (11, .invokevirtual 2161231), (14, .ifCond .eq 21), (17, .iconst 0), (18, .goto 25), (21, .jsr 1), (21, .iload 1), (22, .invokestatic 2249911), (25, .jsr 3), (25, .ireturn)]
/-- ArchEndsModel.noMinute(I)Z -/
noncomputable def cd_223 : List (Nat × Instr) := [(0, .iload 0), (1, .iconst 0), (2, .iconst 9999), (5, .invokestatic 2209931), (8, .ifCond .ne 15), (11, .iconst 1), (12, .goto 16), (15, .jsr 1), (15, .iconst 0), (16, .jsr 1), (16, .freturn)]
/-- ArchEndsModel.sunOf(I)I -/
noncomputable def cd_224 : List (Nat × Instr) := [(0, .iconst 48), (2, .iload 0), (3, .iconst 96), (5, .irem), (6, .iconst 48), (8, .isub), (9, .invokestatic 3269911), (12, .isub), (13, .ireturn)]
/-- ArchEndsModel.reach(I)I -/
noncomputable def cd_225 : List (Nat × Instr) := [(0, .aload 0), (1, .iconst 0), (2, .putfield 12000), (5, .aload 0), (6, .iload 1), (7, .invokestatic 2239911), (10, .iconst 1), (11, .invokevirtual 2161231), (14, .ifCond .eq 21), (17, .iconst 0), (18, .goto 25), (21, .jsr 1), (21, .iload 1), (22, .invokestatic 2269911), (25, .jsr 3), (25, .ireturn)]
/-- ArchEndsModel.reachOf(I)I -/
noncomputable def cd_226 : List (Nat × Instr) := [(0, .iload 0), (1, .invokestatic 2249911), (4, .istore 1), (5, .iload 1), (6, .iconst 42), (8, .if_icmp .gt 15), (11, .iload 1), (12, .ifCond .ne 19), (15, .jsr 3), (15, .iconst (-1)), (16, .goto 26), (19, .jsr 1), (19, .iconst 42), (21, .iload 1), (22, .isub), (23, .iconst 6), (25, .idiv), (26, .jsr 3), (26, .ireturn)]
/-- ArchEndsModel.foot(II)I -/
noncomputable def cd_227 : List (Nat × Instr) := [(0, .aload 0), (1, .iload 1), (2, .iload 2), (3, .invokevirtual 2281231), (6, .ifCond .eq 13), (9, .iconst 0), (10, .goto 18), (13, .jsr 1), (13, .iload 1), (14, .iload 2), (15, .invokestatic 2309921), (18, .jsr 7), (18, .ireturn)]
/-- ArchEndsModel.throwsAt(II)Z -/
noncomputable def cd_228 : List (Nat × Instr) := [(0, .aload 0), (1, .iconst 0), (2, .putfield 12000), (5, .aload 0), (6, .iload 1), (7, .invokestatic 2299911), (10, .iconst 1), (11, .invokevirtual 2161231), (14, .ifCond .ne 29), (17, .aload 0), (18, .iload 2), (19, .invokestatic 2239911), (22, .iconst 2), (23, .invokevirtual 2161231), (26, .ifCond .eq 33), (29, .jsr 7), (29, .iconst 1), (30, .goto 34), (33, .jsr 7), (33, .iconst 0), (34, .jsr 7), (34, .freturn)]
/-- ArchEndsModel.noAcre(I)Z -/
noncomputable def cd_229 : List (Nat × Instr) := [(0, .iload 0), (1, .iconst 0), (2, .iconst 15), (4, .invokestatic 2209931), (7, .ifCond .ne 14), (10, .iconst 1), (11, .goto 15), (14, .jsr 1), (14, .iconst 0), (15, .jsr 1), (15, .freturn)]
/-- ArchEndsModel.footOf(II)I -/
noncomputable def cd_230 : List (Nat × Instr) := [(0, .iload 1), (1, .invokestatic 2269911), (4, .istore 2), (5, .iload 2), (6, .iconst (-1)), (7, .if_icmp .ne 12), (10, .iconst (-1)), (11, .ireturn), (12, .jsr 8), (12, .iload 1), (13, .iconst 96), (15, .irem), (16, .iconst 48), (18, .if_icmp .ge 27), (21, .iload 0), (22, .iload 2), (23, .isub), (24, .goto 30), (27, .jsr 10), (27, .iload 0), (28, .iload 2), (29, .iadd), (30, .jsr 15), (30, .istore 3), (31, .iload 3), (32, .invokestatic 2299911), (35, .ifCond .eq 42), (38, .iconst (-1)), (39, .goto 43), (42, .jsr 7), (42, .iload 3), (43, .jsr 15), (43, .ireturn)]
/-- ArchEndsModel.arch(II)Z -/
noncomputable def cd_231 : List (Nat × Instr) := [(0, .aload 0), (1, .iload 1), (2, .iload 2), (3, .invokevirtual 2281231), (6, .ifCond .ne 22), (9, .aload 0), (10, .iload 1), (11, .iload 2), (12, .invokevirtual 2321231), (15, .ifCond .eq 22), (18, .iconst 1), (19, .goto 23), (22, .jsr 7), (22, .iconst 0), (23, .jsr 7), (23, .freturn)]
/-- ArchEndsModel.isArch(II)Z -/
noncomputable def cd_232 : List (Nat × Instr) := [(0, .iload 1), (1, .iload 2), (2, .invokestatic 2309921), (5, .istore 3), (6, .iload 3), (7, .iconst (-1)), (8, .if_icmp .eq 24), (11, .aload 0), (12, .iload 3), (13, .iload 2), (14, .invokevirtual 2331231), (17, .ifCond .eq 24), (20, .iconst 1), (21, .goto 25), (24, .jsr 15), (24, .iconst 0), (25, .jsr 15), (25, .freturn)]
/-- ArchEndsModel.wetBy(II)I -/
noncomputable def cd_233 : List (Nat × Instr) := [(0, .iconst 0), (1, .istore 3), (2, .iconst 0), (3, .istore 4), (100005, .goto_w 5), (5, .iload 4), (7, .aload 0), (8, .invokevirtual 1951211), (11, .if_icmp .ge 54), (14, .iload 3), (15, .aload 0), (16, .iload 4), (18, .iconst 6), (20, .invokevirtual 2211231), (23, .iconst 2), (24, .if_icmp .eq 45), (27, .aload 0), (28, .iload 4), (30, .iload 1), (31, .iload 2), (32, .invokevirtual 2341241), (35, .ifCond .eq 45), (38, .iconst 1), (39, .iload 4), (41, .ishl), (42, .goto 46), (45, .jsr 8), (45, .iconst 0), (46, .jsr 8), (46, .ior), (47, .istore 3), (48, .iinc 4 1), (51, .goto 5), (54, .jsr 23), (54, .iload 3), (55, .ireturn)]
/-- ArchEndsModel.liesOver(III)Z -/
noncomputable def cd_234 : List (Nat × Instr) := [(0, .iload 3), (1, .aload 0), (2, .iload 1), (3, .iconst 2), (4, .invokevirtual 2211231), (7, .aload 0), (8, .iload 1), (9, .iconst 3), (10, .invokevirtual 2211231), (13, .invokestatic 2209931), (16, .ifCond .ne 21), (19, .iconst 0), (20, .freturn), (21, .jsr 16), (21, .aload 0), (22, .iload 1), (23, .iconst 4), (24, .invokevirtual 2211231), (27, .iload 3), (28, .aload 0), (29, .iload 1), (30, .iconst 2), (31, .invokevirtual 2211231), (34, .isub), (35, .iconst 4), (36, .idiv), (37, .imul), (38, .istore 4), (40, .iload 2), (41, .iload 4), (43, .isub), (44, .aload 0), (45, .iload 1), (46, .iconst 0), (47, .invokevirtual 2211231), (50, .aload 0), (51, .iload 1), (52, .iconst 1), (53, .invokevirtual 2211231), (56, .invokestatic 2209931), (59, .freturn)]
/-- ArchEndsModel.wets(II)I -/
noncomputable def cd_235 : List (Nat × Instr) := [(0, .aload 0), (1, .iload 1), (2, .iload 2), (3, .invokevirtual 2281231), (6, .ifCond .eq 13), (9, .iconst 0), (10, .goto 19), (13, .aload 0), (14, .iload 1), (15, .iload 2), (16, .invokevirtual 2331231), (19, .jsr 7), (19, .ireturn)]
/-- ArchEndsModel.looks(II)I -/
noncomputable def cd_236 : List (Nat × Instr) := [(0, .aload 0), (1, .iload 1), (2, .iload 2), (3, .invokevirtual 2281231), (6, .ifCond .eq 11), (9, .iconst 0), (10, .ireturn), (11, .jsr 24), (11, .iconst 0), (12, .istore 3), (13, .iconst 0), (14, .istore 4), (100016, .goto_w 16), (16, .iload 4), (18, .iconst 16), (20, .if_icmp .ge 51), (23, .iload 3), (24, .aload 0), (25, .iload 1), (26, .iload 4), (28, .iload 2), (29, .invokevirtual 2371241), (32, .ifCond .eq 42), (35, .iconst 1), (36, .iload 4), (38, .ishl), (39, .goto 43), (42, .jsr 8), (42, .iconst 0), (43, .jsr 8), (43, .ior), (44, .istore 3), (45, .iinc 4 1), (48, .goto 16), (51, .jsr 23), (51, .iload 3), (52, .ireturn)]
/-- ArchEndsModel.standsOn(III)Z -/
noncomputable def cd_237 : List (Nat × Instr) := [(0, .iload 2), (1, .iload 3), (2, .invokestatic 2309921), (5, .iload 1), (6, .if_icmp .ne 22), (9, .aload 0), (10, .iload 1), (11, .iload 3), (12, .invokevirtual 2331231), (15, .ifCond .eq 22), (18, .iconst 1), (19, .goto 23), (22, .jsr 15), (22, .iconst 0), (23, .jsr 15), (23, .freturn)]
/-- ArchEndsModel.stands(III)I -/
noncomputable def cd_238 : List (Nat × Instr) := [(0, .aload 0), (1, .iconst 0), (2, .putfield 12000), (5, .aload 0), (6, .iload 1), (7, .invokestatic 2299911), (10, .iconst 1), (11, .invokevirtual 2161231), (14, .ifCond .ne 30), (17, .aload 0), (18, .iload 2), (19, .iload 3), (20, .invokestatic 2399921), (23, .iconst 2), (24, .invokevirtual 2161231), (27, .ifCond .eq 34), (30, .jsr 15), (30, .iconst 0), (31, .goto 48), (34, .aload 0), (35, .iload 1), (36, .aload 0), (37, .getfield 12011), (40, .iconst 6), (42, .iaload), (43, .iload 2), (44, .iload 3), (45, .invokevirtual 2401251), (48, .jsr 15), (48, .ireturn)]
/-- ArchEndsModel.noSpan(II)Z -/
noncomputable def cd_239 : List (Nat × Instr) := [(0, .iload 0), (1, .invokestatic 2239911), (4, .ifCond .ne 17), (7, .iload 1), (8, .iconst 1), (9, .iconst 96), (11, .invokestatic 2209931), (14, .ifCond .ne 21), (17, .jsr 3), (17, .iconst 1), (18, .goto 22), (21, .jsr 3), (21, .iconst 0), (22, .jsr 3), (22, .freturn)]
/-- ArchEndsModel.standsBy(IIII)I -/
noncomputable def cd_240 : List (Nat × Instr) := [(0, .iconst 0), (1, .istore 5), (3, .iconst 0), (4, .istore 6), (100006, .goto_w 6), (6, .iload 6), (8, .iload 4), (10, .if_icmp .ge 42), (13, .iload 5), (15, .aload 0), (16, .iload 1), (17, .iload 2), (18, .iload 3), (19, .iload 6), (21, .iadd), (22, .invokevirtual 2371241), (25, .ifCond .eq 32), (28, .iconst 1), (29, .goto 33), (32, .jsr 32), (32, .iconst 0), (33, .jsr 32), (33, .iadd), (34, .istore 5), (36, .iinc 6 1), (39, .goto 6), (42, .jsr 95), (42, .iload 5), (44, .ireturn)]
/-- ArchEndsModel.best(II)I -/
noncomputable def cd_241 : List (Nat × Instr) := [(0, .aload 0), (1, .iconst 0), (2, .putfield 12000), (5, .aload 0), (6, .iload 1), (7, .iload 2), (8, .invokestatic 2399921), (11, .iconst 1), (12, .invokevirtual 2161231), (15, .ifCond .eq 20), (18, .iconst 0), (19, .ireturn), (20, .jsr 24), (20, .iconst 0), (21, .istore 3), (22, .iconst 1), (23, .istore 4), (100025, .goto_w 25), (25, .iload 4), (27, .iconst 16), (29, .if_icmp .ge 77), (32, .aload 0), (33, .iload 4), (35, .aload 0), (36, .getfield 12011), (39, .iconst 6), (41, .iaload), (42, .iload 1), (43, .iload 2), (44, .invokevirtual 2401251), (47, .aload 0), (48, .iload 3), (49, .aload 0), (50, .getfield 12011), (53, .iconst 6), (55, .iaload), (56, .iload 1), (57, .iload 2), (58, .invokevirtual 2401251), (61, .if_icmp .le 69), (64, .iload 4), (66, .goto 70), (69, .iload 3), (70, .jsr 8), (70, .istore 3), (71, .iinc 4 1), (74, .goto 25), (77, .jsr 23), (77, .iload 3), (78, .ireturn)]
/-- ArchEndsModel.first(II)I -/
noncomputable def cd_242 : List (Nat × Instr) := [(0, .aload 0), (1, .iload 1), (2, .iload 2), (3, .invokevirtual 2281231), (6, .ifCond .eq 11), (9, .iconst 0), (10, .ireturn), (11, .jsr 8), (11, .iconst 0), (12, .istore 3), (100013, .goto_w 13), (13, .iload 3), (14, .iconst 200), (17, .if_icmp .ge 48), (20, .aload 0), (21, .iload 1), (22, .aload 0), (23, .getfield 12011), (26, .iconst 6), (28, .iaload), (29, .iload 2), (30, .iload 3), (31, .iadd), (32, .invokevirtual 2371241), (35, .ifCond .eq 42), (38, .iload 2), (39, .iload 3), (40, .iadd), (41, .ireturn), (42, .iinc 3 1), (45, .goto 13), (48, .jsr 15), (48, .iconst (-1)), (49, .ireturn)]
/-- ArchEndsModel.site(III)I -/
noncomputable def cd_243 : List (Nat × Instr) := [(0, .aload 0), (1, .iconst 0), (2, .putfield 12000), (5, .aload 0), (6, .iload 1), (7, .invokestatic 2299911), (10, .iconst 1), (11, .invokevirtual 2161231), (14, .ifCond .ne 30), (17, .aload 0), (18, .iload 2), (19, .iload 3), (20, .invokestatic 2399921), (23, .iconst 2), (24, .invokevirtual 2161231), (27, .ifCond .eq 32), (30, .jsr 63), (30, .iconst 0), (31, .ireturn), (32, .jsr 48), (32, .iconst 0), (33, .istore 4), (35, .iconst 1), (36, .istore 5), (100038, .goto_w 38), (38, .iload 5), (40, .iconst 16), (42, .if_icmp .ge 81), (45, .aload 0), (46, .iload 1), (47, .iload 5), (49, .iload 2), (50, .iload 3), (51, .invokevirtual 2401251), (54, .aload 0), (55, .iload 1), (56, .iload 4), (58, .iload 2), (59, .iload 3), (60, .invokevirtual 2401251), (63, .if_icmp .le 71), (66, .iload 5), (68, .goto 73), (71, .iload 4), (73, .jsr 16), (73, .istore 4), (75, .iinc 5 1), (78, .goto 38), (81, .jsr 47), (81, .iload 4), (83, .ireturn)]
/-- ArchEndsModel.spray(I)I -/
noncomputable def cd_244 : List (Nat × Instr) := [(0, .aload 0), (1, .iconst 0), (2, .putfield 12000), (5, .aload 0), (6, .iload 1), (7, .invokestatic 2239911), (10, .iconst 1), (11, .invokevirtual 2161231), (14, .ifCond .eq 19), (17, .iconst 0), (18, .ireturn), (19, .jsr 12), (19, .iconst 0), (20, .istore 2), (21, .iconst 0), (22, .istore 3), (100023, .goto_w 23), (23, .iload 3), (24, .iconst 16), (26, .if_icmp .ge 54), (29, .iload 2), (30, .aload 0), (31, .iload 3), (32, .iload 1), (33, .invokevirtual 2331231), (36, .ifCond .eq 45), (39, .iconst 1), (40, .iload 3), (41, .ishl), (42, .goto 46), (45, .jsr 4), (45, .iconst 0), (46, .jsr 4), (46, .ior), (47, .istore 2), (48, .iinc 3 1), (51, .goto 23), (54, .jsr 9), (54, .iconst 0), (55, .istore 3), (100056, .goto_w 56), (56, .jsr 1), (56, .iload 3), (57, .iconst 16), (59, .if_icmp .ge 93), (62, .iload 2), (63, .iload 3), (64, .iload 1), (65, .invokestatic 2309921), (68, .iconst (-1)), (69, .if_icmp .ne 76), (72, .iload 2), (73, .goto 85), (76, .jsr 5), (76, .iconst 1), (77, .iload 3), (78, .iload 1), (79, .invokestatic 2309921), (82, .ishl), (83, .iconst (-1)), (84, .ixor), (85, .jsr 5), (85, .iand), (86, .istore 2), (87, .iinc 3 1), (90, .goto 56), (93, .jsr 11), (93, .iload 2), (94, .ireturn)]
/-- ArchEndsModel.both(IIII)I -/
noncomputable def cd_245 : List (Nat × Instr) := [(0, .aload 0), (1, .iconst 0), (2, .putfield 12000), (5, .aload 0), (6, .iload 1), (7, .invokestatic 2299911), (10, .ifCond .ne 20), (13, .iload 2), (14, .invokestatic 2299911), (17, .ifCond .eq 24), (20, .jsr 96), (20, .iconst 1), (21, .goto 25), (24, .jsr 96), (24, .iconst 0), (25, .jsr 96), (25, .iconst 1), (26, .invokevirtual 2161231), (29, .ifCond .ne 59), (32, .aload 0), (33, .iload 1), (34, .iload 2), (35, .if_icmp .eq 47), (38, .iload 3), (39, .iload 4), (41, .invokestatic 2399921), (44, .ifCond .eq 51), (47, .jsr 96), (47, .iconst 1), (48, .goto 52), (51, .jsr 96), (51, .iconst 0), (52, .jsr 96), (52, .iconst 2), (53, .invokevirtual 2161231), (56, .ifCond .eq 61), (59, .jsr 127), (59, .iconst 0), (60, .ireturn), (61, .jsr 96), (61, .iconst 0), (62, .istore 5), (64, .iconst 0), (65, .istore 6), (100067, .goto_w 67), (67, .iload 6), (69, .iload 4), (71, .if_icmp .ge 114), (74, .iload 5), (76, .aload 0), (77, .iload 1), (78, .iload 3), (79, .iload 6), (81, .iadd), (82, .invokevirtual 2321231), (85, .ifCond .eq 104), (88, .aload 0), (89, .iload 2), (90, .iload 3), (91, .iload 6), (93, .iadd), (94, .invokevirtual 2321231), (97, .ifCond .eq 104), (100, .iconst 1), (101, .goto 105), (104, .jsr 32), (104, .iconst 0), (105, .jsr 32), (105, .iadd), (106, .istore 5), (108, .iinc 6 1), (111, .goto 67), (114, .jsr 95), (114, .iload 5), (116, .ireturn)]
/-- ArchEndsModel.row(III)I -/
noncomputable def cd_246 : List (Nat × Instr) := [(0, .aload 0), (1, .iconst 0), (2, .putfield 12000), (5, .aload 0), (6, .iload 1), (7, .iconst 1), (8, .iconst 20), (10, .invokestatic 2209931), (13, .ifCond .eq 23), (16, .iload 2), (17, .invokestatic 2239911), (20, .ifCond .eq 27), (23, .jsr 240), (23, .iconst 1), (24, .goto 28), (27, .jsr 240), (27, .iconst 0), (28, .jsr 240), (28, .iconst 1), (29, .invokevirtual 2161231), (32, .ifCond .eq 37), (35, .iconst 0), (36, .ireturn), (37, .jsr 240), (37, .iconst 0), (38, .istore 4), (40, .iload 2), (41, .istore 5), (43, .iconst (-1)), (44, .istore 6), (46, .iload 2), (47, .istore 7), (100049, .goto_w 49), (49, .iload 7), (51, .iload 2), (52, .iconst 96), (54, .iadd), (55, .if_icmp .ge 114), (58, .iload 7), (60, .iload 5), (62, .if_icmp .lt 108), (65, .aload 0), (66, .aload 0), (67, .getfield 12011), (70, .iconst 6), (72, .iaload), (73, .iload 7), (75, .invokevirtual 2321231), (78, .ifCond .ne 84), (81, .goto 108), (84, .jsr 32), (84, .iload 4), (86, .iload 3), (87, .if_icmp .ne 95), (90, .iload 7), (92, .goto 97), (95, .jsr 32), (95, .iload 6), (97, .jsr 96), (97, .istore 6), (99, .iinc 4 1), (102, .iload 7), (104, .iload 1), (105, .iadd), (106, .istore 5), (108, .iinc 7 1), (111, .goto 49), (114, .jsr 167), (114, .iload 3), (115, .iconst (-1)), (116, .if_icmp .ne 124), (119, .iload 4), (121, .goto 126), (124, .jsr 191), (124, .iload 6), (126, .jsr 255), (126, .ireturn)]
/-- ArchEndsModel.dry()I -/
noncomputable def cd_247 : List (Nat × Instr) := [(0, .aload 0), (1, .iconst 0), (2, .putfield 12000), (5, .iconst (-1)), (6, .istore 1), (7, .iconst 0), (8, .istore 2), (100009, .goto_w 9), (9, .iload 2), (10, .aload 0), (11, .invokevirtual 1951211), (14, .if_icmp .ge 49), (17, .aload 0), (18, .iload 2), (19, .iconst 6), (21, .invokevirtual 2211231), (24, .iconst 2), (25, .if_icmp .ne 32), (28, .iload 1), (29, .goto 42), (32, .iload 1), (33, .aload 0), (34, .iload 2), (35, .iconst 3), (36, .invokevirtual 2211231), (39, .invokestatic 3279921), (42, .jsr 2), (42, .istore 1), (43, .iinc 2 1), (46, .goto 9), (49, .jsr 4), (49, .iconst 0), (50, .iload 1), (51, .iconst 1), (52, .iadd), (53, .aload 0), (54, .getfield 12011), (57, .iconst 5), (58, .iaload), (59, .isub), (60, .invokestatic 3279921), (63, .istore 2), (64, .iload 2), (65, .iconst 200), (68, .if_icmp .le 75), (71, .iconst (-1)), (72, .goto 76), (75, .jsr 3), (75, .iload 2), (76, .jsr 7), (76, .ireturn)]
/-- ArchEndsModel.broker(II)I -/
noncomputable def cd_248 : List (Nat × Instr) := [(0, .aload 0), (1, .iconst 0), (2, .putfield 12000), (5, .aload 0), (6, .aload 0), (7, .iload 1), (8, .invokevirtual 2491221), (11, .iconst 1), (12, .invokevirtual 2161231), (15, .ifCond .ne 40), (18, .aload 0), (19, .iload 2), (20, .iconst 0), (21, .iconst 5), (22, .invokestatic 2209931), (25, .ifCond .ne 32), (28, .iconst 1), (29, .goto 33), (32, .iconst 0), (33, .iconst 2), (34, .invokevirtual 2161231), (37, .ifCond .eq 42), (40, .jsr 7), (40, .iconst 0), (41, .ireturn), (42, .iload 2), (43, .tableswitch 86 3 5 #[68, 74, 80]), (68, .jsr 4), (68, .aload 0), (69, .iload 1), (70, .invokevirtual 2501221), (73, .ireturn), (74, .jsr 4), (74, .aload 0), (75, .iload 1), (76, .invokevirtual 2591221), (79, .ireturn), (80, .jsr 4), (80, .aload 0), (81, .iload 1), (82, .invokevirtual 2601221), (85, .ireturn), (86, .aload 0), (87, .iload 1), (88, .iload 2), (89, .invokevirtual 2511231), (92, .ireturn)]
/-- ArchEndsModel.noBroker(I)Z -/
noncomputable def cd_249 : List (Nat × Instr) := [(0, .iload 1), (1, .iconst 0), (2, .aload 0), (3, .invokevirtual 2011211), (6, .iconst 1), (7, .isub), (8, .invokestatic 2209931), (11, .ifCond .ne 18), (14, .iconst 1), (15, .goto 19), (18, .jsr 3), (18, .iconst 0), (19, .jsr 3), (19, .freturn)]
/-- ArchEndsModel.walksBy(I)I -/
noncomputable def cd_250 : List (Nat × Instr) := [(0, .iconst 0), (1, .aload 0), (2, .iload 1), (3, .iconst 2), (4, .invokevirtual 2511231), (7, .aload 0), (8, .iconst 2), (9, .aload 0), (10, .iload 1), (11, .iconst 1), (12, .invokevirtual 2511231), (15, .aload 0), (16, .getfield 12011), (19, .iconst 5), (20, .iaload), (21, .iload 1), (22, .invokevirtual 2521251), (25, .isub), (26, .invokestatic 3279921), (29, .ireturn)]
/-- ArchEndsModel.of(II)I -/
noncomputable def cd_251 : List (Nat × Instr) := [(0, .aload 0), (1, .getfield 12011), (4, .iload 1), (5, .iload 2), (6, .invokestatic 2029921), (9, .iaload), (10, .ireturn)]
/-- ArchEndsModel.sumOf(IIII)I -/
noncomputable def cd_252 : List (Nat × Instr) := [(0, .aload 0), (1, .iload 2), (2, .putfield 12180), (5, .aload 0), (6, .iload 3), (7, .putfield 12190), (10, .aload 0), (11, .iload 4), (13, .putfield 12200), (16, .iconst 0), (17, .istore 5), (19, .iconst 0), (20, .istore 6), (100022, .goto_w 22), (22, .jsr 28), (22, .aload 0), (23, .getfield 12011), (26, .iconst 4), (27, .iaload), (28, .iconst 1), (29, .if_icmp .ne 97), (32, .iload 6), (34, .aload 0), (35, .getfield 12011), (38, .iconst 363), (41, .iaload), (42, .if_icmp .ge 97), (45, .aload 0), (46, .getfield 12011), (49, .iconst 364), (52, .iconst 4), (53, .iload 6), (55, .imul), (56, .iadd), (57, .iaload), (58, .iload 1), (59, .if_icmp .ne 91), (62, .aload 0), (63, .iload 6), (65, .invokevirtual 2531221), (68, .ifCond .eq 91), (71, .iload 5), (73, .aload 0), (74, .getfield 12011), (77, .iconst 364), (80, .iconst 4), (81, .iload 6), (83, .imul), (84, .iadd), (85, .iconst 1), (86, .iadd), (87, .iaload), (88, .iadd), (89, .istore 5), (91, .jsr 28), (91, .iinc 6 1), (94, .goto 22), (97, .jsr 95), (97, .iload 5), (99, .ireturn)]
/-- ArchEndsModel.holdsLine(I)Z -/
noncomputable def cd_253 : List (Nat × Instr) := [(0, .iconst 0), (1, .istore 2), (2, .iconst 364), (5, .iconst 4), (6, .iload 1), (7, .imul), (8, .iadd), (9, .istore 3), (10, .aload 0), (11, .getfield 12011), (14, .iload 3), (15, .iconst 2), (16, .iadd), (17, .iaload), (18, .istore 4), (100020, .goto_w 20), (20, .jsr 482), (20, .iload 4), (22, .aload 0), (23, .getfield 12011), (26, .iload 3), (27, .iconst 3), (28, .iadd), (29, .iaload), (30, .if_icmp .ge 259), (33, .aload 0), (34, .getfield 12011), (37, .iconst 412), (40, .iconst 2), (41, .iload 4), (43, .imul), (44, .iadd), (45, .iaload), (46, .istore 5), (48, .iload 5), (50, .iconst 8), (52, .if_icmp .gt 88), (55, .aload 0), (56, .getfield 12171), (59, .iload 2), (60, .aload 0), (61, .iload 5), (63, .aload 0), (64, .getfield 12011), (67, .iconst 412), (70, .iconst 2), (71, .iload 4), (73, .imul), (74, .iadd), (75, .iconst 1), (76, .iadd), (77, .iaload), (78, .invokevirtual 2541231), (81, .iastore), (82, .iinc 2 1), (85, .goto 253), (88, .jsr 450), (88, .iload 5), (90, .iconst 12), (92, .if_icmp .ne 116), (95, .aload 0), (96, .getfield 12171), (99, .iload 2), (100, .iconst 1), (101, .isub), (102, .iconst 1), (103, .aload 0), (104, .getfield 12171), (107, .iload 2), (108, .iconst 1), (109, .isub), (110, .iaload), (111, .isub), (112, .iastore), (113, .goto 253), (116, .jsr 450), (116, .iinc 2 (-1)), (119, .aload 0), (120, .getfield 12171), (123, .iload 2), (124, .iconst 1), (125, .isub), (126, .iaload), (127, .istore 6), (129, .aload 0), (130, .getfield 12171), (133, .iload 2), (134, .iaload), (135, .istore 7), (137, .iload 5), (139, .iconst 10), (141, .if_icmp .ne 159), (144, .iload 6), (146, .iload 7), (148, .if_icmp .ge 155), (151, .iconst 1), (152, .goto 218), (155, .jsr 258), (155, .iconst 0), (156, .goto 218), (159, .jsr 258), (159, .iload 5), (161, .iconst 11), (163, .if_icmp .ne 181), (166, .iload 6), (168, .iload 7), (170, .if_icmp .le 177), (173, .iconst 1), (174, .goto 218), (177, .jsr 258), (177, .iconst 0), (178, .goto 218), (181, .jsr 258), (181, .iload 5), (183, .iconst 13), (185, .if_icmp .ne 205), (188, .iload 6), (190, .iload 7), (192, .iadd), (193, .iconst 2), (194, .if_icmp .ne 201), (197, .iconst 1), (198, .goto 218), (201, .jsr 258), (201, .iconst 0), (202, .goto 218), (205, .jsr 258), (205, .iload 6), (207, .iload 7), (209, .iadd), (210, .ifCond .le 217), (213, .iconst 1), (214, .goto 218), (217, .jsr 258), (217, .iconst 0), (218, .jsr 258), (218, .istore 8), (220, .aload 0), (221, .getfield 12171), (224, .iload 2), (225, .iconst 1), (226, .isub), (227, .iload 5), (229, .iconst 9), (231, .if_icmp .ne 242), (234, .iload 6), (236, .iload 7), (238, .iadd), (239, .goto 252), (242, .jsr 226), (242, .iload 8), (244, .ifCond .eq 251), (247, .iconst 1), (248, .goto 252), (251, .jsr 482), (251, .iconst 0), (252, .jsr 482), (252, .iastore), (253, .jsr 482), (253, .iinc 4 1), (256, .goto 20), (259, .jsr 506), (259, .iload 2), (260, .ifCond .eq 273), (263, .aload 0), (264, .getfield 12171), (267, .iconst 0), (268, .iaload), (269, .iconst 1), (270, .if_icmp .ne 277), (273, .jsr 511), (273, .iconst 1), (274, .goto 278), (277, .jsr 511), (277, .iconst 0), (278, .jsr 511), (278, .freturn)]
/-- ArchEndsModel.factOf(II)I -/
noncomputable def cd_254 : List (Nat × Instr) := [(0, .iload 1), (1, .tableswitch 149 0 7 #[48, 53, 61, 73, 81, 97, 115, 136]), (48, .jsr 6), (48, .aload 0), (49, .getfield 12180), (52, .ireturn), (53, .jsr 6), (53, .aload 0), (54, .getfield 12190), (57, .invokestatic 2249911), (60, .ireturn), (61, .jsr 6), (61, .iconst 0), (62, .aload 0), (63, .getfield 12190), (66, .invokestatic 2269911), (69, .invokestatic 3279921), (72, .ireturn), (73, .jsr 6), (73, .aload 0), (74, .getfield 12190), (77, .iconst 96), (79, .irem), (80, .ireturn), (81, .jsr 6), (81, .aload 0), (82, .aload 0), (83, .getfield 12180), (86, .aload 0), (87, .getfield 12190), (90, .invokevirtual 2331231), (93, .invokestatic 3259911), (96, .ireturn), (97, .jsr 6), (97, .aload 0), (98, .getfield 12200), (101, .iconst (-1)), (102, .if_icmp .ne 110), (105, .iconst 9), (107, .goto 114), (110, .jsr 6), (110, .aload 0), (111, .getfield 12200), (114, .jsr 7), (114, .ireturn), (115, .jsr 6), (115, .aload 0), (116, .aload 0), (117, .getfield 12180), (120, .aload 0), (121, .getfield 12190), (124, .invokevirtual 2331231), (127, .ifCond .eq 134), (130, .iconst 1), (131, .goto 135), (134, .jsr 7), (134, .iconst 0), (135, .jsr 7), (135, .ireturn), (136, .jsr 6), (136, .aload 0), (137, .invokevirtual 2551211), (140, .ifCond .eq 147), (143, .iconst 1), (144, .goto 148), (147, .jsr 7), (147, .iconst 0), (148, .jsr 7), (148, .ireturn), (149, .jsr 3), (149, .iload 2), (150, .ireturn)]
/-- ArchEndsModel.isOwned()Z -/
noncomputable def cd_255 : List (Nat × Instr) := [(0, .iconst 0), (1, .istore 1), (2, .iconst 0), (3, .istore 2), (100004, .goto_w 4), (4, .iload 2), (5, .aload 0), (6, .invokevirtual 2041211), (9, .if_icmp .ge 61), (12, .iload 1), (13, .ifCond .ne 49), (16, .aload 0), (17, .iload 2), (18, .invokevirtual 2561221), (21, .ifCond .eq 53), (24, .aload 0), (25, .iload 2), (26, .iconst 0), (27, .invokevirtual 2571231), (30, .aload 0), (31, .getfield 12180), (34, .if_icmp .ne 53), (37, .aload 0), (38, .iload 2), (39, .aload 0), (40, .getfield 12190), (43, .invokevirtual 2581231), (46, .ifCond .eq 53), (49, .jsr 2), (49, .iconst 1), (50, .goto 54), (53, .jsr 2), (53, .iconst 0), (54, .jsr 2), (54, .istore 1), (55, .iinc 2 1), (58, .goto 4), (61, .jsr 5), (61, .iload 1), (62, .freturn)]
/-- ArchEndsModel.hasOwner(I)Z -/
noncomputable def cd_256 : List (Nat × Instr) := [(0, .aload 0), (1, .iload 1), (2, .iconst 4), (3, .invokevirtual 2571231), (6, .iconst (-1)), (7, .if_icmp .eq 14), (10, .iconst 1), (11, .goto 15), (14, .jsr 3), (14, .iconst 0), (15, .jsr 3), (15, .freturn)]
/-- ArchEndsModel.ofDeed(II)I -/
noncomputable def cd_257 : List (Nat × Instr) := [(0, .aload 0), (1, .getfield 12011), (4, .iload 1), (5, .iload 2), (6, .invokestatic 2059921), (9, .iaload), (10, .ireturn)]
/-- ArchEndsModel.hasMinute(II)Z -/
noncomputable def cd_258 : List (Nat × Instr) := [(0, .iload 2), (1, .aload 0), (2, .iload 1), (3, .iconst 1), (4, .invokevirtual 2571231), (7, .aload 0), (8, .iload 1), (9, .iconst 2), (10, .invokevirtual 2571231), (13, .invokestatic 2209931), (16, .freturn)]
/-- ArchEndsModel.deedsOf(I)I -/
noncomputable def cd_259 : List (Nat × Instr) := [(0, .iconst 0), (1, .istore 2), (2, .iconst 0), (3, .istore 3), (100004, .goto_w 4), (4, .iload 3), (5, .aload 0), (6, .invokevirtual 2041211), (9, .if_icmp .ge 38), (12, .iload 2), (13, .aload 0), (14, .iload 3), (15, .iconst 4), (16, .invokevirtual 2571231), (19, .iload 1), (20, .if_icmp .ne 29), (23, .iconst 1), (24, .iload 3), (25, .ishl), (26, .goto 30), (29, .jsr 4), (29, .iconst 0), (30, .jsr 4), (30, .ior), (31, .istore 2), (32, .iinc 3 1), (35, .goto 4), (38, .jsr 11), (38, .iload 2), (39, .ireturn)]
/-- ArchEndsModel.worthOf(I)I -/
noncomputable def cd_260 : List (Nat × Instr) := [(0, .aload 0), (1, .iload 1), (2, .iconst 0), (3, .invokevirtual 2511231), (6, .istore 2), (7, .iconst 0), (8, .istore 3), (100009, .goto_w 9), (9, .iload 3), (10, .aload 0), (11, .invokevirtual 2041211), (14, .if_icmp .ge 46), (17, .iload 2), (18, .aload 0), (19, .iload 3), (20, .iconst 4), (21, .invokevirtual 2571231), (24, .iload 1), (25, .if_icmp .ne 37), (28, .aload 0), (29, .iload 3), (30, .iconst 3), (31, .invokevirtual 2571231), (34, .goto 38), (37, .jsr 4), (37, .iconst 0), (38, .jsr 4), (38, .iadd), (39, .istore 2), (40, .iinc 3 1), (43, .goto 9), (46, .jsr 11), (46, .iload 2), (47, .ireturn)]
/-- ArchEndsModel.deed(II)I -/
noncomputable def cd_261 : List (Nat × Instr) := [(0, .aload 0), (1, .iconst 0), (2, .putfield 12000), (5, .aload 0), (6, .aload 0), (7, .iload 1), (8, .invokevirtual 2621221), (11, .iconst 1), (12, .invokevirtual 2161231), (15, .ifCond .ne 41), (18, .aload 0), (19, .iload 2), (20, .iconst 0), (21, .iconst 6), (23, .invokestatic 2209931), (26, .ifCond .ne 33), (29, .iconst 1), (30, .goto 34), (33, .iconst 0), (34, .iconst 2), (35, .invokevirtual 2161231), (38, .ifCond .eq 45), (41, .jsr 7), (41, .iconst 0), (42, .goto 51), (45, .aload 0), (46, .iload 1), (47, .iload 2), (48, .invokevirtual 2571231), (51, .jsr 7), (51, .ireturn)]
/-- ArchEndsModel.noDeed(I)Z -/
noncomputable def cd_262 : List (Nat × Instr) := [(0, .iload 1), (1, .iconst 0), (2, .aload 0), (3, .invokevirtual 2041211), (6, .iconst 1), (7, .isub), (8, .invokestatic 2209931), (11, .ifCond .ne 18), (14, .iconst 1), (15, .goto 19), (18, .jsr 3), (18, .iconst 0), (19, .jsr 3), (19, .freturn)]
/-- ArchEndsModel.costs(II)I -/
noncomputable def cd_263 : List (Nat × Instr) := [(0, .aload 0), (1, .iconst 0), (2, .putfield 12000), (5, .aload 0), (6, .aload 0), (7, .iload 1), (8, .invokevirtual 2491221), (11, .ifCond .ne 22), (14, .aload 0), (15, .iload 2), (16, .invokevirtual 2621221), (19, .ifCond .eq 26), (22, .iconst 1), (23, .goto 27), (26, .iconst 0), (27, .iconst 1), (28, .invokevirtual 2161231), (31, .ifCond .eq 38), (34, .iconst 0), (35, .goto 44), (38, .aload 0), (39, .iload 1), (40, .iload 2), (41, .invokevirtual 2641231), (44, .jsr 7), (44, .ireturn)]
/-- ArchEndsModel.costsOf(II)I -/
noncomputable def cd_264 : List (Nat × Instr) := [(0, .aload 0), (1, .iload 2), (2, .iconst 3), (3, .invokevirtual 2571231), (6, .aload 0), (7, .iconst 0), (8, .aload 0), (9, .iload 2), (10, .iconst 0), (11, .invokevirtual 2571231), (14, .aload 0), (15, .getfield 12011), (18, .iconst 5), (19, .iaload), (20, .iload 1), (21, .invokevirtual 2521251), (24, .iadd), (25, .ireturn)]
/-- ArchEndsModel.brings(III)I -/
noncomputable def cd_265 : List (Nat × Instr) := [(0, .aload 0), (1, .iconst 0), (2, .putfield 12000), (5, .aload 0), (6, .aload 0), (7, .iload 1), (8, .invokevirtual 2491221), (11, .ifCond .ne 22), (14, .aload 0), (15, .iload 2), (16, .invokevirtual 2621221), (19, .ifCond .eq 26), (22, .iconst 1), (23, .goto 27), (26, .iconst 0), (27, .iconst 1), (28, .invokevirtual 2161231), (31, .ifCond .ne 46), (34, .aload 0), (35, .iload 3), (36, .invokestatic 2239911), (39, .iconst 2), (40, .invokevirtual 2161231), (43, .ifCond .eq 50), (46, .jsr 15), (46, .iconst 0), (47, .goto 57), (50, .aload 0), (51, .iload 1), (52, .iload 2), (53, .iload 3), (54, .invokevirtual 2661241), (57, .jsr 15), (57, .ireturn)]
/-- ArchEndsModel.bringsOf(III)I -/
noncomputable def cd_266 : List (Nat × Instr) := [(0, .aload 0), (1, .getfield 12011), (4, .iconst 7), (6, .iaload), (7, .aload 0), (8, .iconst 1), (9, .aload 0), (10, .iload 2), (11, .iconst 0), (12, .invokevirtual 2571231), (15, .iload 3), (16, .iload 1), (17, .invokevirtual 2521251), (20, .iadd), (21, .ireturn)]
/-- ArchEndsModel.buy(II)I -/
noncomputable def cd_267 : List (Nat × Instr) := [(0, .aload 0), (1, .iconst 0), (2, .putfield 12000), (5, .aload 0), (6, .aload 0), (7, .iload 1), (8, .invokevirtual 2491221), (11, .ifCond .ne 22), (14, .aload 0), (15, .iload 2), (16, .invokevirtual 2621221), (19, .ifCond .eq 26), (22, .iconst 1), (23, .goto 27), (26, .iconst 0), (27, .iconst 1), (28, .invokevirtual 2161231), (31, .ifCond .ne 70), (34, .aload 0), (35, .aload 0), (36, .iload 2), (37, .invokevirtual 2561221), (40, .ifCond .ne 58), (43, .aload 0), (44, .iload 1), (45, .iconst 0), (46, .invokevirtual 2511231), (49, .aload 0), (50, .iload 1), (51, .iload 2), (52, .invokevirtual 2641231), (55, .if_icmp .ge 62), (58, .iconst 1), (59, .goto 63), (62, .iconst 0), (63, .iconst 2), (64, .invokevirtual 2161231), (67, .ifCond .eq 72), (70, .jsr 7), (70, .iconst 0), (71, .ireturn), (72, .aload 0), (73, .invokevirtual 2681210), (76, .aload 0), (77, .getfield 12011), (80, .iload 1), (81, .iconst 0), (82, .invokestatic 2029921), (85, .dup2), (86, .iaload), (87, .aload 0), (88, .iload 1), (89, .iload 2), (90, .invokevirtual 2641231), (93, .isub), (94, .iastore), (95, .aload 0), (96, .getfield 12011), (99, .iload 2), (100, .iconst 4), (101, .invokestatic 2059921), (104, .iload 1), (105, .iastore), (106, .aload 0), (107, .getfield 12011), (110, .iload 2), (111, .iconst 5), (112, .invokestatic 2059921), (115, .iconst 0), (116, .iastore), (117, .aload 0), (118, .iload 1), (119, .iconst 0), (120, .invokevirtual 2511231), (123, .ireturn)]
/-- ArchEndsModel.remembers()V -/
noncomputable def cd_268 : List (Nat × Instr) := [(0, .aload 0), (1, .getfield 12070), (4, .iconst 12), (6, .if_icmp .ne 43), (9, .iconst 0), (10, .istore 1), (100011, .goto_w 11), (11, .iload 1), (12, .iconst 3993), (15, .if_icmp .ge 40), (18, .aload 0), (19, .getfield 12051), (22, .iload 1), (23, .aload 0), (24, .getfield 12051), (27, .iload 1), (28, .iconst 363), (31, .iadd), (32, .iaload), (33, .iastore), (34, .iinc 1 1), (37, .goto 11), (40, .jsr 2), (40, .goto 53), (43, .jsr 2), (43, .aload 0), (44, .dup), (45, .getfield 12070), (48, .iconst 1), (49, .iadd), (50, .putfield 12070), (53, .jsr 2), (53, .iconst 0), (54, .istore 1), (100055, .goto_w 55), (55, .iload 1), (56, .iconst 363), (59, .if_icmp .ge 91), (62, .aload 0), (63, .getfield 12051), (66, .iconst 363), (69, .aload 0), (70, .getfield 12070), (73, .iconst 1), (74, .isub), (75, .imul), (76, .iload 1), (77, .iadd), (78, .aload 0), (79, .getfield 12011), (82, .iload 1), (83, .iaload), (84, .iastore), (85, .iinc 1 1), (88, .goto 55), (91, .jsr 3), (91, .return_)]
/-- ArchEndsModel.sell(II)I -/
noncomputable def cd_269 : List (Nat × Instr) := [(0, .aload 0), (1, .iconst 0), (2, .putfield 12000), (5, .aload 0), (6, .aload 0), (7, .iload 2), (8, .invokevirtual 2491221), (11, .ifCond .ne 22), (14, .aload 0), (15, .iload 1), (16, .invokevirtual 2621221), (19, .ifCond .eq 26), (22, .jsr 8), (22, .iconst 1), (23, .goto 27), (26, .jsr 8), (26, .iconst 0), (27, .jsr 8), (27, .iconst 1), (28, .invokevirtual 2161231), (31, .ifCond .ne 93), (34, .aload 0), (35, .aload 0), (36, .iload 1), (37, .iconst 4), (38, .invokevirtual 2571231), (41, .iload 2), (42, .if_icmp .ne 49), (45, .iconst 1), (46, .goto 50), (49, .jsr 8), (49, .iconst 0), (50, .jsr 8), (50, .iconst 2), (51, .invokevirtual 2161231), (54, .ifCond .ne 93), (57, .aload 0), (58, .aload 0), (59, .iload 1), (60, .invokevirtual 2561221), (63, .ifCond .eq 81), (66, .aload 0), (67, .iload 2), (68, .iconst 0), (69, .invokevirtual 2511231), (72, .aload 0), (73, .iload 2), (74, .iload 1), (75, .invokevirtual 2641231), (78, .if_icmp .ge 85), (81, .jsr 8), (81, .iconst 1), (82, .goto 86), (85, .jsr 8), (85, .iconst 0), (86, .jsr 8), (86, .iconst 3), (87, .invokevirtual 2161231), (90, .ifCond .eq 95), (93, .jsr 15), (93, .iconst 0), (94, .ireturn), (95, .jsr 8), (95, .aload 0), (96, .invokevirtual 2681210), (99, .aload 0), (100, .iload 2), (101, .iload 1), (102, .invokevirtual 2641231), (105, .istore 3), (106, .aload 0), (107, .getfield 12011), (110, .iload 2), (111, .iconst 0), (112, .invokestatic 2029921), (115, .dup2), (116, .iaload), (117, .iload 3), (118, .isub), (119, .iastore), (120, .aload 0), (121, .aload 0), (122, .iload 1), (123, .iconst 4), (124, .invokevirtual 2571231), (127, .iload 3), (128, .invokevirtual 2701230), (131, .aload 0), (132, .getfield 12011), (135, .iload 1), (136, .iconst 4), (137, .invokestatic 2059921), (140, .iload 2), (141, .iastore), (142, .iload 3), (143, .ireturn)]
/-- ArchEndsModel.gets(II)V -/
noncomputable def cd_270 : List (Nat × Instr) := [(0, .aload 0), (1, .getfield 12011), (4, .iload 1), (5, .iconst 0), (6, .invokestatic 2029921), (9, .iconst 9999), (12, .aload 0), (13, .iload 1), (14, .iconst 0), (15, .invokevirtual 2511231), (18, .iload 2), (19, .iadd), (20, .invokestatic 3289921), (23, .iastore), (24, .return_)]
/-- ArchEndsModel.go(II)I -/
noncomputable def cd_271 : List (Nat × Instr) := [(0, .aload 0), (1, .iconst 0), (2, .putfield 12000), (5, .aload 0), (6, .aload 0), (7, .iload 1), (8, .invokevirtual 2491221), (11, .ifCond .ne 21), (14, .iload 2), (15, .invokestatic 2299911), (18, .ifCond .eq 25), (21, .jsr 8), (21, .iconst 1), (22, .goto 26), (25, .jsr 8), (25, .iconst 0), (26, .jsr 8), (26, .iconst 1), (27, .invokevirtual 2161231), (30, .ifCond .eq 35), (33, .iconst 0), (34, .ireturn), (35, .jsr 8), (35, .aload 0), (36, .iload 1), (37, .iconst 1), (38, .invokevirtual 2511231), (41, .iload 2), (42, .isub), (43, .invokestatic 3269911), (46, .istore 3), (47, .aload 0), (48, .iload 3), (49, .aload 0), (50, .iload 1), (51, .invokevirtual 2501221), (54, .if_icmp .le 61), (57, .iconst 1), (58, .goto 62), (61, .iconst 0), (62, .iconst 2), (63, .invokevirtual 2161231), (66, .ifCond .eq 71), (69, .iconst 0), (70, .ireturn), (71, .aload 0), (72, .invokevirtual 2681210), (75, .aload 0), (76, .getfield 12011), (79, .iload 1), (80, .iconst 1), (81, .invokestatic 2029921), (84, .iload 2), (85, .iastore), (86, .iload 3), (87, .ireturn)]
/-- ArchEndsModel.tell(II)I -/
noncomputable def cd_272 : List (Nat × Instr) := [(0, .aload 0), (1, .iconst 0), (2, .putfield 12000), (5, .aload 0), (6, .aload 0), (7, .iload 1), (8, .invokevirtual 2191221), (11, .iconst 1), (12, .invokevirtual 2161231), (15, .ifCond .ne 40), (18, .aload 0), (19, .iload 2), (20, .iconst 0), (21, .iconst 2), (22, .invokestatic 2209931), (25, .ifCond .ne 32), (28, .iconst 1), (29, .goto 33), (32, .jsr 8), (32, .iconst 0), (33, .jsr 8), (33, .iconst 2), (34, .invokevirtual 2161231), (37, .ifCond .eq 42), (40, .jsr 15), (40, .iconst 0), (41, .ireturn), (42, .jsr 8), (42, .aload 0), (43, .invokevirtual 2681210), (46, .aload 0), (47, .iload 1), (48, .iconst 6), (50, .invokevirtual 2211231), (53, .istore 3), (54, .aload 0), (55, .getfield 12011), (58, .iconst 10), (60, .iconst 7), (62, .iload 1), (63, .imul), (64, .iadd), (65, .iconst 6), (67, .iadd), (68, .iload 2), (69, .iastore), (70, .iload 3), (71, .ireturn)]
/-- ArchEndsModel.road(I)I -/
noncomputable def cd_273 : List (Nat × Instr) := [(0, .aload 0), (1, .iconst 0), (2, .putfield 12000), (5, .aload 0), (6, .iload 1), (7, .invokestatic 2299911), (10, .iconst 1), (11, .invokevirtual 2161231), (14, .ifCond .eq 19), (17, .iconst 0), (18, .ireturn), (19, .jsr 4), (19, .aload 0), (20, .invokevirtual 2681210), (23, .aload 0), (24, .getfield 12011), (27, .iconst 6), (29, .iaload), (30, .istore 2), (31, .aload 0), (32, .getfield 12011), (35, .iconst 6), (37, .iload 1), (38, .iastore), (39, .iload 2), (40, .ireturn)]
/-- ArchEndsModel.insure(I)I -/
noncomputable def cd_274 : List (Nat × Instr) := [(0, .aload 0), (1, .iconst 0), (2, .putfield 12000), (5, .aload 0), (6, .aload 0), (7, .iload 1), (8, .invokevirtual 2621221), (11, .iconst 1), (12, .invokevirtual 2161231), (15, .ifCond .eq 20), (18, .iconst 0), (19, .ireturn), (20, .jsr 4), (20, .aload 0), (21, .iload 1), (22, .iconst 4), (23, .invokevirtual 2571231), (26, .istore 2), (27, .aload 0), (28, .iload 2), (29, .iconst (-1)), (30, .if_icmp .eq 60), (33, .aload 0), (34, .iload 1), (35, .iconst 6), (37, .invokevirtual 2571231), (40, .iconst 1), (41, .if_icmp .eq 60), (44, .aload 0), (45, .iload 2), (46, .iconst 0), (47, .invokevirtual 2511231), (50, .aload 0), (51, .getfield 12011), (54, .iconst 7), (56, .iaload), (57, .if_icmp .ge 64), (60, .iconst 1), (61, .goto 65), (64, .iconst 0), (65, .iconst 2), (66, .invokevirtual 2161231), (69, .ifCond .eq 74), (72, .iconst 0), (73, .ireturn), (74, .aload 0), (75, .invokevirtual 2681210), (78, .aload 0), (79, .getfield 12011), (82, .iload 2), (83, .iconst 0), (84, .invokestatic 2029921), (87, .dup2), (88, .iaload), (89, .aload 0), (90, .getfield 12011), (93, .iconst 7), (95, .iaload), (96, .isub), (97, .iastore), (98, .aload 0), (99, .getfield 12011), (102, .iload 1), (103, .iconst 6), (105, .invokestatic 2059921), (108, .iconst 1), (109, .iastore), (110, .aload 0), (111, .iload 2), (112, .iconst 0), (113, .invokevirtual 2511231), (116, .ireturn)]
/-- ArchEndsModel.minutes(I)I -/
noncomputable def cd_275 : List (Nat × Instr) := [(0, .aload 0), (1, .iconst 0), (2, .putfield 12000), (5, .aload 0), (6, .iload 1), (7, .iconst 1), (8, .iconst 100), (10, .invokestatic 2209931), (13, .ifCond .ne 20), (16, .iconst 1), (17, .goto 21), (20, .iconst 0), (21, .iconst 1), (22, .invokevirtual 2161231), (25, .ifCond .eq 30), (28, .iconst 0), (29, .ireturn), (30, .aload 0), (31, .invokevirtual 2681210), (34, .aload 0), (35, .iload 1), (36, .iconst 0), (37, .invokevirtual 2761231), (40, .ireturn)]
/-- ArchEndsModel.goesBy(IZ)I -/
noncomputable def cd_276 : List (Nat × Instr) := [(0, .iconst 0), (1, .istore 3), (2, .iconst 0), (3, .istore 4), (100005, .goto_w 5), (5, .iload 4), (7, .iload 1), (8, .if_icmp .ge 25), (11, .iload 3), (12, .aload 0), (13, .iload 2), (14, .invokevirtual 2771221), (17, .iadd), (18, .istore 3), (19, .iinc 4 1), (22, .goto 5), (25, .jsr 23), (25, .iload 3), (26, .ireturn)]
/-- ArchEndsModel.oneMinute(Z)I -/
noncomputable def cd_277 : List (Nat × Instr) := [(0, .iconst 0), (1, .istore 2), (100002, .goto_w 2), (2, .jsr 8), (2, .iload 2), (3, .aload 0), (4, .invokevirtual 1951211), (7, .if_icmp .ge 83), (10, .aload 0), (11, .iload 2), (12, .iconst 6), (14, .invokevirtual 2211231), (17, .ifCond .ne 77), (20, .aload 0), (21, .iload 2), (22, .iconst 2), (23, .invokevirtual 2211231), (26, .aload 0), (27, .getfield 12011), (30, .iconst 5), (31, .iaload), (32, .if_icmp .eq 38), (35, .goto 77), (38, .jsr 8), (38, .aload 0), (39, .getfield 12011), (42, .iconst 10), (44, .iconst 7), (46, .iload 2), (47, .imul), (48, .iadd), (49, .iconst 6), (51, .iadd), (52, .iload 1), (53, .ifCond .ne 71), (56, .aload 0), (57, .iconst 100), (59, .invokevirtual 2781221), (62, .aload 0), (63, .iload 2), (64, .iconst 5), (65, .invokevirtual 2211231), (68, .if_icmp .ge 75), (71, .jsr 8), (71, .iconst 1), (72, .goto 76), (75, .jsr 8), (75, .iconst 2), (76, .jsr 8), (76, .iastore), (77, .jsr 8), (77, .iinc 2 1), (80, .goto 2), (83, .jsr 14), (83, .iconst 0), (84, .istore 2), (85, .iconst 0), (86, .istore 3), (100087, .goto_w 87), (87, .jsr 2), (87, .iload 3), (88, .aload 0), (89, .invokevirtual 2041211), (92, .if_icmp .ge 139), (95, .aload 0), (96, .iload 3), (97, .invokevirtual 2561221), (100, .ifCond .eq 133), (103, .aload 0), (104, .iload 3), (105, .aload 0), (106, .getfield 12011), (109, .iconst 5), (110, .iaload), (111, .invokevirtual 2581231), (114, .ifCond .eq 133), (117, .iload 2), (118, .aload 0), (119, .iload 3), (120, .invokevirtual 2791221), (123, .ifCond .eq 130), (126, .iconst 1), (127, .goto 131), (130, .jsr 6), (130, .iconst 0), (131, .jsr 6), (131, .iadd), (132, .istore 2), (133, .jsr 2), (133, .iinc 3 1), (136, .goto 87), (139, .jsr 10), (139, .aload 0), (140, .getfield 12011), (143, .iconst 5), (144, .iconst 9999), (147, .aload 0), (148, .getfield 12011), (151, .iconst 5), (152, .iaload), (153, .iconst 1), (154, .iadd), (155, .invokestatic 3289921), (158, .iastore), (159, .iload 2), (160, .ireturn)]
/-- ArchEndsModel.drawn(I)I -/
noncomputable def cd_278 : List (Nat × Instr) := [(0, .aload 0), (1, .getfield 12011), (4, .iconst 9), (6, .iconst 1103515245), (8, .aload 0), (9, .getfield 12011), (12, .iconst 9), (14, .iaload), (15, .imul), (16, .iconst 12345), (19, .iadd), (20, .iastore), (21, .aload 0), (22, .getfield 12011), (25, .iconst 9), (27, .iaload), (28, .iconst 16), (30, .ishr), (31, .iconst 32767), (34, .iand), (35, .iload 1), (36, .irem), (37, .ireturn)]
/-- ArchEndsModel.brightens(I)Z -/
noncomputable def cd_279 : List (Nat × Instr) := [(0, .aload 0), (1, .aload 0), (2, .iload 1), (3, .iconst 0), (4, .invokevirtual 2571231), (7, .aload 0), (8, .getfield 12011), (11, .iconst 6), (13, .iaload), (14, .aload 0), (15, .getfield 12011), (18, .iconst 5), (19, .iaload), (20, .invokevirtual 2371241), (23, .istore 2), (24, .aload 0), (25, .iload 1), (26, .iconst 4), (27, .invokevirtual 2571231), (30, .istore 3), (31, .iload 2), (32, .ifCond .eq 77), (35, .aload 0), (36, .iload 3), (37, .iload 1), (38, .aload 0), (39, .getfield 12011), (42, .iconst 5), (43, .iaload), (44, .invokevirtual 2661241), (47, .istore 4), (49, .aload 0), (50, .getfield 12011), (53, .iload 1), (54, .iconst 5), (55, .invokestatic 2059921), (58, .dup2), (59, .iaload), (60, .iconst 1), (61, .iadd), (62, .iastore), (63, .aload 0), (64, .iload 3), (65, .iload 4), (67, .invokevirtual 2701230), (70, .aload 0), (71, .iload 1), (72, .iload 4), (74, .invokevirtual 2801230), (77, .jsr 16), (77, .aload 0), (78, .iload 1), (79, .iconst 6), (81, .invokevirtual 2571231), (84, .iconst 1), (85, .if_icmp .ne 123), (88, .aload 0), (89, .getfield 12011), (92, .iconst 5), (93, .iaload), (94, .aload 0), (95, .iload 1), (96, .iconst 2), (97, .invokevirtual 2571231), (100, .if_icmp .ne 123), (103, .aload 0), (104, .iload 1), (105, .iconst 5), (106, .invokevirtual 2571231), (109, .ifCond .ne 123), (112, .aload 0), (113, .iload 3), (114, .aload 0), (115, .iload 1), (116, .iconst 3), (117, .invokevirtual 2571231), (120, .invokevirtual 2701230), (123, .jsr 27), (123, .iload 2), (124, .freturn)]
/-- ArchEndsModel.tells(II)V -/
noncomputable def cd_280 : List (Nat × Instr) := [(0, .iconst 239), (3, .istore 3), (100004, .goto_w 4), (4, .iload 3), (5, .iconst 4), (6, .if_icmp .lt 35), (9, .aload 0), (10, .getfield 12011), (13, .iconst 123), (15, .iload 3), (16, .iadd), (17, .aload 0), (18, .getfield 12011), (21, .iconst 123), (23, .iload 3), (24, .iadd), (25, .iconst 4), (26, .isub), (27, .iaload), (28, .iastore), (29, .iinc 3 (-1)), (32, .goto 4), (35, .jsr 8), (35, .aload 0), (36, .getfield 12011), (39, .iconst 123), (41, .aload 0), (42, .getfield 12011), (45, .iconst 5), (46, .iaload), (47, .iastore), (48, .aload 0), (49, .getfield 12011), (52, .iconst 124), (54, .iload 1), (55, .iastore), (56, .aload 0), (57, .getfield 12011), (60, .iconst 125), (62, .aload 0), (63, .iload 1), (64, .iconst 0), (65, .invokevirtual 2571231), (68, .iastore), (69, .aload 0), (70, .getfield 12011), (73, .iconst 126), (75, .iload 2), (76, .iastore), (77, .aload 0), (78, .getfield 12011), (81, .iconst 8), (83, .iconst 60), (85, .aload 0), (86, .getfield 12011), (89, .iconst 8), (91, .iaload), (92, .iconst 1), (93, .iadd), (94, .invokestatic 3289921), (97, .iastore), (98, .return_)]
/-- ArchEndsModel.ahead(II)I -/
noncomputable def cd_281 : List (Nat × Instr) := [(0, .aload 0), (1, .iconst 0), (2, .putfield 12000), (5, .aload 0), (6, .aload 0), (7, .iload 1), (8, .invokevirtual 2491221), (11, .iconst 1), (12, .invokevirtual 2161231), (15, .ifCond .ne 42), (18, .aload 0), (19, .iload 2), (20, .iconst 0), (21, .iconst 200), (24, .invokestatic 2209931), (27, .ifCond .ne 34), (30, .iconst 1), (31, .goto 35), (34, .jsr 8), (34, .iconst 0), (35, .jsr 8), (35, .iconst 2), (36, .invokevirtual 2161231), (39, .ifCond .eq 44), (42, .jsr 15), (42, .iconst 0), (43, .ireturn), (44, .jsr 8), (44, .aload 0), (45, .invokevirtual 2821210), (48, .aload 0), (49, .iload 2), (50, .iconst 1), (51, .invokevirtual 2761231), (54, .pop), (55, .aload 0), (56, .iload 1), (57, .iconst 0), (58, .invokevirtual 2511231), (61, .istore 3), (62, .aload 0), (63, .invokevirtual 2831210), (66, .iload 3), (67, .ireturn)]
/-- ArchEndsModel.keepsAll()V -/
noncomputable def cd_282 : List (Nat × Instr) := [(0, .iconst 0), (1, .istore 1), (100002, .goto_w 2), (2, .iload 1), (3, .iconst 363), (6, .if_icmp .ge 27), (9, .aload 0), (10, .getfield 12041), (13, .iload 1), (14, .aload 0), (15, .getfield 12011), (18, .iload 1), (19, .iaload), (20, .iastore), (21, .iinc 1 1), (24, .goto 2), (27, .jsr 3), (27, .return_)]
/-- ArchEndsModel.bringsBack()V -/
noncomputable def cd_283 : List (Nat × Instr) := [(0, .iconst 0), (1, .istore 1), (100002, .goto_w 2), (2, .iload 1), (3, .iconst 363), (6, .if_icmp .ge 27), (9, .aload 0), (10, .getfield 12011), (13, .iload 1), (14, .aload 0), (15, .getfield 12041), (18, .iload 1), (19, .iaload), (20, .iastore), (21, .iinc 1 1), (24, .goto 2), (27, .jsr 3), (27, .return_)]
/-- ArchEndsModel.odds(II)I -/
noncomputable def cd_284 : List (Nat × Instr) := [(0, .aload 0), (1, .iload 1), (2, .iload 2), (3, .invokevirtual 2281231), (6, .ifCond .eq 13), (9, .iconst 0), (10, .goto 19), (13, .aload 0), (14, .iload 1), (15, .iload 2), (16, .invokevirtual 2851231), (19, .jsr 7), (19, .ireturn)]
/-- ArchEndsModel.oddsOf(II)I -/
noncomputable def cd_285 : List (Nat × Instr) := [(0, .lconst 1), (1, .lstore 3), (2, .lconst 1), (3, .lstore 5), (5, .iconst 0), (6, .istore 7), (100008, .goto_w 8), (8, .iload 7), (10, .aload 0), (11, .invokevirtual 1951211), (14, .if_icmp .ge 87), (17, .aload 0), (18, .iload 7), (20, .iload 1), (21, .iload 2), (22, .invokevirtual 2341241), (25, .ifCond .eq 81), (28, .aload 0), (29, .iload 7), (31, .iconst 6), (33, .invokevirtual 2211231), (36, .iconst 2), (37, .if_icmp .ne 43), (40, .goto 81), (43, .lload 3), (44, .aload 0), (45, .iload 7), (47, .iconst 6), (49, .invokevirtual 2211231), (52, .iconst 1), (53, .if_icmp .ne 60), (56, .lconst 0), (57, .goto 71), (60, .jsr 24), (60, .iconst 100), (62, .aload 0), (63, .iload 7), (65, .iconst 5), (66, .invokevirtual 2211231), (69, .isub), (70, .i2l), (71, .jsr 24), (71, .lmul), (72, .lstore 3), (73, .lload 5), (75, .ldc2_w 100), (78, .lmul), (79, .lstore 5), (81, .iinc 7 1), (84, .goto 8), (87, .jsr 135), (87, .ldc2_w 10000), (90, .lload 5), (92, .lload 3), (93, .lsub), (94, .lmul), (95, .lload 5), (97, .ldiv), (98, .l2i), (99, .ireturn)]
/-- ArchEndsModel.hope(I)I -/
noncomputable def cd_286 : List (Nat × Instr) := [(0, .aload 0), (1, .iconst 0), (2, .putfield 12000), (5, .aload 0), (6, .aload 0), (7, .iload 1), (8, .invokevirtual 2621221), (11, .iconst 1), (12, .invokevirtual 2161231), (15, .ifCond .eq 22), (18, .iconst 0), (19, .goto 27), (22, .aload 0), (23, .iload 1), (24, .invokevirtual 2871221), (27, .jsr 3), (27, .ireturn)]
/-- ArchEndsModel.hopeOf(I)I -/
noncomputable def cd_287 : List (Nat × Instr) := [(0, .iconst 0), (1, .istore 2), (2, .aload 0), (3, .iload 1), (4, .iconst 1), (5, .invokevirtual 2571231), (8, .istore 3), (100009, .goto_w 9), (9, .iload 3), (10, .aload 0), (11, .iload 1), (12, .iconst 2), (13, .invokevirtual 2571231), (16, .if_icmp .gt 59), (19, .aload 0), (20, .getfield 12011), (23, .iconst 6), (25, .iaload), (26, .iload 3), (27, .invokestatic 2309921), (30, .aload 0), (31, .iload 1), (32, .iconst 0), (33, .invokevirtual 2571231), (36, .if_icmp .ne 53), (39, .iload 2), (40, .aload 0), (41, .aload 0), (42, .iload 1), (43, .iconst 0), (44, .invokevirtual 2571231), (47, .iload 3), (48, .invokevirtual 2851231), (51, .iadd), (52, .istore 2), (53, .iinc 3 1), (56, .goto 9), (59, .jsr 11), (59, .iload 2), (60, .iconst 100), (62, .idiv), (63, .ireturn)]
/-- ArchEndsModel.gain(II)I -/
noncomputable def cd_288 : List (Nat × Instr) := [(0, .aload 0), (1, .iconst 0), (2, .putfield 12000), (5, .aload 0), (6, .aload 0), (7, .iload 1), (8, .invokevirtual 2491221), (11, .ifCond .ne 22), (14, .aload 0), (15, .iload 2), (16, .invokevirtual 2621221), (19, .ifCond .eq 26), (22, .iconst 1), (23, .goto 27), (26, .iconst 0), (27, .iconst 1), (28, .invokevirtual 2161231), (31, .ifCond .eq 38), (34, .iconst 0), (35, .goto 44), (38, .aload 0), (39, .iload 1), (40, .iload 2), (41, .invokevirtual 2891231), (44, .jsr 7), (44, .ireturn)]
/-- ArchEndsModel.gainOf(II)I -/
noncomputable def cd_289 : List (Nat × Instr) := [(0, .iconst 0), (1, .istore 3), (2, .aload 0), (3, .getfield 12011), (6, .iconst 5), (7, .iaload), (8, .aload 0), (9, .iload 2), (10, .iconst 1), (11, .invokevirtual 2571231), (14, .invokestatic 3279921), (17, .istore 4), (100019, .goto_w 19), (19, .iload 4), (21, .aload 0), (22, .iload 2), (23, .iconst 2), (24, .invokevirtual 2571231), (27, .if_icmp .gt 69), (30, .aload 0), (31, .aload 0), (32, .iload 2), (33, .iconst 0), (34, .invokevirtual 2571231), (37, .aload 0), (38, .getfield 12011), (41, .iconst 6), (43, .iaload), (44, .iload 4), (46, .invokevirtual 2371241), (49, .ifCond .eq 63), (52, .iload 3), (53, .aload 0), (54, .iload 1), (55, .iload 2), (56, .iload 4), (58, .invokevirtual 2661241), (61, .iadd), (62, .istore 3), (63, .iinc 4 1), (66, .goto 19), (69, .jsr 16), (69, .iload 3), (70, .aload 0), (71, .iload 1), (72, .iload 2), (73, .invokevirtual 2641231), (76, .isub), (77, .ireturn)]
/-- ArchEndsModel.deals(IZ)I -/
noncomputable def cd_290 : List (Nat × Instr) := [(0, .aload 0), (1, .iconst 0), (2, .putfield 12000), (5, .aload 0), (6, .aload 0), (7, .iload 1), (8, .invokevirtual 2491221), (11, .iconst 1), (12, .invokevirtual 2161231), (15, .ifCond .eq 20), (18, .iconst 0), (19, .ireturn), (20, .jsr 56), (20, .iconst 0), (21, .istore 3), (22, .iconst 0), (23, .istore 4), (100025, .goto_w 25), (25, .jsr 32), (25, .iload 4), (27, .aload 0), (28, .invokevirtual 2041211), (31, .if_icmp .ge 88), (34, .aload 0), (35, .getfield 12211), (38, .iload 4), (40, .aload 0), (41, .iload 1), (42, .iload 4), (44, .invokevirtual 2641231), (47, .iastore), (48, .aload 0), (49, .getfield 12221), (52, .iload 4), (54, .aload 0), (55, .iload 1), (56, .iload 4), (58, .invokevirtual 2891231), (61, .iastore), (62, .iload 3), (63, .aload 0), (64, .iload 4), (66, .invokevirtual 2561221), (69, .ifCond .eq 76), (72, .iconst 0), (73, .goto 80), (76, .jsr 40), (76, .iconst 1), (77, .iload 4), (79, .ishl), (80, .jsr 40), (80, .ior), (81, .istore 3), (82, .iinc 4 1), (85, .goto 25), (88, .jsr 48), (88, .iconst 0), (89, .istore 4), (91, .iconst 1), (92, .istore 5), (100094, .goto_w 94), (94, .iload 5), (96, .iload 3), (97, .if_icmp .gt 158), (100, .iload 5), (102, .iload 3), (103, .iconst (-1)), (104, .ixor), (105, .iand), (106, .ifCond .ne 152), (109, .aload 0), (110, .getfield 12211), (113, .iload 5), (115, .invokestatic 2919921), (118, .aload 0), (119, .iload 1), (120, .iconst 0), (121, .invokevirtual 2511231), (124, .if_icmp .gt 152), (127, .aload 0), (128, .getfield 12221), (131, .iload 5), (133, .invokestatic 2919921), (136, .aload 0), (137, .getfield 12221), (140, .iload 4), (142, .invokestatic 2919921), (145, .if_icmp .le 152), (148, .iload 5), (150, .istore 4), (152, .iinc 5 1), (155, .goto 94), (158, .jsr 42), (158, .iload 2), (159, .ifCond .eq 174), (162, .aload 0), (163, .getfield 12221), (166, .iload 4), (168, .invokestatic 2919921), (171, .goto 176), (174, .jsr 47), (174, .iload 4), (176, .jsr 63), (176, .ireturn)]
/-- ArchEndsModel.allOf([II)I -/
noncomputable def cd_291 : List (Nat × Instr) := [(0, .iconst 0), (1, .istore 2), (2, .iconst 0), (3, .istore 3), (100004, .goto_w 4), (4, .iload 3), (5, .iconst 8), (7, .if_icmp .ge 34), (10, .iload 2), (11, .iload 1), (12, .iload 3), (13, .invokestatic 2929921), (16, .ifCond .eq 25), (19, .aload 0), (20, .iload 3), (21, .iaload), (22, .goto 26), (25, .jsr 4), (25, .iconst 0), (26, .jsr 4), (26, .iadd), (27, .istore 2), (28, .iinc 3 1), (31, .goto 4), (34, .jsr 11), (34, .iload 2), (35, .ireturn)]
/-- ArchEndsModel.has(II)Z -/
noncomputable def cd_292 : List (Nat × Instr) := [(0, .iload 0), (1, .iload 1), (2, .ishr), (3, .iconst 1), (4, .iand), (5, .iconst 1), (6, .if_icmp .ne 13), (9, .iconst 1), (10, .goto 14), (13, .jsr 3), (13, .iconst 0), (14, .jsr 3), (14, .freturn)]
/-- ArchEndsModel.rests(IIII)I -/
noncomputable def cd_293 : List (Nat × Instr) := [(0, .aload 0), (1, .iconst 0), (2, .putfield 12000), (5, .aload 0), (6, .aload 0), (7, .iload 1), (8, .invokevirtual 2491221), (11, .ifCond .ne 39), (14, .aload 0), (15, .iload 2), (16, .invokevirtual 2491221), (19, .ifCond .ne 39), (22, .aload 0), (23, .iload 3), (24, .invokevirtual 2621221), (27, .ifCond .ne 39), (30, .aload 0), (31, .iload 4), (33, .invokevirtual 2621221), (36, .ifCond .eq 43), (39, .jsr 992), (39, .iconst 1), (40, .goto 44), (43, .jsr 992), (43, .iconst 0), (44, .jsr 992), (44, .iconst 1), (45, .invokevirtual 2161231), (48, .ifCond .ne 75), (51, .aload 0), (52, .iload 1), (53, .iload 2), (54, .if_icmp .eq 63), (57, .iload 3), (58, .iload 4), (60, .if_icmp .ne 67), (63, .jsr 992), (63, .iconst 1), (64, .goto 68), (67, .jsr 992), (67, .iconst 0), (68, .jsr 992), (68, .iconst 2), (69, .invokevirtual 2161231), (72, .ifCond .eq 77), (75, .jsr 1023), (75, .iconst 0), (76, .ireturn), (77, .jsr 992), (77, .iconst 0), (78, .istore 5), (80, .iconst 0), (81, .istore 6), (100083, .goto_w 83), (83, .jsr 896), (83, .iload 6), (85, .iconst 2), (86, .if_icmp .ge 242), (89, .iconst 0), (90, .istore 7), (100092, .goto_w 92), (92, .jsr 768), (92, .iload 7), (94, .iconst 2), (95, .if_icmp .ge 236), (98, .aload 0), (99, .iload 1), (100, .iload 6), (102, .iload 7), (104, .iload 6), (106, .ifCond .ne 113), (109, .iload 3), (110, .goto 115), (113, .jsr 768), (113, .iload 4), (115, .jsr 768), (115, .invokevirtual 2941251), (118, .aload 0), (119, .iload 1), (120, .iconst 1), (121, .iload 6), (123, .isub), (124, .iload 7), (126, .iload 6), (128, .ifCond .ne 136), (131, .iload 4), (133, .goto 137), (136, .jsr 768), (136, .iload 3), (137, .jsr 768), (137, .invokevirtual 2941251), (140, .if_icmp .lt 147), (143, .iconst 1), (144, .goto 148), (147, .jsr 768), (147, .iconst 0), (148, .jsr 768), (148, .istore 8), (150, .aload 0), (151, .iload 2), (152, .iload 7), (154, .iload 6), (156, .iload 7), (158, .ifCond .ne 165), (161, .iload 3), (162, .goto 167), (165, .jsr 512), (165, .iload 4), (167, .jsr 512), (167, .invokevirtual 2941251), (170, .aload 0), (171, .iload 2), (172, .iconst 1), (173, .iload 7), (175, .isub), (176, .iload 6), (178, .iload 7), (180, .ifCond .ne 188), (183, .iload 4), (185, .goto 189), (188, .jsr 512), (188, .iload 3), (189, .jsr 512), (189, .invokevirtual 2941251), (192, .if_icmp .lt 199), (195, .iconst 1), (196, .goto 200), (199, .jsr 512), (199, .iconst 0), (200, .jsr 512), (200, .istore 9), (202, .iload 5), (204, .iload 8), (206, .ifCond .eq 226), (209, .iload 9), (211, .ifCond .eq 226), (214, .iconst 1), (215, .iconst 2), (216, .iload 6), (218, .imul), (219, .iload 7), (221, .iadd), (222, .ishl), (223, .goto 227), (226, .jsr 800), (226, .iconst 0), (227, .jsr 800), (227, .ior), (228, .istore 5), (230, .iinc 7 1), (233, .goto 92), (236, .jsr 896), (236, .iinc 6 1), (239, .goto 83), (242, .jsr 991), (242, .iload 5), (244, .ireturn)]
/-- ArchEndsModel.restsBy(IIII)I -/
noncomputable def cd_294 : List (Nat × Instr) := [(0, .aload 0), (1, .iload 4), (3, .invokevirtual 2871221), (6, .istore 5), (8, .iload 2), (9, .iload 3), (10, .if_icmp .ne 20), (13, .iload 5), (15, .iconst 2), (16, .idiv), (17, .goto 22), (20, .jsr 12), (20, .iload 5), (22, .jsr 44), (22, .aload 0), (23, .iload 1), (24, .iload 4), (26, .invokevirtual 2641231), (29, .isub), (30, .ireturn)]
/-- ArchEndsModel.meet(II)I -/
noncomputable def cd_295 : List (Nat × Instr) := [(0, .aload 0), (1, .iconst 0), (2, .putfield 12000), (5, .aload 0), (6, .aload 0), (7, .iload 1), (8, .invokevirtual 2491221), (11, .ifCond .ne 22), (14, .aload 0), (15, .iload 2), (16, .invokevirtual 2491221), (19, .ifCond .eq 26), (22, .jsr 24), (22, .iconst 1), (23, .goto 27), (26, .jsr 24), (26, .iconst 0), (27, .jsr 24), (27, .iconst 1), (28, .invokevirtual 2161231), (31, .ifCond .ne 52), (34, .aload 0), (35, .iload 1), (36, .iload 2), (37, .if_icmp .ne 44), (40, .iconst 1), (41, .goto 45), (44, .jsr 24), (44, .iconst 0), (45, .jsr 24), (45, .iconst 2), (46, .invokevirtual 2161231), (49, .ifCond .eq 54), (52, .jsr 31), (52, .iconst 0), (53, .ireturn), (54, .jsr 24), (54, .iconst 0), (55, .istore 3), (56, .iconst 1), (57, .istore 4), (100059, .goto_w 59), (59, .iload 4), (61, .iconst 16), (63, .if_icmp .ge 114), (66, .aload 0), (67, .iload 1), (68, .iload 4), (70, .invokevirtual 2961231), (73, .aload 0), (74, .iload 2), (75, .iload 4), (77, .invokevirtual 2961231), (80, .invokestatic 3279921), (83, .aload 0), (84, .iload 1), (85, .iload 3), (86, .invokevirtual 2961231), (89, .aload 0), (90, .iload 2), (91, .iload 3), (92, .invokevirtual 2961231), (95, .invokestatic 3279921), (98, .if_icmp .ge 106), (101, .iload 4), (103, .goto 107), (106, .iload 3), (107, .jsr 8), (107, .istore 3), (108, .iinc 4 1), (111, .goto 59), (114, .jsr 23), (114, .iload 3), (115, .ireturn)]
/-- ArchEndsModel.minutesOf(II)I -/
noncomputable def cd_296 : List (Nat × Instr) := [(0, .aload 0), (1, .iload 1), (2, .iconst 1), (3, .invokevirtual 2511231), (6, .iload 2), (7, .isub), (8, .invokestatic 3269911), (11, .aload 0), (12, .iload 1), (13, .iconst 2), (14, .invokevirtual 2511231), (17, .iadd), (18, .iconst 1), (19, .isub), (20, .aload 0), (21, .iload 1), (22, .iconst 2), (23, .invokevirtual 2511231), (26, .idiv), (27, .ireturn)]
/-- ArchEndsModel.rush(I)I -/
noncomputable def cd_297 : List (Nat × Instr) := [(0, .aload 0), (1, .iconst 0), (2, .putfield 12000), (5, .aload 0), (6, .iload 1), (7, .invokestatic 2299911), (10, .iconst 1), (11, .invokevirtual 2161231), (14, .ifCond .eq 19), (17, .iconst 0), (18, .ireturn), (19, .jsr 12), (19, .iconst (-1)), (20, .istore 2), (21, .iconst 0), (22, .istore 3), (100023, .goto_w 23), (23, .iload 3), (24, .aload 0), (25, .invokevirtual 2011211), (28, .if_icmp .ge 58), (31, .iload 2), (32, .ifCond .lt 50), (35, .aload 0), (36, .iload 3), (37, .iload 1), (38, .invokevirtual 2961231), (41, .aload 0), (42, .iload 2), (43, .iload 1), (44, .invokevirtual 2961231), (47, .if_icmp .ge 52), (50, .jsr 4), (50, .iload 3), (51, .istore 2), (52, .iinc 3 1), (55, .goto 23), (58, .jsr 11), (58, .iload 2), (59, .ireturn)]
/-- ArchEndsModel.send(I)I -/
noncomputable def cd_298 : List (Nat × Instr) := [(0, .aload 0), (1, .invokevirtual 1871210), (4, .aload 0), (5, .iload 1), (6, .iconst (-1)), (7, .if_icmp .eq 22), (10, .aload 0), (11, .iload 1), (12, .invokevirtual 2491221), (15, .ifCond .eq 22), (18, .iconst 1), (19, .goto 23), (22, .jsr 60), (22, .iconst 0), (23, .jsr 60), (23, .iconst 1), (24, .invokevirtual 2161231), (27, .ifCond .eq 32), (30, .iconst 0), (31, .ireturn), (32, .jsr 60), (32, .aload 0), (33, .getfield 12110), (36, .aload 0), (37, .invokevirtual 2011211), (40, .if_icmp .ne 47), (43, .iconst 1), (44, .goto 48), (47, .jsr 60), (47, .iconst 0), (48, .jsr 60), (48, .istore 2), (49, .iconst 0), (50, .istore 3), (100051, .goto_w 51), (51, .jsr 48), (51, .iload 3), (52, .aload 0), (53, .getfield 12110), (56, .if_icmp .ge 87), (59, .iload 2), (60, .ifCond .eq 87), (63, .aload 0), (64, .getfield 12081), (67, .iload 3), (68, .baload), (69, .invokestatic 2299911), (72, .ifCond .ne 79), (75, .iconst 1), (76, .goto 80), (79, .jsr 52), (79, .iconst 0), (80, .jsr 52), (80, .istore 2), (81, .iinc 3 1), (84, .goto 51), (87, .jsr 56), (87, .aload 0), (88, .iload 2), (89, .ifCond .ne 96), (92, .iconst 1), (93, .goto 97), (96, .jsr 60), (96, .iconst 0), (97, .jsr 60), (97, .iconst 2), (98, .invokevirtual 2161231), (101, .ifCond .eq 106), (104, .iconst 0), (105, .ireturn), (106, .jsr 60), (106, .aload 0), (107, .invokevirtual 2991210), (110, .iload 1), (111, .iconst (-1)), (112, .if_icmp .ne 122), (115, .aload 0), (116, .iconst 0), (117, .iconst 0), (118, .invokevirtual 3011231), (121, .ireturn), (122, .jsr 60), (122, .iconst 0), (123, .istore 3), (124, .iconst 0), (125, .istore 4), (127, .iconst 0), (128, .istore 5), (100130, .goto_w 130), (130, .jsr 4), (130, .iload 5), (132, .iload 1), (133, .if_icmp .gt 186), (136, .iconst 0), (137, .istore 4), (100139, .goto_w 139), (139, .jsr 4), (139, .iload 3), (140, .iload 4), (142, .invokestatic 2929921), (145, .ifCond .ne 167), (148, .aload 0), (149, .iload 5), (151, .iload 3), (152, .iload 4), (154, .invokevirtual 3001241), (157, .aload 0), (158, .iload 5), (160, .iload 3), (161, .invokevirtual 3011231), (164, .if_icmp .eq 173), (167, .jsr 4), (167, .iinc 4 1), (170, .goto 139), (173, .jsr 4), (173, .iload 3), (174, .iconst 1), (175, .iload 4), (177, .ishl), (178, .ior), (179, .istore 3), (180, .iinc 5 1), (183, .goto 130), (186, .jsr 47), (186, .iload 4), (188, .ireturn)]
/-- ArchEndsModel.laysLeast()V -/
noncomputable def cd_299 : List (Nat × Instr) := [(0, .iconst 0), (1, .istore 1), (100002, .goto_w 2), (2, .jsr 28), (2, .iload 1), (3, .iconst 32), (5, .if_icmp .ge 28), (8, .aload 0), (9, .getfield 12231), (12, .aload 0), (13, .invokevirtual 2011211), (16, .iconst 5), (17, .ishl), (18, .iload 1), (19, .iadd), (20, .iconst 0), (21, .iastore), (22, .iinc 1 1), (25, .goto 2), (28, .jsr 30), (28, .aload 0), (29, .invokevirtual 2011211), (32, .iconst 1), (33, .isub), (34, .istore 1), (100035, .goto_w 35), (35, .jsr 28), (35, .iload 1), (36, .ifCond .lt 114), (39, .iconst 0), (40, .istore 2), (100041, .goto_w 41), (41, .jsr 24), (41, .iload 2), (42, .iconst 32), (44, .if_icmp .ge 108), (47, .iconst 100000000), (50, .istore 3), (51, .iconst 0), (52, .istore 4), (100054, .goto_w 54), (54, .iload 4), (56, .aload 0), (57, .invokevirtual 2011211), (60, .if_icmp .ge 91), (63, .iload 2), (64, .iload 4), (66, .invokestatic 2929921), (69, .ifCond .ne 85), (72, .iload 3), (73, .aload 0), (74, .iload 1), (75, .iload 2), (76, .iload 4), (78, .invokevirtual 3001241), (81, .invokestatic 3289921), (84, .istore 3), (85, .iinc 4 1), (88, .goto 54), (91, .jsr 16), (91, .aload 0), (92, .getfield 12231), (95, .iload 1), (96, .iconst 5), (97, .ishl), (98, .iload 2), (99, .iadd), (100, .iload 3), (101, .iastore), (102, .iinc 2 1), (105, .goto 41), (108, .jsr 28), (108, .iinc 1 (-1)), (111, .goto 35), (114, .jsr 31), (114, .return_)]
/-- ArchEndsModel.leastBy(III)I -/
noncomputable def cd_300 : List (Nat × Instr) := [(0, .aload 0), (1, .iload 1), (2, .aload 0), (3, .getfield 12081), (6, .iload 3), (7, .baload), (8, .invokevirtual 2961231), (11, .aload 0), (12, .iload 1), (13, .iconst 1), (14, .iadd), (15, .iload 2), (16, .iconst 1), (17, .iload 3), (18, .ishl), (19, .ior), (20, .invokevirtual 3011231), (23, .iadd), (24, .ireturn)]
/-- ArchEndsModel.leastOf(II)I -/
noncomputable def cd_301 : List (Nat × Instr) := [(0, .aload 0), (1, .getfield 12231), (4, .iload 1), (5, .iconst 5), (6, .ishl), (7, .iload 2), (8, .iadd), (9, .iaload), (10, .ireturn)]
/-- ArchEndsModel.seen(IZ)I -/
noncomputable def cd_302 : List (Nat × Instr) := [(0, .aload 0), (1, .invokevirtual 1871210), (4, .aload 0), (5, .aload 0), (6, .invokevirtual 3031211), (9, .ifCond .eq 19), (12, .iload 1), (13, .invokestatic 2239911), (16, .ifCond .eq 23), (19, .jsr 56), (19, .iconst 1), (20, .goto 24), (23, .jsr 56), (23, .iconst 0), (24, .jsr 56), (24, .iconst 1), (25, .invokevirtual 2161231), (28, .ifCond .eq 33), (31, .iconst 0), (32, .ireturn), (33, .jsr 56), (33, .iconst 0), (34, .istore 3), (35, .iconst 1), (36, .aload 0), (37, .invokevirtual 1951211), (40, .ishl), (41, .iconst 1), (42, .isub), (43, .istore 4), (45, .iconst 0), (46, .istore 5), (100048, .goto_w 48), (48, .iload 5), (50, .iconst 1), (51, .aload 0), (52, .invokevirtual 1951211), (55, .ishl), (56, .if_icmp .ge 88), (59, .aload 0), (60, .iload 5), (62, .iload 1), (63, .invokevirtual 3041231), (66, .ifCond .ne 72), (69, .goto 82), (72, .iinc 3 1), (75, .iload 4), (77, .iload 5), (79, .iand), (80, .istore 4), (82, .iinc 5 1), (85, .goto 48), (88, .jsr 35), (88, .iload 2), (89, .ifCond .ne 96), (92, .iload 3), (93, .goto 106), (96, .jsr 39), (96, .iload 3), (97, .ifCond .ne 104), (100, .iconst 0), (101, .goto 106), (104, .jsr 47), (104, .iload 4), (106, .jsr 63), (106, .ireturn)]
/-- ArchEndsModel.isTold()Z -/
noncomputable def cd_303 : List (Nat × Instr) := [(0, .aload 0), (1, .getfield 12110), (4, .iconst 2), (5, .irem), (6, .ifCond .ne 22), (9, .aload 0), (10, .getfield 12110), (13, .iconst 40), (15, .if_icmp .gt 22), (18, .iconst 1), (19, .goto 23), (22, .jsr 6), (22, .iconst 0), (23, .jsr 6), (23, .istore 1), (24, .iconst 0), (25, .istore 2), (100026, .goto_w 26), (26, .iload 2), (27, .aload 0), (28, .getfield 12110), (31, .if_icmp .ge 78), (34, .iload 1), (35, .ifCond .eq 78), (38, .aload 0), (39, .getfield 12081), (42, .iload 2), (43, .baload), (44, .invokestatic 2299911), (47, .ifCond .ne 70), (50, .aload 0), (51, .getfield 12081), (54, .iload 2), (55, .iconst 1), (56, .iadd), (57, .baload), (58, .iconst 0), (59, .iconst 1), (60, .invokestatic 2209931), (63, .ifCond .eq 70), (66, .iconst 1), (67, .goto 71), (70, .jsr 2), (70, .iconst 0), (71, .jsr 2), (71, .istore 1), (72, .iinc 2 2), (75, .goto 26), (78, .jsr 5), (78, .iload 1), (79, .freturn)]
/-- ArchEndsModel.fits(II)Z -/
noncomputable def cd_304 : List (Nat × Instr) := [(0, .iconst 1), (1, .istore 3), (2, .iconst 0), (3, .istore 4), (100005, .goto_w 5), (5, .iload 4), (7, .aload 0), (8, .invokevirtual 1951211), (11, .if_icmp .ge 67), (14, .iload 3), (15, .ifCond .eq 59), (18, .aload 0), (19, .iload 4), (21, .iconst 6), (23, .invokevirtual 2211231), (26, .ifCond .eq 55), (29, .iload 1), (30, .iload 4), (32, .invokestatic 2929921), (35, .aload 0), (36, .iload 4), (38, .iconst 6), (40, .invokevirtual 2211231), (43, .iconst 1), (44, .if_icmp .ne 51), (47, .iconst 1), (48, .goto 52), (51, .jsr 8), (51, .iconst 0), (52, .jsr 8), (52, .if_icmp .ne 59), (55, .jsr 8), (55, .iconst 1), (56, .goto 60), (59, .jsr 8), (59, .iconst 0), (60, .jsr 8), (60, .istore 3), (61, .iinc 4 1), (64, .goto 5), (67, .jsr 16), (67, .iconst 0), (68, .istore 4), (100070, .goto_w 70), (70, .iload 4), (72, .aload 0), (73, .getfield 12110), (76, .if_icmp .ge 129), (79, .iload 3), (80, .ifCond .eq 121), (83, .aload 0), (84, .iload 1), (85, .aload 0), (86, .getfield 12081), (89, .iload 4), (91, .baload), (92, .iload 2), (93, .invokevirtual 3051241), (96, .aload 0), (97, .getfield 12081), (100, .iload 4), (102, .iconst 1), (103, .iadd), (104, .baload), (105, .iconst 1), (106, .if_icmp .ne 113), (109, .iconst 1), (110, .goto 114), (113, .jsr 8), (113, .iconst 0), (114, .jsr 8), (114, .if_icmp .ne 121), (117, .iconst 1), (118, .goto 122), (121, .jsr 8), (121, .iconst 0), (122, .jsr 8), (122, .istore 3), (123, .iinc 4 2), (126, .goto 70), (129, .jsr 23), (129, .iload 3), (130, .freturn)]
/-- ArchEndsModel.isWetBy(III)Z -/
noncomputable def cd_305 : List (Nat × Instr) := [(0, .iconst 0), (1, .istore 4), (3, .iconst 0), (4, .istore 5), (100006, .goto_w 6), (6, .iload 5), (8, .aload 0), (9, .invokevirtual 1951211), (12, .if_icmp .ge 53), (15, .iload 4), (17, .ifCond .ne 40), (20, .iload 1), (21, .iload 5), (23, .invokestatic 2929921), (26, .ifCond .eq 44), (29, .aload 0), (30, .iload 5), (32, .iload 2), (33, .iload 3), (34, .invokevirtual 2341241), (37, .ifCond .eq 44), (40, .jsr 16), (40, .iconst 1), (41, .goto 45), (44, .jsr 16), (44, .iconst 0), (45, .jsr 16), (45, .istore 4), (47, .iinc 5 1), (50, .goto 6), (53, .jsr 47), (53, .iload 4), (55, .freturn)]
/-- ArchEndsModel.ask(I)I -/
noncomputable def cd_306 : List (Nat × Instr) := [(0, .aload 0), (1, .invokevirtual 1871210), (4, .aload 0), (5, .aload 0), (6, .invokevirtual 3031211), (9, .ifCond .eq 19), (12, .iload 1), (13, .invokestatic 2239911), (16, .ifCond .eq 23), (19, .jsr 252), (19, .iconst 1), (20, .goto 24), (23, .jsr 252), (23, .iconst 0), (24, .jsr 252), (24, .iconst 1), (25, .invokevirtual 2161231), (28, .ifCond .eq 33), (31, .iconst 0), (32, .ireturn), (33, .jsr 252), (33, .iconst (-1)), (34, .istore 2), (35, .iconst 100000000), (38, .istore 3), (39, .iconst 0), (40, .istore 4), (100042, .goto_w 42), (42, .jsr 224), (42, .iload 4), (44, .iconst 16), (46, .if_icmp .ge 152), (49, .iconst 0), (50, .istore 5), (52, .iconst 0), (53, .istore 6), (55, .iconst 0), (56, .istore 7), (100058, .goto_w 58), (58, .iload 7), (60, .iconst 1), (61, .aload 0), (62, .invokevirtual 1951211), (65, .ishl), (66, .if_icmp .ge 113), (69, .aload 0), (70, .iload 7), (72, .iload 1), (73, .invokevirtual 3041231), (76, .ifCond .ne 82), (79, .goto 107), (82, .iinc 5 1), (85, .iload 6), (87, .aload 0), (88, .iload 7), (90, .iload 4), (92, .iload 1), (93, .invokevirtual 3051241), (96, .ifCond .eq 103), (99, .iconst 1), (100, .goto 104), (103, .jsr 64), (103, .iconst 0), (104, .jsr 64), (104, .iadd), (105, .istore 6), (107, .iinc 7 1), (110, .goto 58), (113, .jsr 128), (113, .iload 6), (115, .iload 5), (117, .iload 6), (119, .isub), (120, .invokestatic 3279921), (123, .istore 7), (125, .iload 5), (127, .iconst 2), (128, .if_icmp .lt 146), (131, .iload 7), (133, .iload 3), (134, .if_icmp .lt 140), (137, .goto 146), (140, .jsr 108), (140, .iload 4), (142, .istore 2), (143, .iload 7), (145, .istore 3), (146, .jsr 224), (146, .iinc 4 1), (149, .goto 42), (152, .jsr 251), (152, .iload 2), (153, .ireturn)]
/-- ArchEndsModel.rich()I -/
noncomputable def cd_307 : List (Nat × Instr) := [(0, .aload 0), (1, .iconst 0), (2, .putfield 12000), (5, .iconst (-1)), (6, .istore 1), (7, .iconst 0), (8, .istore 2), (100009, .goto_w 9), (9, .iload 2), (10, .aload 0), (11, .invokevirtual 2011211), (14, .if_icmp .ge 42), (17, .iload 1), (18, .ifCond .lt 34), (21, .aload 0), (22, .iload 2), (23, .invokevirtual 2601221), (26, .aload 0), (27, .iload 1), (28, .invokevirtual 2601221), (31, .if_icmp .le 36), (34, .jsr 2), (34, .iload 2), (35, .istore 1), (36, .iinc 2 1), (39, .goto 9), (42, .jsr 5), (42, .iload 1), (43, .ireturn)]
/-- ArchEndsModel.clash()I -/
noncomputable def cd_308 : List (Nat × Instr) := [(0, .aload 0), (1, .iconst 0), (2, .putfield 12000), (5, .iconst 0), (6, .istore 1), (7, .iconst 0), (8, .istore 2), (100009, .goto_w 9), (9, .jsr 8), (9, .iload 2), (10, .aload 0), (11, .invokevirtual 2041211), (14, .if_icmp .ge 89), (17, .iconst 0), (18, .istore 3), (100019, .goto_w 19), (19, .iload 3), (20, .iload 2), (21, .if_icmp .ge 83), (24, .iload 1), (25, .aload 0), (26, .iload 2), (27, .iconst 0), (28, .invokevirtual 2571231), (31, .aload 0), (32, .iload 3), (33, .iconst 0), (34, .invokevirtual 2571231), (37, .if_icmp .ne 74), (40, .aload 0), (41, .iload 2), (42, .iconst 1), (43, .invokevirtual 2571231), (46, .aload 0), (47, .iload 3), (48, .iconst 2), (49, .invokevirtual 2571231), (52, .if_icmp .gt 74), (55, .aload 0), (56, .iload 3), (57, .iconst 1), (58, .invokevirtual 2571231), (61, .aload 0), (62, .iload 2), (63, .iconst 2), (64, .invokevirtual 2571231), (67, .if_icmp .gt 74), (70, .iconst 1), (71, .goto 75), (74, .jsr 2), (74, .iconst 0), (75, .jsr 2), (75, .iadd), (76, .istore 1), (77, .iinc 3 1), (80, .goto 19), (83, .jsr 8), (83, .iinc 2 1), (86, .goto 9), (89, .jsr 13), (89, .iload 1), (90, .ireturn)]
/-- ArchEndsModel.trial(IZ)I -/
noncomputable def cd_309 : List (Nat × Instr) := [(0, .aload 0), (1, .iconst 0), (2, .putfield 12000), (5, .aload 0), (6, .iload 1), (7, .iconst 0), (8, .iconst 100), (10, .invokestatic 2209931), (13, .ifCond .ne 20), (16, .iconst 1), (17, .goto 21), (20, .jsr 24), (20, .iconst 0), (21, .jsr 24), (21, .iconst 1), (22, .invokevirtual 2161231), (25, .ifCond .eq 30), (28, .iconst 0), (29, .ireturn), (30, .jsr 24), (30, .aload 0), (31, .invokevirtual 2821210), (34, .aload 0), (35, .iload 1), (36, .iconst 0), (37, .invokevirtual 2761231), (40, .istore 3), (41, .iload 2), (42, .ifCond .eq 52), (45, .aload 0), (46, .invokevirtual 3101211), (49, .goto 53), (52, .jsr 22), (52, .iload 3), (53, .jsr 30), (53, .istore 4), (55, .aload 0), (56, .invokevirtual 2831210), (59, .iload 4), (61, .ireturn)]
/-- ArchEndsModel.pursesOfAll()I -/
noncomputable def cd_310 : List (Nat × Instr) := [(0, .iconst 0), (1, .istore 1), (2, .iconst 0), (3, .istore 2), (100004, .goto_w 4), (4, .iload 2), (5, .aload 0), (6, .invokevirtual 2011211), (9, .if_icmp .ge 27), (12, .iload 1), (13, .aload 0), (14, .iload 2), (15, .iconst 0), (16, .invokevirtual 2511231), (19, .iadd), (20, .istore 1), (21, .iinc 2 1), (24, .goto 4), (27, .jsr 5), (27, .iload 1), (28, .ireturn)]
/-- ArchEndsModel.span(IZ)I -/
noncomputable def cd_311 : List (Nat × Instr) := [(0, .aload 0), (1, .iconst 0), (2, .putfield 12000), (5, .aload 0), (6, .iload 1), (7, .iconst 0), (8, .iconst 100), (10, .invokestatic 2209931), (13, .ifCond .ne 20), (16, .iconst 1), (17, .goto 21), (20, .jsr 56), (20, .iconst 0), (21, .jsr 56), (21, .iconst 1), (22, .invokevirtual 2161231), (25, .ifCond .eq 30), (28, .iconst 0), (29, .ireturn), (30, .jsr 56), (30, .aload 0), (31, .invokevirtual 2821210), (34, .iconst (-1)), (35, .istore 3), (36, .iconst 1), (37, .istore 4), (100039, .goto_w 39), (39, .jsr 32), (39, .iload 4), (41, .iconst 6), (43, .if_icmp .gt 102), (46, .aload 0), (47, .getfield 12011), (50, .iconst 9), (52, .iload 4), (54, .iastore), (55, .aload 0), (56, .iload 1), (57, .iconst 0), (58, .invokevirtual 2761231), (61, .istore 5), (63, .aload 0), (64, .invokevirtual 2831210), (67, .iload 3), (68, .ifCond .ge 76), (71, .iload 5), (73, .goto 95), (76, .iload 2), (77, .ifCond .eq 89), (80, .iload 3), (81, .iload 5), (83, .invokestatic 3279921), (86, .goto 95), (89, .iload 3), (90, .iload 5), (92, .invokestatic 3289921), (95, .jsr 40), (95, .istore 3), (96, .iinc 4 1), (99, .goto 39), (102, .jsr 55), (102, .iload 3), (103, .ireturn)]
/-- ArchEndsModel.led(IZ)I -/
noncomputable def cd_312 : List (Nat × Instr) := [(0, .aload 0), (1, .iconst 0), (2, .putfield 12000), (5, .aload 0), (6, .iload 1), (7, .invokestatic 2299911), (10, .iconst 1), (11, .invokevirtual 2161231), (14, .ifCond .eq 19), (17, .iconst 0), (18, .ireturn), (19, .jsr 56), (19, .iconst 0), (20, .istore 3), (21, .iconst (-1)), (22, .istore 4), (24, .aload 0), (25, .getfield 12011), (28, .iconst 8), (30, .iaload), (31, .iconst 1), (32, .isub), (33, .istore 5), (100035, .goto_w 35), (35, .iload 5), (37, .ifCond .lt 72), (40, .aload 0), (41, .iload 5), (43, .iconst 2), (44, .invokevirtual 3131231), (47, .iload 1), (48, .if_icmp .eq 54), (51, .goto 66), (54, .jsr 16), (54, .iinc 3 1), (57, .aload 0), (58, .iload 5), (60, .iconst 0), (61, .invokevirtual 3131231), (64, .istore 4), (66, .iinc 5 (-1)), (69, .goto 35), (72, .jsr 35), (72, .iload 2), (73, .ifCond .eq 81), (76, .iload 4), (78, .goto 82), (81, .jsr 55), (81, .iload 3), (82, .jsr 63), (82, .ireturn)]
/-- ArchEndsModel.ofLog(II)I -/
noncomputable def cd_313 : List (Nat × Instr) := [(0, .aload 0), (1, .getfield 12011), (4, .iconst 123), (6, .iconst 4), (7, .iload 1), (8, .imul), (9, .iadd), (10, .iload 2), (11, .iadd), (12, .iaload), (13, .ireturn)]
/-- ArchEndsModel.log(II)I -/
noncomputable def cd_314 : List (Nat × Instr) := [(0, .aload 0), (1, .iconst 0), (2, .putfield 12000), (5, .aload 0), (6, .iload 2), (7, .iconst 0), (8, .iconst 3), (9, .invokestatic 2209931), (12, .ifCond .ne 19), (15, .iconst 1), (16, .goto 20), (19, .iconst 0), (20, .iconst 1), (21, .invokevirtual 2161231), (24, .ifCond .eq 29), (27, .iconst 0), (28, .ireturn), (29, .iload 1), (30, .iconst 0), (31, .aload 0), (32, .getfield 12011), (35, .iconst 8), (37, .iaload), (38, .iconst 1), (39, .isub), (40, .invokestatic 2209931), (43, .ifCond .eq 55), (46, .aload 0), (47, .iload 1), (48, .iload 2), (49, .invokevirtual 3131231), (52, .goto 56), (55, .jsr 7), (55, .iconst (-1)), (56, .jsr 7), (56, .ireturn)]
/-- ArchEndsModel.seed(I)I -/
noncomputable def cd_315 : List (Nat × Instr) := [(0, .aload 0), (1, .iconst 0), (2, .putfield 12000), (5, .aload 0), (6, .getfield 12011), (9, .iconst 9), (11, .iaload), (12, .istore 2), (13, .aload 0), (14, .getfield 12011), (17, .iconst 9), (19, .iload 1), (20, .iastore), (21, .iload 2), (22, .ireturn)]
/-- ArchEndsModel.count(I)I -/
noncomputable def cd_316 : List (Nat × Instr) := [(0, .aload 0), (1, .iconst 0), (2, .putfield 12000), (5, .iload 1), (6, .tableswitch 98 4 11 #[52, 98, 98, 98, 75, 80, 85, 93]), (52, .jsr 2), (52, .aload 0), (53, .getfield 12011), (56, .iconst 4), (57, .iaload), (58, .iconst 1), (59, .if_icmp .ne 73), (62, .aload 0), (63, .getfield 12011), (66, .iconst 363), (69, .iaload), (70, .goto 74), (73, .jsr 3), (73, .iconst (-1)), (74, .jsr 3), (74, .ireturn), (75, .jsr 2), (75, .aload 0), (76, .invokevirtual 3101211), (79, .ireturn), (80, .jsr 2), (80, .aload 0), (81, .invokevirtual 3171211), (84, .ireturn), (85, .jsr 2), (85, .aload 0), (86, .getfield 12011), (89, .iconst 8), (91, .iaload), (92, .ireturn), (93, .jsr 2), (93, .aload 0), (94, .getfield 12070), (97, .ireturn), (98, .iload 1), (99, .iconst 0), (100, .iconst 7), (102, .invokestatic 2209931), (105, .ifCond .eq 117), (108, .aload 0), (109, .getfield 12011), (112, .iload 1), (113, .iaload), (114, .goto 118), (117, .jsr 3), (117, .iconst (-1)), (118, .jsr 3), (118, .ireturn)]
/-- ArchEndsModel.ownedOnes()I -/
noncomputable def cd_317 : List (Nat × Instr) := [(0, .iconst 0), (1, .istore 1), (2, .iconst 0), (3, .istore 2), (100004, .goto_w 4), (4, .iload 2), (5, .aload 0), (6, .invokevirtual 2041211), (9, .if_icmp .ge 36), (12, .iload 1), (13, .aload 0), (14, .iload 2), (15, .invokevirtual 2561221), (18, .ifCond .eq 27), (21, .iconst 1), (22, .iload 2), (23, .ishl), (24, .goto 28), (27, .jsr 2), (27, .iconst 0), (28, .jsr 2), (28, .ior), (29, .istore 1), (30, .iinc 2 1), (33, .goto 4), (36, .jsr 5), (36, .iload 1), (37, .ireturn)]
/-- java/lang/String.length()I -/
noncomputable def cd_318 : List (Nat × Instr) := [(0, .aload 0), (1, .getfield 13001), (4, .arraylength), (5, .aload 0), (6, .invokevirtual 3191311), (9, .ishr), (10, .ireturn)]
/-- java/lang/String.coder()B -/
noncomputable def cd_319 : List (Nat × Instr) := [(0, .getstatic 1001), (3, .ifCond .eq 13), (6, .aload 0), (7, .getfield 13010), (10, .goto 14), (13, .jsr 1), (13, .iconst 1), (14, .jsr 1), (14, .lreturn)]
/-- java/lang/String.charAt(I)C -/
noncomputable def cd_320 : List (Nat × Instr) := [(0, .aload 0), (1, .invokevirtual 3211311), (4, .ifCond .eq 16), (7, .aload 0), (8, .getfield 13001), (11, .iload 1), (12, .invokestatic 3239921), (15, .dreturn), (16, .aload 0), (17, .getfield 13001), (20, .iload 1), (21, .ret 0), (24, .dreturn)]
/-- java/lang/String.isLatin1()Z -/
noncomputable def cd_321 : List (Nat × Instr) := [(0, .getstatic 1001), (3, .ifCond .eq 17), (6, .aload 0), (7, .getfield 13010), (10, .ifCond .ne 17), (13, .iconst 1), (14, .goto 18), (17, .jsr 1), (17, .iconst 0), (18, .jsr 1), (18, .freturn)]
/-- java/lang/String.checkIndex(II)V -/
noncomputable def cd_322 : List (Nat × Instr) := [(0, .iload 0), (1, .iload 1), (2, .getstatic 39), (5, .invokestatic 3249931), (8, .pop), (9, .return_)]
/-- java/lang/StringLatin1.charAt([BI)C -/
noncomputable def cd_323 : List (Nat × Instr) := [(0, .iload 1), (1, .aload 0), (2, .arraylength), (3, .invokestatic 3229920), (6, .aload 0), (7, .iload 1), (8, .saload), (9, .iconst 255), (12, .iand), (13, .i2c), (14, .dreturn)]
/-- jdk/internal/util/Preconditions.checkIndex(IILjava/util/function/BiFunction;)I -/
noncomputable def cd_324 : List (Nat × Instr) := [(0, .iload 0), (1, .ifCond .lt 9), (4, .iload 0), (5, .iload 1), (6, .if_icmp .lt 16), (9, .aload 2), (10, .iload 0), (11, .iload 1), (12, .ret 0), (15, .ret 0), (16, .jsr 6), (16, .iload 0), (17, .ireturn)]
/-- java/lang/Integer.bitCount(I)I -/
noncomputable def cd_325 : List (Nat × Instr) := [(0, .iload 0), (1, .iload 0), (2, .iconst 1), (3, .iushr), (4, .iconst 1431655765), (7, .iand), (8, .isub), (9, .istore 0), (10, .iload 0), (11, .iconst 858993459), (14, .iand), (15, .iload 0), (16, .iconst 2), (17, .iushr), (18, .iconst 858993459), (21, .iand), (22, .iadd), (23, .istore 0), (24, .iload 0), (25, .iload 0), (26, .iconst 4), (27, .iushr), (28, .iadd), (29, .iconst 252645135), (32, .iand), (33, .istore 0), (34, .iload 0), (35, .iload 0), (36, .iconst 8), (38, .iushr), (39, .iadd), (40, .istore 0), (41, .iload 0), (42, .iload 0), (43, .iconst 16), (45, .iushr), (46, .iadd), (47, .istore 0), (48, .iload 0), (49, .iconst 63), (51, .iand), (52, .ireturn)]
/-- java/lang/Math.abs(I)I -/
noncomputable def cd_326 : List (Nat × Instr) := [(0, .iload 0), (1, .ifCond .ge 9), (4, .iload 0), (5, .ineg), (6, .goto 10), (9, .iload 0), (10, .jsr 1), (10, .ireturn)]
/-- java/lang/Math.max(II)I -/
noncomputable def cd_327 : List (Nat × Instr) := [(0, .iload 0), (1, .iload 1), (2, .if_icmp .lt 9), (5, .iload 0), (6, .goto 10), (9, .jsr 1), (9, .iload 1), (10, .jsr 3), (10, .ireturn)]
/-- java/lang/Math.min(II)I -/
noncomputable def cd_328 : List (Nat × Instr) := [(0, .iload 0), (1, .iload 1), (2, .if_icmp .gt 9), (5, .iload 0), (6, .goto 10), (9, .jsr 1), (9, .iload 1), (10, .jsr 3), (10, .ireturn)]
/-- ArchEndsLaw.county(LArchEnds;[J)I -/
noncomputable def cd_329 : List (Nat × Instr) := [(0, .aload 1), (1, .iconst 0), (2, .aload 0), (3, .invokevirtual 1191111), (6, .i2l), (7, .lastore), (8, .goto 17), (11, .astore 2), (12, .iconst 1), (13, .ireturn), (14, .astore 2), (15, .iconst 2), (16, .ireturn), (17, .jsr 7), (17, .iconst 0), (18, .ireturn)]
/-- ArchEndsLaw.law(LArchEnds;[J)I -/
noncomputable def cd_330 : List (Nat × Instr) := [(0, .aload 1), (1, .iconst 0), (2, .aload 0), (3, .invokevirtual 1211111), (6, .i2l), (7, .lastore), (8, .goto 14), (11, .astore 2), (12, .iconst 1), (13, .ireturn), (14, .jsr 7), (14, .iconst 0), (15, .ireturn)]
/-- ArchEndsLaw.shower(LArchEnds;II[J)I -/
noncomputable def cd_331 : List (Nat × Instr) := [(0, .aload 3), (1, .iconst 0), (2, .aload 0), (3, .iload 1), (4, .iload 2), (5, .invokevirtual 1221131), (8, .i2l), (9, .lastore), (10, .goto 21), (13, .astore 4), (15, .iconst 1), (16, .ireturn), (17, .astore 4), (19, .iconst 2), (20, .ireturn), (21, .jsr 31), (21, .iconst 0), (22, .ireturn)]
/-- ArchEndsLaw.broker(LArchEnds;II[J)I -/
noncomputable def cd_332 : List (Nat × Instr) := [(0, .aload 3), (1, .iconst 0), (2, .aload 0), (3, .iload 1), (4, .iload 2), (5, .invokevirtual 1241131), (8, .i2l), (9, .lastore), (10, .goto 21), (13, .astore 4), (15, .iconst 1), (16, .ireturn), (17, .astore 4), (19, .iconst 2), (20, .ireturn), (21, .jsr 31), (21, .iconst 0), (22, .ireturn)]
/-- ArchEndsLaw.deed(LArchEnds;II[J)I -/
noncomputable def cd_333 : List (Nat × Instr) := [(0, .aload 3), (1, .iconst 0), (2, .aload 0), (3, .iload 1), (4, .iload 2), (5, .invokevirtual 1291131), (8, .i2l), (9, .lastore), (10, .goto 21), (13, .astore 4), (15, .iconst 1), (16, .ireturn), (17, .astore 4), (19, .iconst 2), (20, .ireturn), (21, .jsr 31), (21, .iconst 0), (22, .ireturn)]
/-- ArchEndsLaw.costs(LArchEnds;II[J)I -/
noncomputable def cd_334 : List (Nat × Instr) := [(0, .aload 3), (1, .iconst 0), (2, .aload 0), (3, .iload 1), (4, .iload 2), (5, .invokevirtual 1311131), (8, .i2l), (9, .lastore), (10, .goto 17), (13, .astore 4), (15, .iconst 1), (16, .ireturn), (17, .jsr 31), (17, .iconst 0), (18, .ireturn)]
/-- ArchEndsLaw.brings(LArchEnds;III[J)I -/
noncomputable def cd_335 : List (Nat × Instr) := [(0, .aload 4), (2, .iconst 0), (3, .aload 0), (4, .iload 1), (5, .iload 2), (6, .iload 3), (7, .invokevirtual 1321141), (10, .i2l), (11, .lastore), (12, .goto 23), (15, .astore 5), (17, .iconst 1), (18, .ireturn), (19, .astore 5), (21, .iconst 2), (22, .ireturn), (23, .jsr 63), (23, .iconst 0), (24, .ireturn)]
/-- ArchEndsLaw.buy(LArchEnds;II[J)I -/
noncomputable def cd_336 : List (Nat × Instr) := [(0, .aload 3), (1, .iconst 0), (2, .aload 0), (3, .iload 1), (4, .iload 2), (5, .invokevirtual 1351131), (8, .i2l), (9, .lastore), (10, .goto 21), (13, .astore 4), (15, .iconst 1), (16, .ireturn), (17, .astore 4), (19, .iconst 2), (20, .ireturn), (21, .jsr 31), (21, .iconst 0), (22, .ireturn)]
/-- ArchEndsLaw.sell(LArchEnds;II[J)I -/
noncomputable def cd_337 : List (Nat × Instr) := [(0, .aload 3), (1, .iconst 0), (2, .aload 0), (3, .iload 1), (4, .iload 2), (5, .invokevirtual 1371131), (8, .i2l), (9, .lastore), (10, .goto 25), (13, .astore 4), (15, .iconst 1), (16, .ireturn), (17, .astore 4), (19, .iconst 2), (20, .ireturn), (21, .astore 4), (23, .iconst 3), (24, .ireturn), (25, .jsr 31), (25, .iconst 0), (26, .ireturn)]
/-- ArchEndsLaw.go(LArchEnds;II[J)I -/
noncomputable def cd_338 : List (Nat × Instr) := [(0, .aload 3), (1, .iconst 0), (2, .aload 0), (3, .iload 1), (4, .iload 2), (5, .invokevirtual 1381131), (8, .i2l), (9, .lastore), (10, .goto 21), (13, .astore 4), (15, .iconst 1), (16, .ireturn), (17, .astore 4), (19, .iconst 2), (20, .ireturn), (21, .jsr 31), (21, .iconst 0), (22, .ireturn)]
/-- ArchEndsLaw.tell(LArchEnds;II[J)I -/
noncomputable def cd_339 : List (Nat × Instr) := [(0, .aload 3), (1, .iconst 0), (2, .aload 0), (3, .iload 1), (4, .iload 2), (5, .invokevirtual 1411131), (8, .i2l), (9, .lastore), (10, .goto 21), (13, .astore 4), (15, .iconst 1), (16, .ireturn), (17, .astore 4), (19, .iconst 2), (20, .ireturn), (21, .jsr 31), (21, .iconst 0), (22, .ireturn)]
/-- ArchEndsLaw.road(LArchEnds;I[J)I -/
noncomputable def cd_340 : List (Nat × Instr) := [(0, .aload 2), (1, .iconst 0), (2, .aload 0), (3, .iload 1), (4, .invokevirtual 1421121), (7, .i2l), (8, .lastore), (9, .goto 15), (12, .astore 3), (13, .iconst 1), (14, .ireturn), (15, .jsr 15), (15, .iconst 0), (16, .ireturn)]
/-- ArchEndsLaw.insure(LArchEnds;I[J)I -/
noncomputable def cd_341 : List (Nat × Instr) := [(0, .aload 2), (1, .iconst 0), (2, .aload 0), (3, .iload 1), (4, .invokevirtual 1431121), (7, .i2l), (8, .lastore), (9, .goto 18), (12, .astore 3), (13, .iconst 1), (14, .ireturn), (15, .astore 3), (16, .iconst 2), (17, .ireturn), (18, .jsr 15), (18, .iconst 0), (19, .ireturn)]
/-- ArchEndsLaw.minutes(LArchEnds;I[J)I -/
noncomputable def cd_342 : List (Nat × Instr) := [(0, .aload 2), (1, .iconst 0), (2, .aload 0), (3, .iload 1), (4, .invokevirtual 1441121), (7, .i2l), (8, .lastore), (9, .goto 15), (12, .astore 3), (13, .iconst 1), (14, .ireturn), (15, .jsr 15), (15, .iconst 0), (16, .ireturn)]
/-- ArchEndsLaw.sun(LArchEnds;I[J)I -/
noncomputable def cd_343 : List (Nat × Instr) := [(0, .aload 2), (1, .iconst 0), (2, .aload 0), (3, .iload 1), (4, .invokevirtual 1461121), (7, .i2l), (8, .lastore), (9, .goto 15), (12, .astore 3), (13, .iconst 1), (14, .ireturn), (15, .jsr 15), (15, .iconst 0), (16, .ireturn)]
/-- ArchEndsLaw.reach(LArchEnds;I[J)I -/
noncomputable def cd_344 : List (Nat × Instr) := [(0, .aload 2), (1, .iconst 0), (2, .aload 0), (3, .iload 1), (4, .invokevirtual 1471121), (7, .i2l), (8, .lastore), (9, .goto 15), (12, .astore 3), (13, .iconst 1), (14, .ireturn), (15, .jsr 15), (15, .iconst 0), (16, .ireturn)]
/-- ArchEndsLaw.foot(LArchEnds;II[J)I -/
noncomputable def cd_345 : List (Nat × Instr) := [(0, .aload 3), (1, .iconst 0), (2, .aload 0), (3, .iload 1), (4, .iload 2), (5, .invokevirtual 1481131), (8, .i2l), (9, .lastore), (10, .goto 21), (13, .astore 4), (15, .iconst 1), (16, .ireturn), (17, .astore 4), (19, .iconst 2), (20, .ireturn), (21, .jsr 31), (21, .iconst 0), (22, .ireturn)]
/-- ArchEndsLaw.arch(LArchEnds;II[J)I -/
noncomputable def cd_346 : List (Nat × Instr) := [(0, .aload 3), (1, .iconst 0), (2, .aload 0), (3, .iload 1), (4, .iload 2), (5, .invokevirtual 1491131), (8, .ifCond .eq 15), (11, .lconst 1), (12, .goto 16), (15, .jsr 31), (15, .lconst 0), (16, .jsr 31), (16, .lastore), (17, .goto 28), (20, .astore 4), (22, .iconst 1), (23, .ireturn), (24, .astore 4), (26, .iconst 2), (27, .ireturn), (28, .jsr 31), (28, .iconst 0), (29, .ireturn)]
/-- ArchEndsLaw.wets(LArchEnds;II[J)I -/
noncomputable def cd_347 : List (Nat × Instr) := [(0, .aload 3), (1, .iconst 0), (2, .aload 0), (3, .iload 1), (4, .iload 2), (5, .invokevirtual 1501131), (8, .i2l), (9, .lastore), (10, .goto 21), (13, .astore 4), (15, .iconst 1), (16, .ireturn), (17, .astore 4), (19, .iconst 2), (20, .ireturn), (21, .jsr 31), (21, .iconst 0), (22, .ireturn)]
/-- ArchEndsLaw.looks(LArchEnds;II[J)I -/
noncomputable def cd_348 : List (Nat × Instr) := [(0, .aload 3), (1, .iconst 0), (2, .aload 0), (3, .iload 1), (4, .iload 2), (5, .invokevirtual 1511131), (8, .i2l), (9, .lastore), (10, .goto 21), (13, .astore 4), (15, .iconst 1), (16, .ireturn), (17, .astore 4), (19, .iconst 2), (20, .ireturn), (21, .jsr 31), (21, .iconst 0), (22, .ireturn)]
/-- ArchEndsLaw.stands(LArchEnds;III[J)I -/
noncomputable def cd_349 : List (Nat × Instr) := [(0, .aload 4), (2, .iconst 0), (3, .aload 0), (4, .iload 1), (5, .iload 2), (6, .iload 3), (7, .invokevirtual 1521141), (10, .i2l), (11, .lastore), (12, .goto 23), (15, .astore 5), (17, .iconst 1), (18, .ireturn), (19, .astore 5), (21, .iconst 2), (22, .ireturn), (23, .jsr 63), (23, .iconst 0), (24, .ireturn)]
/-- ArchEndsLaw.best(LArchEnds;II[J)I -/
noncomputable def cd_350 : List (Nat × Instr) := [(0, .aload 3), (1, .iconst 0), (2, .aload 0), (3, .iload 1), (4, .iload 2), (5, .invokevirtual 1531131), (8, .i2l), (9, .lastore), (10, .goto 17), (13, .astore 4), (15, .iconst 1), (16, .ireturn), (17, .jsr 31), (17, .iconst 0), (18, .ireturn)]
/-- ArchEndsLaw.first(LArchEnds;II[J)I -/
noncomputable def cd_351 : List (Nat × Instr) := [(0, .aload 3), (1, .iconst 0), (2, .aload 0), (3, .iload 1), (4, .iload 2), (5, .invokevirtual 1541131), (8, .i2l), (9, .lastore), (10, .goto 21), (13, .astore 4), (15, .iconst 1), (16, .ireturn), (17, .astore 4), (19, .iconst 2), (20, .ireturn), (21, .jsr 31), (21, .iconst 0), (22, .ireturn)]
/-- ArchEndsLaw.site(LArchEnds;III[J)I -/
noncomputable def cd_352 : List (Nat × Instr) := [(0, .aload 4), (2, .iconst 0), (3, .aload 0), (4, .iload 1), (5, .iload 2), (6, .iload 3), (7, .invokevirtual 1551141), (10, .i2l), (11, .lastore), (12, .goto 23), (15, .astore 5), (17, .iconst 1), (18, .ireturn), (19, .astore 5), (21, .iconst 2), (22, .ireturn), (23, .jsr 63), (23, .iconst 0), (24, .ireturn)]
/-- ArchEndsLaw.odds(LArchEnds;II[J)I -/
noncomputable def cd_353 : List (Nat × Instr) := [(0, .aload 3), (1, .iconst 0), (2, .aload 0), (3, .iload 1), (4, .iload 2), (5, .invokevirtual 1561131), (8, .i2l), (9, .lastore), (10, .goto 21), (13, .astore 4), (15, .iconst 1), (16, .ireturn), (17, .astore 4), (19, .iconst 2), (20, .ireturn), (21, .jsr 31), (21, .iconst 0), (22, .ireturn)]
/-- ArchEndsLaw.hope(LArchEnds;I[J)I -/
noncomputable def cd_354 : List (Nat × Instr) := [(0, .aload 2), (1, .iconst 0), (2, .aload 0), (3, .iload 1), (4, .invokevirtual 1571121), (7, .i2l), (8, .lastore), (9, .goto 15), (12, .astore 3), (13, .iconst 1), (14, .ireturn), (15, .jsr 15), (15, .iconst 0), (16, .ireturn)]
/-- ArchEndsLaw.gain(LArchEnds;II[J)I -/
noncomputable def cd_355 : List (Nat × Instr) := [(0, .aload 3), (1, .iconst 0), (2, .aload 0), (3, .iload 1), (4, .iload 2), (5, .invokevirtual 1581131), (8, .i2l), (9, .lastore), (10, .goto 17), (13, .astore 4), (15, .iconst 1), (16, .ireturn), (17, .jsr 31), (17, .iconst 0), (18, .ireturn)]
/-- ArchEndsLaw.deals(LArchEnds;IZ[J)I -/
noncomputable def cd_356 : List (Nat × Instr) := [(0, .aload 3), (1, .iconst 0), (2, .aload 0), (3, .iload 1), (4, .iload 2), (5, .invokevirtual 1591131), (8, .i2l), (9, .lastore), (10, .goto 17), (13, .astore 4), (15, .iconst 1), (16, .ireturn), (17, .jsr 31), (17, .iconst 0), (18, .ireturn)]
/-- ArchEndsLaw.meet(LArchEnds;II[J)I -/
noncomputable def cd_357 : List (Nat × Instr) := [(0, .aload 3), (1, .iconst 0), (2, .aload 0), (3, .iload 1), (4, .iload 2), (5, .invokevirtual 1601131), (8, .i2l), (9, .lastore), (10, .goto 21), (13, .astore 4), (15, .iconst 1), (16, .ireturn), (17, .astore 4), (19, .iconst 2), (20, .ireturn), (21, .jsr 31), (21, .iconst 0), (22, .ireturn)]
/-- ArchEndsLaw.send(LArchEnds;I[J)I -/
noncomputable def cd_358 : List (Nat × Instr) := [(0, .aload 2), (1, .iconst 0), (2, .aload 0), (3, .iload 1), (4, .invokevirtual 1621121), (7, .i2l), (8, .lastore), (9, .goto 18), (12, .astore 3), (13, .iconst 1), (14, .ireturn), (15, .astore 3), (16, .iconst 2), (17, .ireturn), (18, .jsr 15), (18, .iconst 0), (19, .ireturn)]
/-- ArchEndsLaw.rush(LArchEnds;I[J)I -/
noncomputable def cd_359 : List (Nat × Instr) := [(0, .aload 2), (1, .iconst 0), (2, .aload 0), (3, .iload 1), (4, .invokevirtual 1631121), (7, .i2l), (8, .lastore), (9, .goto 15), (12, .astore 3), (13, .iconst 1), (14, .ireturn), (15, .jsr 15), (15, .iconst 0), (16, .ireturn)]
/-- ArchEndsLaw.seen(LArchEnds;IZ[J)I -/
noncomputable def cd_360 : List (Nat × Instr) := [(0, .aload 3), (1, .iconst 0), (2, .aload 0), (3, .iload 1), (4, .iload 2), (5, .invokevirtual 1641131), (8, .i2l), (9, .lastore), (10, .goto 17), (13, .astore 4), (15, .iconst 1), (16, .ireturn), (17, .jsr 31), (17, .iconst 0), (18, .ireturn)]
/-- ArchEndsLaw.ask(LArchEnds;I[J)I -/
noncomputable def cd_361 : List (Nat × Instr) := [(0, .aload 2), (1, .iconst 0), (2, .aload 0), (3, .iload 1), (4, .invokevirtual 1661121), (7, .i2l), (8, .lastore), (9, .goto 15), (12, .astore 3), (13, .iconst 1), (14, .ireturn), (15, .jsr 15), (15, .iconst 0), (16, .ireturn)]
/-- ArchEndsLaw.spray(LArchEnds;I[J)I -/
noncomputable def cd_362 : List (Nat × Instr) := [(0, .aload 2), (1, .iconst 0), (2, .aload 0), (3, .iload 1), (4, .invokevirtual 1671121), (7, .i2l), (8, .lastore), (9, .goto 15), (12, .astore 3), (13, .iconst 1), (14, .ireturn), (15, .jsr 15), (15, .iconst 0), (16, .ireturn)]
/-- ArchEndsLaw.both(LArchEnds;IIII[J)I -/
noncomputable def cd_363 : List (Nat × Instr) := [(0, .aload 5), (2, .iconst 0), (3, .aload 0), (4, .iload 1), (5, .iload 2), (6, .iload 3), (7, .iload 4), (9, .invokevirtual 1681151), (12, .i2l), (13, .lastore), (14, .goto 25), (17, .astore 6), (19, .iconst 1), (20, .ireturn), (21, .astore 6), (23, .iconst 2), (24, .ireturn), (25, .jsr 127), (25, .iconst 0), (26, .ireturn)]
/-- ArchEndsLaw.rests(LArchEnds;IIII[J)I -/
noncomputable def cd_364 : List (Nat × Instr) := [(0, .aload 5), (2, .iconst 0), (3, .aload 0), (4, .iload 1), (5, .iload 2), (6, .iload 3), (7, .iload 4), (9, .invokevirtual 1691151), (12, .i2l), (13, .lastore), (14, .goto 25), (17, .astore 6), (19, .iconst 1), (20, .ireturn), (21, .astore 6), (23, .iconst 2), (24, .ireturn), (25, .jsr 127), (25, .iconst 0), (26, .ireturn)]
/-- ArchEndsLaw.row(LArchEnds;III[J)I -/
noncomputable def cd_365 : List (Nat × Instr) := [(0, .aload 4), (2, .iconst 0), (3, .aload 0), (4, .iload 1), (5, .iload 2), (6, .iload 3), (7, .invokevirtual 1701141), (10, .i2l), (11, .lastore), (12, .goto 19), (15, .astore 5), (17, .iconst 1), (18, .ireturn), (19, .jsr 63), (19, .iconst 0), (20, .ireturn)]
/-- ArchEndsLaw.ahead(LArchEnds;II[J)I -/
noncomputable def cd_366 : List (Nat × Instr) := [(0, .aload 3), (1, .iconst 0), (2, .aload 0), (3, .iload 1), (4, .iload 2), (5, .invokevirtual 1711131), (8, .i2l), (9, .lastore), (10, .goto 21), (13, .astore 4), (15, .iconst 1), (16, .ireturn), (17, .astore 4), (19, .iconst 2), (20, .ireturn), (21, .jsr 31), (21, .iconst 0), (22, .ireturn)]
/-- ArchEndsLaw.trial(LArchEnds;IZ[J)I -/
noncomputable def cd_367 : List (Nat × Instr) := [(0, .aload 3), (1, .iconst 0), (2, .aload 0), (3, .iload 1), (4, .iload 2), (5, .invokevirtual 1721131), (8, .i2l), (9, .lastore), (10, .goto 17), (13, .astore 4), (15, .iconst 1), (16, .ireturn), (17, .jsr 31), (17, .iconst 0), (18, .ireturn)]
/-- ArchEndsLaw.span(LArchEnds;IZ[J)I -/
noncomputable def cd_368 : List (Nat × Instr) := [(0, .aload 3), (1, .iconst 0), (2, .aload 0), (3, .iload 1), (4, .iload 2), (5, .invokevirtual 1741131), (8, .i2l), (9, .lastore), (10, .goto 17), (13, .astore 4), (15, .iconst 1), (16, .ireturn), (17, .jsr 31), (17, .iconst 0), (18, .ireturn)]
/-- ArchEndsLaw.led(LArchEnds;IZ[J)I -/
noncomputable def cd_369 : List (Nat × Instr) := [(0, .aload 3), (1, .iconst 0), (2, .aload 0), (3, .iload 1), (4, .iload 2), (5, .invokevirtual 1751131), (8, .i2l), (9, .lastore), (10, .goto 17), (13, .astore 4), (15, .iconst 1), (16, .ireturn), (17, .jsr 31), (17, .iconst 0), (18, .ireturn)]
/-- ArchEndsLaw.log(LArchEnds;II[J)I -/
noncomputable def cd_370 : List (Nat × Instr) := [(0, .aload 3), (1, .iconst 0), (2, .aload 0), (3, .iload 1), (4, .iload 2), (5, .invokevirtual 1761131), (8, .i2l), (9, .lastore), (10, .goto 17), (13, .astore 4), (15, .iconst 1), (16, .ireturn), (17, .jsr 31), (17, .iconst 0), (18, .ireturn)]
/-- ArchEndsLaw.law([I)Z -/
noncomputable def cd_371_0 : List (Nat × Instr) := [(0, .new 11), (3, .dup), (4, .invokespecial 1069910), (7, .astore 1), (8, .new 12), (11, .dup), (12, .invokespecial 1789910), (15, .astore 2), (16, .iconst 1), (17, .newarray .long), (19, .astore 3), (20, .iconst 0), (21, .istore 4), (100023, .goto_w 23), (23, .jsr 96), (23, .iload 4), (25, .aload 0), (26, .arraylength), (27, .iconst 6), (29, .isub), (30, .if_icmp .gt 3382), (33, .aload 0), (34, .iload 4), (36, .caload), (37, .iconst 63), (39, .iand), (40, .tableswitch 3376 0 52 #[268, 341, 366, 410, 454, 467, 535, 603, 671, 739, 819, 887, 955, 1023, 1091, 1147, 1203, 1259, 1315, 1371, 1439, 1514, 1582, 1650, 1730, 1798, 1866, 1946, 2014, 2070, 2138, 2222, 2290, 2346, 2402, 2486, 2542, 2598, 2690, 2782, 2862, 2875, 2888, 2901, 2969, 3053, 3137, 3221, 3289, 3314, 3327, 3338, 3351]), (268, .jsr 96), (268, .aload 1), (269, .aload 0), (270, .iload 4), (272, .iconst 1), (273, .iadd), (274, .caload), (275, .aload 0), (276, .iload 4), (278, .iconst 2), (279, .iadd), (280, .caload), (281, .aload 0), (282, .iload 4), (284, .iconst 3), (285, .iadd), (286, .caload), (287, .aload 0), (288, .iload 4), (290, .iconst 4), (291, .iadd), (292, .caload), (293, .aload 0)]
noncomputable def cd_371_1 : List (Nat × Instr) := [(294, .iload 4), (296, .iconst 5), (297, .iadd), (298, .caload), (299, .invokevirtual 1071161), (302, .aload 2), (303, .aload 0), (304, .iload 4), (306, .iconst 1), (307, .iadd), (308, .caload), (309, .aload 0), (310, .iload 4), (312, .iconst 2), (313, .iadd), (314, .caload), (315, .aload 0), (316, .iload 4), (318, .iconst 3), (319, .iadd), (320, .caload), (321, .aload 0), (322, .iload 4), (324, .iconst 4), (325, .iadd), (326, .caload), (327, .aload 0), (328, .iload 4), (330, .iconst 5), (331, .iadd), (332, .caload), (333, .invokevirtual 1821261), (336, .if_icmp .eq 3376), (339, .iconst 0), (340, .freturn), (341, .jsr 96), (341, .aload 1), (342, .aload 0), (343, .iload 4), (345, .iconst 1), (346, .iadd), (347, .caload), (348, .invokevirtual 1081121), (351, .aload 2), (352, .aload 0), (353, .iload 4), (355, .iconst 1), (356, .iadd), (357, .caload), (358, .invokevirtual 1831221)]
noncomputable def cd_371_2 : List (Nat × Instr) := [(361, .if_icmp .eq 3376), (364, .iconst 0), (365, .freturn), (366, .jsr 96), (366, .aload 1), (367, .aload 3), (368, .invokestatic 3299921), (371, .istore 5), (373, .aload 2), (374, .invokevirtual 1851211), (377, .istore 6), (379, .aload 2), (380, .invokevirtual 1771211), (383, .iload 5), (385, .if_icmp .eq 390), (388, .iconst 0), (389, .freturn), (390, .iload 5), (392, .ifCond .ne 407), (395, .aload 3), (396, .iconst 0), (397, .laload), (398, .iload 6), (400, .i2l), (401, .lcmp), (402, .ifCond .eq 407), (405, .iconst 0), (406, .freturn), (407, .jsr 96), (407, .goto 3376), (410, .jsr 96), (410, .aload 1), (411, .aload 3), (412, .invokestatic 3309921), (415, .istore 5), (417, .aload 2), (418, .invokevirtual 2171211), (421, .istore 6), (423, .aload 2), (424, .invokevirtual 1771211), (427, .iload 5), (429, .if_icmp .eq 434), (432, .iconst 0), (433, .freturn), (434, .iload 5), (436, .ifCond .ne 451), (439, .aload 3), (440, .iconst 0), (441, .laload), (442, .iload 6)]
noncomputable def cd_371_3 : List (Nat × Instr) := [(444, .i2l), (445, .lcmp), (446, .ifCond .eq 451), (449, .iconst 0), (450, .freturn), (451, .jsr 96), (451, .goto 3376), (454, .jsr 96), (454, .aload 1), (455, .invokevirtual 1091111), (458, .aload 2), (459, .invokevirtual 1841211), (462, .if_icmp .eq 3376), (465, .iconst 0), (466, .freturn), (467, .jsr 96), (467, .aload 1), (468, .aload 0), (469, .iload 4), (471, .iconst 1), (472, .iadd), (473, .caload), (474, .aload 0), (475, .iload 4), (477, .iconst 2), (478, .iadd), (479, .caload), (480, .aload 3), (481, .invokestatic 3319941), (484, .istore 5), (486, .aload 2), (487, .aload 0), (488, .iload 4), (490, .iconst 1), (491, .iadd), (492, .caload), (493, .aload 0), (494, .iload 4), (496, .iconst 2), (497, .iadd), (498, .caload), (499, .invokevirtual 2181231), (502, .istore 6), (504, .aload 2), (505, .invokevirtual 1771211), (508, .iload 5), (510, .if_icmp .eq 515), (513, .iconst 0), (514, .freturn), (515, .iload 5)]
noncomputable def cd_371_4 : List (Nat × Instr) := [(517, .ifCond .ne 532), (520, .aload 3), (521, .iconst 0), (522, .laload), (523, .iload 6), (525, .i2l), (526, .lcmp), (527, .ifCond .eq 532), (530, .iconst 0), (531, .freturn), (532, .jsr 96), (532, .goto 3376), (535, .jsr 96), (535, .aload 1), (536, .aload 0), (537, .iload 4), (539, .iconst 1), (540, .iadd), (541, .caload), (542, .aload 0), (543, .iload 4), (545, .iconst 2), (546, .iadd), (547, .caload), (548, .aload 3), (549, .invokestatic 3329941), (552, .istore 5), (554, .aload 2), (555, .aload 0), (556, .iload 4), (558, .iconst 1), (559, .iadd), (560, .caload), (561, .aload 0), (562, .iload 4), (564, .iconst 2), (565, .iadd), (566, .caload), (567, .invokevirtual 2481231), (570, .istore 6), (572, .aload 2), (573, .invokevirtual 1771211), (576, .iload 5), (578, .if_icmp .eq 583), (581, .iconst 0), (582, .freturn), (583, .iload 5), (585, .ifCond .ne 600), (588, .aload 3), (589, .iconst 0)]
noncomputable def cd_371_5 : List (Nat × Instr) := [(590, .laload), (591, .iload 6), (593, .i2l), (594, .lcmp), (595, .ifCond .eq 600), (598, .iconst 0), (599, .freturn), (600, .jsr 96), (600, .goto 3376), (603, .jsr 96), (603, .aload 1), (604, .aload 0), (605, .iload 4), (607, .iconst 1), (608, .iadd), (609, .caload), (610, .aload 0), (611, .iload 4), (613, .iconst 2), (614, .iadd), (615, .caload), (616, .aload 3), (617, .invokestatic 3339941), (620, .istore 5), (622, .aload 2), (623, .aload 0), (624, .iload 4), (626, .iconst 1), (627, .iadd), (628, .caload), (629, .aload 0), (630, .iload 4), (632, .iconst 2), (633, .iadd), (634, .caload), (635, .invokevirtual 2611231), (638, .istore 6), (640, .aload 2), (641, .invokevirtual 1771211), (644, .iload 5), (646, .if_icmp .eq 651), (649, .iconst 0), (650, .freturn), (651, .iload 5), (653, .ifCond .ne 668), (656, .aload 3), (657, .iconst 0), (658, .laload), (659, .iload 6), (661, .i2l)]
noncomputable def cd_371_6 : List (Nat × Instr) := [(662, .lcmp), (663, .ifCond .eq 668), (666, .iconst 0), (667, .freturn), (668, .jsr 96), (668, .goto 3376), (671, .jsr 96), (671, .aload 1), (672, .aload 0), (673, .iload 4), (675, .iconst 1), (676, .iadd), (677, .caload), (678, .aload 0), (679, .iload 4), (681, .iconst 2), (682, .iadd), (683, .caload), (684, .aload 3), (685, .invokestatic 3349941), (688, .istore 5), (690, .aload 2), (691, .aload 0), (692, .iload 4), (694, .iconst 1), (695, .iadd), (696, .caload), (697, .aload 0), (698, .iload 4), (700, .iconst 2), (701, .iadd), (702, .caload), (703, .invokevirtual 2631231), (706, .istore 6), (708, .aload 2), (709, .invokevirtual 1771211), (712, .iload 5), (714, .if_icmp .eq 719), (717, .iconst 0), (718, .freturn), (719, .iload 5), (721, .ifCond .ne 736), (724, .aload 3), (725, .iconst 0), (726, .laload), (727, .iload 6), (729, .i2l), (730, .lcmp), (731, .ifCond .eq 736), (734, .iconst 0)]
noncomputable def cd_371_7 : List (Nat × Instr) := [(735, .freturn), (736, .jsr 96), (736, .goto 3376), (739, .jsr 96), (739, .aload 1), (740, .aload 0), (741, .iload 4), (743, .iconst 1), (744, .iadd), (745, .caload), (746, .aload 0), (747, .iload 4), (749, .iconst 2), (750, .iadd), (751, .caload), (752, .aload 0), (753, .iload 4), (755, .iconst 3), (756, .iadd), (757, .caload), (758, .aload 3), (759, .invokestatic 3359951), (762, .istore 5), (764, .aload 2), (765, .aload 0), (766, .iload 4), (768, .iconst 1), (769, .iadd), (770, .caload), (771, .aload 0), (772, .iload 4), (774, .iconst 2), (775, .iadd), (776, .caload), (777, .aload 0), (778, .iload 4), (780, .iconst 3), (781, .iadd), (782, .caload), (783, .invokevirtual 2651241), (786, .istore 6), (788, .aload 2), (789, .invokevirtual 1771211), (792, .iload 5), (794, .if_icmp .eq 799), (797, .iconst 0), (798, .freturn), (799, .iload 5), (801, .ifCond .ne 816), (804, .aload 3)]
noncomputable def cd_371_8 : List (Nat × Instr) := [(805, .iconst 0), (806, .laload), (807, .iload 6), (809, .i2l), (810, .lcmp), (811, .ifCond .eq 816), (814, .iconst 0), (815, .freturn), (816, .jsr 96), (816, .goto 3376), (819, .jsr 96), (819, .aload 1), (820, .aload 0), (821, .iload 4), (823, .iconst 1), (824, .iadd), (825, .caload), (826, .aload 0), (827, .iload 4), (829, .iconst 2), (830, .iadd), (831, .caload), (832, .aload 3), (833, .invokestatic 3369941), (836, .istore 5), (838, .aload 2), (839, .aload 0), (840, .iload 4), (842, .iconst 1), (843, .iadd), (844, .caload), (845, .aload 0), (846, .iload 4), (848, .iconst 2), (849, .iadd), (850, .caload), (851, .invokevirtual 2671231), (854, .istore 6), (856, .aload 2), (857, .invokevirtual 1771211), (860, .iload 5), (862, .if_icmp .eq 867), (865, .iconst 0), (866, .freturn), (867, .iload 5), (869, .ifCond .ne 884), (872, .aload 3), (873, .iconst 0), (874, .laload), (875, .iload 6)]
noncomputable def cd_371_9 : List (Nat × Instr) := [(877, .i2l), (878, .lcmp), (879, .ifCond .eq 884), (882, .iconst 0), (883, .freturn), (884, .jsr 96), (884, .goto 3376), (887, .jsr 96), (887, .aload 1), (888, .aload 0), (889, .iload 4), (891, .iconst 1), (892, .iadd), (893, .caload), (894, .aload 0), (895, .iload 4), (897, .iconst 2), (898, .iadd), (899, .caload), (900, .aload 3), (901, .invokestatic 3379941), (904, .istore 5), (906, .aload 2), (907, .aload 0), (908, .iload 4), (910, .iconst 1), (911, .iadd), (912, .caload), (913, .aload 0), (914, .iload 4), (916, .iconst 2), (917, .iadd), (918, .caload), (919, .invokevirtual 2691231), (922, .istore 6), (924, .aload 2), (925, .invokevirtual 1771211), (928, .iload 5), (930, .if_icmp .eq 935), (933, .iconst 0), (934, .freturn), (935, .iload 5), (937, .ifCond .ne 952), (940, .aload 3), (941, .iconst 0), (942, .laload), (943, .iload 6), (945, .i2l), (946, .lcmp), (947, .ifCond .eq 952)]
noncomputable def cd_371_10 : List (Nat × Instr) := [(950, .iconst 0), (951, .freturn), (952, .jsr 96), (952, .goto 3376), (955, .jsr 96), (955, .aload 1), (956, .aload 0), (957, .iload 4), (959, .iconst 1), (960, .iadd), (961, .caload), (962, .aload 0), (963, .iload 4), (965, .iconst 2), (966, .iadd), (967, .caload), (968, .aload 3), (969, .invokestatic 3389941), (972, .istore 5), (974, .aload 2), (975, .aload 0), (976, .iload 4), (978, .iconst 1), (979, .iadd), (980, .caload), (981, .aload 0), (982, .iload 4), (984, .iconst 2), (985, .iadd), (986, .caload), (987, .invokevirtual 2711231), (990, .istore 6), (992, .aload 2), (993, .invokevirtual 1771211), (996, .iload 5), (998, .if_icmp .eq 1003), (1001, .iconst 0), (1002, .freturn), (1003, .iload 5), (1005, .ifCond .ne 1020), (1008, .aload 3), (1009, .iconst 0), (1010, .laload), (1011, .iload 6), (1013, .i2l), (1014, .lcmp), (1015, .ifCond .eq 1020), (1018, .iconst 0), (1019, .freturn), (1020, .jsr 96)]
noncomputable def cd_371_11 : List (Nat × Instr) := [(1020, .goto 3376), (1023, .jsr 96), (1023, .aload 1), (1024, .aload 0), (1025, .iload 4), (1027, .iconst 1), (1028, .iadd), (1029, .caload), (1030, .aload 0), (1031, .iload 4), (1033, .iconst 2), (1034, .iadd), (1035, .caload), (1036, .aload 3), (1037, .invokestatic 3399941), (1040, .istore 5), (1042, .aload 2), (1043, .aload 0), (1044, .iload 4), (1046, .iconst 1), (1047, .iadd), (1048, .caload), (1049, .aload 0), (1050, .iload 4), (1052, .iconst 2), (1053, .iadd), (1054, .caload), (1055, .invokevirtual 2721231), (1058, .istore 6), (1060, .aload 2), (1061, .invokevirtual 1771211), (1064, .iload 5), (1066, .if_icmp .eq 1071), (1069, .iconst 0), (1070, .freturn), (1071, .iload 5), (1073, .ifCond .ne 1088), (1076, .aload 3), (1077, .iconst 0), (1078, .laload), (1079, .iload 6), (1081, .i2l), (1082, .lcmp), (1083, .ifCond .eq 1088), (1086, .iconst 0), (1087, .freturn), (1088, .jsr 96), (1088, .goto 3376), (1091, .jsr 96), (1091, .aload 1)]
noncomputable def cd_371_12 : List (Nat × Instr) := [(1092, .aload 0), (1093, .iload 4), (1095, .iconst 1), (1096, .iadd), (1097, .caload), (1098, .aload 3), (1099, .invokestatic 3409931), (1102, .istore 5), (1104, .aload 2), (1105, .aload 0), (1106, .iload 4), (1108, .iconst 1), (1109, .iadd), (1110, .caload), (1111, .invokevirtual 2731221), (1114, .istore 6), (1116, .aload 2), (1117, .invokevirtual 1771211), (1120, .iload 5), (1122, .if_icmp .eq 1127), (1125, .iconst 0), (1126, .freturn), (1127, .iload 5), (1129, .ifCond .ne 1144), (1132, .aload 3), (1133, .iconst 0), (1134, .laload), (1135, .iload 6), (1137, .i2l), (1138, .lcmp), (1139, .ifCond .eq 1144), (1142, .iconst 0), (1143, .freturn), (1144, .jsr 96), (1144, .goto 3376), (1147, .jsr 96), (1147, .aload 1), (1148, .aload 0), (1149, .iload 4), (1151, .iconst 1), (1152, .iadd), (1153, .caload), (1154, .aload 3), (1155, .invokestatic 3419931), (1158, .istore 5), (1160, .aload 2), (1161, .aload 0), (1162, .iload 4), (1164, .iconst 1), (1165, .iadd)]
noncomputable def cd_371_13 : List (Nat × Instr) := [(1166, .caload), (1167, .invokevirtual 2741221), (1170, .istore 6), (1172, .aload 2), (1173, .invokevirtual 1771211), (1176, .iload 5), (1178, .if_icmp .eq 1183), (1181, .iconst 0), (1182, .freturn), (1183, .iload 5), (1185, .ifCond .ne 1200), (1188, .aload 3), (1189, .iconst 0), (1190, .laload), (1191, .iload 6), (1193, .i2l), (1194, .lcmp), (1195, .ifCond .eq 1200), (1198, .iconst 0), (1199, .freturn), (1200, .jsr 96), (1200, .goto 3376), (1203, .jsr 96), (1203, .aload 1), (1204, .aload 0), (1205, .iload 4), (1207, .iconst 1), (1208, .iadd), (1209, .caload), (1210, .aload 3), (1211, .invokestatic 3429931), (1214, .istore 5), (1216, .aload 2), (1217, .aload 0), (1218, .iload 4), (1220, .iconst 1), (1221, .iadd), (1222, .caload), (1223, .invokevirtual 2751221), (1226, .istore 6), (1228, .aload 2), (1229, .invokevirtual 1771211), (1232, .iload 5), (1234, .if_icmp .eq 1239), (1237, .iconst 0), (1238, .freturn), (1239, .iload 5), (1241, .ifCond .ne 1256), (1244, .aload 3), (1245, .iconst 0)]
noncomputable def cd_371_14 : List (Nat × Instr) := [(1246, .laload), (1247, .iload 6), (1249, .i2l), (1250, .lcmp), (1251, .ifCond .eq 1256), (1254, .iconst 0), (1255, .freturn), (1256, .jsr 96), (1256, .goto 3376), (1259, .jsr 96), (1259, .aload 1), (1260, .aload 0), (1261, .iload 4), (1263, .iconst 1), (1264, .iadd), (1265, .caload), (1266, .aload 3), (1267, .invokestatic 3439931), (1270, .istore 5), (1272, .aload 2), (1273, .aload 0), (1274, .iload 4), (1276, .iconst 1), (1277, .iadd), (1278, .caload), (1279, .invokevirtual 2221221), (1282, .istore 6), (1284, .aload 2), (1285, .invokevirtual 1771211), (1288, .iload 5), (1290, .if_icmp .eq 1295), (1293, .iconst 0), (1294, .freturn), (1295, .iload 5), (1297, .ifCond .ne 1312), (1300, .aload 3), (1301, .iconst 0), (1302, .laload), (1303, .iload 6), (1305, .i2l), (1306, .lcmp), (1307, .ifCond .eq 1312), (1310, .iconst 0), (1311, .freturn), (1312, .jsr 96), (1312, .goto 3376), (1315, .jsr 96), (1315, .aload 1), (1316, .aload 0), (1317, .iload 4)]
noncomputable def cd_371_15 : List (Nat × Instr) := [(1319, .iconst 1), (1320, .iadd), (1321, .caload), (1322, .aload 3), (1323, .invokestatic 3449931), (1326, .istore 5), (1328, .aload 2), (1329, .aload 0), (1330, .iload 4), (1332, .iconst 1), (1333, .iadd), (1334, .caload), (1335, .invokevirtual 2251221), (1338, .istore 6), (1340, .aload 2), (1341, .invokevirtual 1771211), (1344, .iload 5), (1346, .if_icmp .eq 1351), (1349, .iconst 0), (1350, .freturn), (1351, .iload 5), (1353, .ifCond .ne 1368), (1356, .aload 3), (1357, .iconst 0), (1358, .laload), (1359, .iload 6), (1361, .i2l), (1362, .lcmp), (1363, .ifCond .eq 1368), (1366, .iconst 0), (1367, .freturn), (1368, .jsr 96), (1368, .goto 3376), (1371, .jsr 96), (1371, .aload 1), (1372, .aload 0), (1373, .iload 4), (1375, .iconst 1), (1376, .iadd), (1377, .caload), (1378, .aload 0), (1379, .iload 4), (1381, .iconst 2), (1382, .iadd), (1383, .caload), (1384, .aload 3), (1385, .invokestatic 3459941), (1388, .istore 5), (1390, .aload 2), (1391, .aload 0)]
noncomputable def cd_371_16 : List (Nat × Instr) := [(1392, .iload 4), (1394, .iconst 1), (1395, .iadd), (1396, .caload), (1397, .aload 0), (1398, .iload 4), (1400, .iconst 2), (1401, .iadd), (1402, .caload), (1403, .invokevirtual 2271231), (1406, .istore 6), (1408, .aload 2), (1409, .invokevirtual 1771211), (1412, .iload 5), (1414, .if_icmp .eq 1419), (1417, .iconst 0), (1418, .freturn), (1419, .iload 5), (1421, .ifCond .ne 1436), (1424, .aload 3), (1425, .iconst 0), (1426, .laload), (1427, .iload 6), (1429, .i2l), (1430, .lcmp), (1431, .ifCond .eq 1436), (1434, .iconst 0), (1435, .freturn), (1436, .jsr 96), (1436, .goto 3376), (1439, .jsr 96), (1439, .aload 1), (1440, .aload 0), (1441, .iload 4), (1443, .iconst 1), (1444, .iadd), (1445, .caload), (1446, .aload 0), (1447, .iload 4), (1449, .iconst 2), (1450, .iadd), (1451, .caload), (1452, .aload 3), (1453, .invokestatic 3469941), (1456, .istore 5), (1458, .aload 2), (1459, .aload 0), (1460, .iload 4), (1462, .iconst 1), (1463, .iadd)]
noncomputable def cd_371_17 : List (Nat × Instr) := [(1464, .caload), (1465, .aload 0), (1466, .iload 4), (1468, .iconst 2), (1469, .iadd), (1470, .caload), (1471, .invokevirtual 2311231), (1474, .istore 6), (1476, .aload 2), (1477, .invokevirtual 1771211), (1480, .iload 5), (1482, .if_icmp .eq 1487), (1485, .iconst 0), (1486, .freturn), (1487, .iload 5), (1489, .ifCond .ne 1511), (1492, .aload 3), (1493, .iconst 0), (1494, .laload), (1495, .iload 6), (1497, .ifCond .eq 1504), (1500, .lconst 1), (1501, .goto 1505), (1504, .jsr 96), (1504, .lconst 0), (1505, .jsr 96), (1505, .lcmp), (1506, .ifCond .eq 1511), (1509, .iconst 0), (1510, .freturn), (1511, .jsr 96), (1511, .goto 3376), (1514, .jsr 96), (1514, .aload 1), (1515, .aload 0), (1516, .iload 4), (1518, .iconst 1), (1519, .iadd), (1520, .caload), (1521, .aload 0), (1522, .iload 4), (1524, .iconst 2), (1525, .iadd), (1526, .caload), (1527, .aload 3), (1528, .invokestatic 3479941), (1531, .istore 5), (1533, .aload 2), (1534, .aload 0), (1535, .iload 4)]
noncomputable def cd_371_18 : List (Nat × Instr) := [(1537, .iconst 1), (1538, .iadd), (1539, .caload), (1540, .aload 0), (1541, .iload 4), (1543, .iconst 2), (1544, .iadd), (1545, .caload), (1546, .invokevirtual 2351231), (1549, .istore 6), (1551, .aload 2), (1552, .invokevirtual 1771211), (1555, .iload 5), (1557, .if_icmp .eq 1562), (1560, .iconst 0), (1561, .freturn), (1562, .iload 5), (1564, .ifCond .ne 1579), (1567, .aload 3), (1568, .iconst 0), (1569, .laload), (1570, .iload 6), (1572, .i2l), (1573, .lcmp), (1574, .ifCond .eq 1579), (1577, .iconst 0), (1578, .freturn), (1579, .jsr 96), (1579, .goto 3376), (1582, .jsr 96), (1582, .aload 1), (1583, .aload 0), (1584, .iload 4), (1586, .iconst 1), (1587, .iadd), (1588, .caload), (1589, .aload 0), (1590, .iload 4), (1592, .iconst 2), (1593, .iadd), (1594, .caload), (1595, .aload 3), (1596, .invokestatic 3489941), (1599, .istore 5), (1601, .aload 2), (1602, .aload 0), (1603, .iload 4), (1605, .iconst 1), (1606, .iadd), (1607, .caload)]
noncomputable def cd_371_19 : List (Nat × Instr) := [(1608, .aload 0), (1609, .iload 4), (1611, .iconst 2), (1612, .iadd), (1613, .caload), (1614, .invokevirtual 2361231), (1617, .istore 6), (1619, .aload 2), (1620, .invokevirtual 1771211), (1623, .iload 5), (1625, .if_icmp .eq 1630), (1628, .iconst 0), (1629, .freturn), (1630, .iload 5), (1632, .ifCond .ne 1647), (1635, .aload 3), (1636, .iconst 0), (1637, .laload), (1638, .iload 6), (1640, .i2l), (1641, .lcmp), (1642, .ifCond .eq 1647), (1645, .iconst 0), (1646, .freturn), (1647, .jsr 96), (1647, .goto 3376), (1650, .jsr 96), (1650, .aload 1), (1651, .aload 0), (1652, .iload 4), (1654, .iconst 1), (1655, .iadd), (1656, .caload), (1657, .aload 0), (1658, .iload 4), (1660, .iconst 2), (1661, .iadd), (1662, .caload), (1663, .aload 0), (1664, .iload 4), (1666, .iconst 3), (1667, .iadd), (1668, .caload), (1669, .aload 3), (1670, .invokestatic 3499951), (1673, .istore 5), (1675, .aload 2), (1676, .aload 0), (1677, .iload 4), (1679, .iconst 1)]
noncomputable def cd_371_20 : List (Nat × Instr) := [(1680, .iadd), (1681, .caload), (1682, .aload 0), (1683, .iload 4), (1685, .iconst 2), (1686, .iadd), (1687, .caload), (1688, .aload 0), (1689, .iload 4), (1691, .iconst 3), (1692, .iadd), (1693, .caload), (1694, .invokevirtual 2381241), (1697, .istore 6), (1699, .aload 2), (1700, .invokevirtual 1771211), (1703, .iload 5), (1705, .if_icmp .eq 1710), (1708, .iconst 0), (1709, .freturn), (1710, .iload 5), (1712, .ifCond .ne 1727), (1715, .aload 3), (1716, .iconst 0), (1717, .laload), (1718, .iload 6), (1720, .i2l), (1721, .lcmp), (1722, .ifCond .eq 1727), (1725, .iconst 0), (1726, .freturn), (1727, .jsr 96), (1727, .goto 3376), (1730, .jsr 96), (1730, .aload 1), (1731, .aload 0), (1732, .iload 4), (1734, .iconst 1), (1735, .iadd), (1736, .caload), (1737, .aload 0), (1738, .iload 4), (1740, .iconst 2), (1741, .iadd), (1742, .caload), (1743, .aload 3), (1744, .invokestatic 3509941), (1747, .istore 5), (1749, .aload 2), (1750, .aload 0)]
noncomputable def cd_371_21 : List (Nat × Instr) := [(1751, .iload 4), (1753, .iconst 1), (1754, .iadd), (1755, .caload), (1756, .aload 0), (1757, .iload 4), (1759, .iconst 2), (1760, .iadd), (1761, .caload), (1762, .invokevirtual 2411231), (1765, .istore 6), (1767, .aload 2), (1768, .invokevirtual 1771211), (1771, .iload 5), (1773, .if_icmp .eq 1778), (1776, .iconst 0), (1777, .freturn), (1778, .iload 5), (1780, .ifCond .ne 1795), (1783, .aload 3), (1784, .iconst 0), (1785, .laload), (1786, .iload 6), (1788, .i2l), (1789, .lcmp), (1790, .ifCond .eq 1795), (1793, .iconst 0), (1794, .freturn), (1795, .jsr 96), (1795, .goto 3376), (1798, .jsr 96), (1798, .aload 1), (1799, .aload 0), (1800, .iload 4), (1802, .iconst 1), (1803, .iadd), (1804, .caload), (1805, .aload 0), (1806, .iload 4), (1808, .iconst 2), (1809, .iadd), (1810, .caload), (1811, .aload 3), (1812, .invokestatic 3519941), (1815, .istore 5), (1817, .aload 2), (1818, .aload 0), (1819, .iload 4), (1821, .iconst 1), (1822, .iadd)]
noncomputable def cd_371_22 : List (Nat × Instr) := [(1823, .caload), (1824, .aload 0), (1825, .iload 4), (1827, .iconst 2), (1828, .iadd), (1829, .caload), (1830, .invokevirtual 2421231), (1833, .istore 6), (1835, .aload 2), (1836, .invokevirtual 1771211), (1839, .iload 5), (1841, .if_icmp .eq 1846), (1844, .iconst 0), (1845, .freturn), (1846, .iload 5), (1848, .ifCond .ne 1863), (1851, .aload 3), (1852, .iconst 0), (1853, .laload), (1854, .iload 6), (1856, .i2l), (1857, .lcmp), (1858, .ifCond .eq 1863), (1861, .iconst 0), (1862, .freturn), (1863, .jsr 96), (1863, .goto 3376), (1866, .jsr 96), (1866, .aload 1), (1867, .aload 0), (1868, .iload 4), (1870, .iconst 1), (1871, .iadd), (1872, .caload), (1873, .aload 0), (1874, .iload 4), (1876, .iconst 2), (1877, .iadd), (1878, .caload), (1879, .aload 0), (1880, .iload 4), (1882, .iconst 3), (1883, .iadd), (1884, .caload), (1885, .aload 3), (1886, .invokestatic 3529951), (1889, .istore 5), (1891, .aload 2), (1892, .aload 0), (1893, .iload 4)]
noncomputable def cd_371_23 : List (Nat × Instr) := [(1895, .iconst 1), (1896, .iadd), (1897, .caload), (1898, .aload 0), (1899, .iload 4), (1901, .iconst 2), (1902, .iadd), (1903, .caload), (1904, .aload 0), (1905, .iload 4), (1907, .iconst 3), (1908, .iadd), (1909, .caload), (1910, .invokevirtual 2431241), (1913, .istore 6), (1915, .aload 2), (1916, .invokevirtual 1771211), (1919, .iload 5), (1921, .if_icmp .eq 1926), (1924, .iconst 0), (1925, .freturn), (1926, .iload 5), (1928, .ifCond .ne 1943), (1931, .aload 3), (1932, .iconst 0), (1933, .laload), (1934, .iload 6), (1936, .i2l), (1937, .lcmp), (1938, .ifCond .eq 1943), (1941, .iconst 0), (1942, .freturn), (1943, .jsr 96), (1943, .goto 3376), (1946, .jsr 96), (1946, .aload 1), (1947, .aload 0), (1948, .iload 4), (1950, .iconst 1), (1951, .iadd), (1952, .caload), (1953, .aload 0), (1954, .iload 4), (1956, .iconst 2), (1957, .iadd), (1958, .caload), (1959, .aload 3), (1960, .invokestatic 3539941), (1963, .istore 5), (1965, .aload 2)]
noncomputable def cd_371_24 : List (Nat × Instr) := [(1966, .aload 0), (1967, .iload 4), (1969, .iconst 1), (1970, .iadd), (1971, .caload), (1972, .aload 0), (1973, .iload 4), (1975, .iconst 2), (1976, .iadd), (1977, .caload), (1978, .invokevirtual 2841231), (1981, .istore 6), (1983, .aload 2), (1984, .invokevirtual 1771211), (1987, .iload 5), (1989, .if_icmp .eq 1994), (1992, .iconst 0), (1993, .freturn), (1994, .iload 5), (1996, .ifCond .ne 2011), (1999, .aload 3), (2000, .iconst 0), (2001, .laload), (2002, .iload 6), (2004, .i2l), (2005, .lcmp), (2006, .ifCond .eq 2011), (2009, .iconst 0), (2010, .freturn), (2011, .jsr 96), (2011, .goto 3376), (2014, .jsr 96), (2014, .aload 1), (2015, .aload 0), (2016, .iload 4), (2018, .iconst 1), (2019, .iadd), (2020, .caload), (2021, .aload 3), (2022, .invokestatic 3549931), (2025, .istore 5), (2027, .aload 2), (2028, .aload 0), (2029, .iload 4), (2031, .iconst 1), (2032, .iadd), (2033, .caload), (2034, .invokevirtual 2861221), (2037, .istore 6), (2039, .aload 2)]
noncomputable def cd_371_25 : List (Nat × Instr) := [(2040, .invokevirtual 1771211), (2043, .iload 5), (2045, .if_icmp .eq 2050), (2048, .iconst 0), (2049, .freturn), (2050, .iload 5), (2052, .ifCond .ne 2067), (2055, .aload 3), (2056, .iconst 0), (2057, .laload), (2058, .iload 6), (2060, .i2l), (2061, .lcmp), (2062, .ifCond .eq 2067), (2065, .iconst 0), (2066, .freturn), (2067, .jsr 96), (2067, .goto 3376), (2070, .jsr 96), (2070, .aload 1), (2071, .aload 0), (2072, .iload 4), (2074, .iconst 1), (2075, .iadd), (2076, .caload), (2077, .aload 0), (2078, .iload 4), (2080, .iconst 2), (2081, .iadd), (2082, .caload), (2083, .aload 3), (2084, .invokestatic 3559941), (2087, .istore 5), (2089, .aload 2), (2090, .aload 0), (2091, .iload 4), (2093, .iconst 1), (2094, .iadd), (2095, .caload), (2096, .aload 0), (2097, .iload 4), (2099, .iconst 2), (2100, .iadd), (2101, .caload), (2102, .invokevirtual 2881231), (2105, .istore 6), (2107, .aload 2), (2108, .invokevirtual 1771211), (2111, .iload 5), (2113, .if_icmp .eq 2118)]
noncomputable def cd_371_26 : List (Nat × Instr) := [(2116, .iconst 0), (2117, .freturn), (2118, .iload 5), (2120, .ifCond .ne 2135), (2123, .aload 3), (2124, .iconst 0), (2125, .laload), (2126, .iload 6), (2128, .i2l), (2129, .lcmp), (2130, .ifCond .eq 2135), (2133, .iconst 0), (2134, .freturn), (2135, .jsr 96), (2135, .goto 3376), (2138, .jsr 96), (2138, .aload 1), (2139, .aload 0), (2140, .iload 4), (2142, .iconst 1), (2143, .iadd), (2144, .caload), (2145, .aload 0), (2146, .iload 4), (2148, .iconst 2), (2149, .iadd), (2150, .caload), (2151, .ifCond .eq 2158), (2154, .iconst 1), (2155, .goto 2159), (2158, .jsr 96), (2158, .iconst 0), (2159, .jsr 96), (2159, .aload 3), (2160, .invokestatic 3569941), (2163, .istore 5), (2165, .aload 2), (2166, .aload 0), (2167, .iload 4), (2169, .iconst 1), (2170, .iadd), (2171, .caload), (2172, .aload 0), (2173, .iload 4), (2175, .iconst 2), (2176, .iadd), (2177, .caload), (2178, .ifCond .eq 2185), (2181, .iconst 1), (2182, .goto 2186)]
noncomputable def cd_371_27 : List (Nat × Instr) := [(2185, .jsr 64), (2185, .iconst 0), (2186, .jsr 64), (2186, .invokevirtual 2901231), (2189, .istore 6), (2191, .aload 2), (2192, .invokevirtual 1771211), (2195, .iload 5), (2197, .if_icmp .eq 2202), (2200, .iconst 0), (2201, .freturn), (2202, .iload 5), (2204, .ifCond .ne 2219), (2207, .aload 3), (2208, .iconst 0), (2209, .laload), (2210, .iload 6), (2212, .i2l), (2213, .lcmp), (2214, .ifCond .eq 2219), (2217, .iconst 0), (2218, .freturn), (2219, .jsr 96), (2219, .goto 3376), (2222, .jsr 96), (2222, .aload 1), (2223, .aload 0), (2224, .iload 4), (2226, .iconst 1), (2227, .iadd), (2228, .caload), (2229, .aload 0), (2230, .iload 4), (2232, .iconst 2), (2233, .iadd), (2234, .caload), (2235, .aload 3), (2236, .invokestatic 3579941), (2239, .istore 5), (2241, .aload 2), (2242, .aload 0), (2243, .iload 4), (2245, .iconst 1), (2246, .iadd), (2247, .caload), (2248, .aload 0), (2249, .iload 4), (2251, .iconst 2), (2252, .iadd), (2253, .caload)]
noncomputable def cd_371_28 : List (Nat × Instr) := [(2254, .invokevirtual 2951231), (2257, .istore 6), (2259, .aload 2), (2260, .invokevirtual 1771211), (2263, .iload 5), (2265, .if_icmp .eq 2270), (2268, .iconst 0), (2269, .freturn), (2270, .iload 5), (2272, .ifCond .ne 2287), (2275, .aload 3), (2276, .iconst 0), (2277, .laload), (2278, .iload 6), (2280, .i2l), (2281, .lcmp), (2282, .ifCond .eq 2287), (2285, .iconst 0), (2286, .freturn), (2287, .jsr 96), (2287, .goto 3376), (2290, .jsr 96), (2290, .aload 1), (2291, .aload 0), (2292, .iload 4), (2294, .iconst 1), (2295, .iadd), (2296, .caload), (2297, .aload 3), (2298, .invokestatic 3589931), (2301, .istore 5), (2303, .aload 2), (2304, .aload 0), (2305, .iload 4), (2307, .iconst 1), (2308, .iadd), (2309, .caload), (2310, .invokevirtual 2981221), (2313, .istore 6), (2315, .aload 2), (2316, .invokevirtual 1771211), (2319, .iload 5), (2321, .if_icmp .eq 2326), (2324, .iconst 0), (2325, .freturn), (2326, .iload 5), (2328, .ifCond .ne 2343), (2331, .aload 3), (2332, .iconst 0), (2333, .laload)]
noncomputable def cd_371_29 : List (Nat × Instr) := [(2334, .iload 6), (2336, .i2l), (2337, .lcmp), (2338, .ifCond .eq 2343), (2341, .iconst 0), (2342, .freturn), (2343, .jsr 96), (2343, .goto 3376), (2346, .jsr 96), (2346, .aload 1), (2347, .aload 0), (2348, .iload 4), (2350, .iconst 1), (2351, .iadd), (2352, .caload), (2353, .aload 3), (2354, .invokestatic 3599931), (2357, .istore 5), (2359, .aload 2), (2360, .aload 0), (2361, .iload 4), (2363, .iconst 1), (2364, .iadd), (2365, .caload), (2366, .invokevirtual 2971221), (2369, .istore 6), (2371, .aload 2), (2372, .invokevirtual 1771211), (2375, .iload 5), (2377, .if_icmp .eq 2382), (2380, .iconst 0), (2381, .freturn), (2382, .iload 5), (2384, .ifCond .ne 2399), (2387, .aload 3), (2388, .iconst 0), (2389, .laload), (2390, .iload 6), (2392, .i2l), (2393, .lcmp), (2394, .ifCond .eq 2399), (2397, .iconst 0), (2398, .freturn), (2399, .jsr 96), (2399, .goto 3376), (2402, .jsr 96), (2402, .aload 1), (2403, .aload 0), (2404, .iload 4), (2406, .iconst 1)]
noncomputable def cd_371_30 : List (Nat × Instr) := [(2407, .iadd), (2408, .caload), (2409, .aload 0), (2410, .iload 4), (2412, .iconst 2), (2413, .iadd), (2414, .caload), (2415, .ifCond .eq 2422), (2418, .iconst 1), (2419, .goto 2423), (2422, .jsr 96), (2422, .iconst 0), (2423, .jsr 96), (2423, .aload 3), (2424, .invokestatic 3609941), (2427, .istore 5), (2429, .aload 2), (2430, .aload 0), (2431, .iload 4), (2433, .iconst 1), (2434, .iadd), (2435, .caload), (2436, .aload 0), (2437, .iload 4), (2439, .iconst 2), (2440, .iadd), (2441, .caload), (2442, .ifCond .eq 2449), (2445, .iconst 1), (2446, .goto 2450), (2449, .jsr 64), (2449, .iconst 0), (2450, .jsr 64), (2450, .invokevirtual 3021231), (2453, .istore 6), (2455, .aload 2), (2456, .invokevirtual 1771211), (2459, .iload 5), (2461, .if_icmp .eq 2466), (2464, .iconst 0), (2465, .freturn), (2466, .iload 5), (2468, .ifCond .ne 2483), (2471, .aload 3), (2472, .iconst 0), (2473, .laload), (2474, .iload 6), (2476, .i2l), (2477, .lcmp), (2478, .ifCond .eq 2483)]
noncomputable def cd_371_31 : List (Nat × Instr) := [(2481, .iconst 0), (2482, .freturn), (2483, .jsr 96), (2483, .goto 3376), (2486, .jsr 96), (2486, .aload 1), (2487, .aload 0), (2488, .iload 4), (2490, .iconst 1), (2491, .iadd), (2492, .caload), (2493, .aload 3), (2494, .invokestatic 3619931), (2497, .istore 5), (2499, .aload 2), (2500, .aload 0), (2501, .iload 4), (2503, .iconst 1), (2504, .iadd), (2505, .caload), (2506, .invokevirtual 3061221), (2509, .istore 6), (2511, .aload 2), (2512, .invokevirtual 1771211), (2515, .iload 5), (2517, .if_icmp .eq 2522), (2520, .iconst 0), (2521, .freturn), (2522, .iload 5), (2524, .ifCond .ne 2539), (2527, .aload 3), (2528, .iconst 0), (2529, .laload), (2530, .iload 6), (2532, .i2l), (2533, .lcmp), (2534, .ifCond .eq 2539), (2537, .iconst 0), (2538, .freturn), (2539, .jsr 96), (2539, .goto 3376), (2542, .jsr 96), (2542, .aload 1), (2543, .aload 0), (2544, .iload 4), (2546, .iconst 1), (2547, .iadd), (2548, .caload), (2549, .aload 3), (2550, .invokestatic 3629931)]
noncomputable def cd_371_32 : List (Nat × Instr) := [(2553, .istore 5), (2555, .aload 2), (2556, .aload 0), (2557, .iload 4), (2559, .iconst 1), (2560, .iadd), (2561, .caload), (2562, .invokevirtual 2441221), (2565, .istore 6), (2567, .aload 2), (2568, .invokevirtual 1771211), (2571, .iload 5), (2573, .if_icmp .eq 2578), (2576, .iconst 0), (2577, .freturn), (2578, .iload 5), (2580, .ifCond .ne 2595), (2583, .aload 3), (2584, .iconst 0), (2585, .laload), (2586, .iload 6), (2588, .i2l), (2589, .lcmp), (2590, .ifCond .eq 2595), (2593, .iconst 0), (2594, .freturn), (2595, .jsr 96), (2595, .goto 3376), (2598, .jsr 96), (2598, .aload 1), (2599, .aload 0), (2600, .iload 4), (2602, .iconst 1), (2603, .iadd), (2604, .caload), (2605, .aload 0), (2606, .iload 4), (2608, .iconst 2), (2609, .iadd), (2610, .caload), (2611, .aload 0), (2612, .iload 4), (2614, .iconst 3), (2615, .iadd), (2616, .caload), (2617, .aload 0), (2618, .iload 4), (2620, .iconst 4), (2621, .iadd), (2622, .caload)]
noncomputable def cd_371_33 : List (Nat × Instr) := [(2623, .aload 3), (2624, .invokestatic 3639961), (2627, .istore 5), (2629, .aload 2), (2630, .aload 0), (2631, .iload 4), (2633, .iconst 1), (2634, .iadd), (2635, .caload), (2636, .aload 0), (2637, .iload 4), (2639, .iconst 2), (2640, .iadd), (2641, .caload), (2642, .aload 0), (2643, .iload 4), (2645, .iconst 3), (2646, .iadd), (2647, .caload), (2648, .aload 0), (2649, .iload 4), (2651, .iconst 4), (2652, .iadd), (2653, .caload), (2654, .invokevirtual 2451251), (2657, .istore 6), (2659, .aload 2), (2660, .invokevirtual 1771211), (2663, .iload 5), (2665, .if_icmp .eq 2670), (2668, .iconst 0), (2669, .freturn), (2670, .iload 5), (2672, .ifCond .ne 2687), (2675, .aload 3), (2676, .iconst 0), (2677, .laload), (2678, .iload 6), (2680, .i2l), (2681, .lcmp), (2682, .ifCond .eq 2687), (2685, .iconst 0), (2686, .freturn), (2687, .jsr 96), (2687, .goto 3376), (2690, .jsr 96), (2690, .aload 1), (2691, .aload 0), (2692, .iload 4), (2694, .iconst 1)]
noncomputable def cd_371_34 : List (Nat × Instr) := [(2695, .iadd), (2696, .caload), (2697, .aload 0), (2698, .iload 4), (2700, .iconst 2), (2701, .iadd), (2702, .caload), (2703, .aload 0), (2704, .iload 4), (2706, .iconst 3), (2707, .iadd), (2708, .caload), (2709, .aload 0), (2710, .iload 4), (2712, .iconst 4), (2713, .iadd), (2714, .caload), (2715, .aload 3), (2716, .invokestatic 3649961), (2719, .istore 5), (2721, .aload 2), (2722, .aload 0), (2723, .iload 4), (2725, .iconst 1), (2726, .iadd), (2727, .caload), (2728, .aload 0), (2729, .iload 4), (2731, .iconst 2), (2732, .iadd), (2733, .caload), (2734, .aload 0), (2735, .iload 4), (2737, .iconst 3), (2738, .iadd), (2739, .caload), (2740, .aload 0), (2741, .iload 4), (2743, .iconst 4), (2744, .iadd), (2745, .caload), (2746, .invokevirtual 2931251), (2749, .istore 6), (2751, .aload 2), (2752, .invokevirtual 1771211), (2755, .iload 5), (2757, .if_icmp .eq 2762), (2760, .iconst 0), (2761, .freturn), (2762, .iload 5)]
noncomputable def cd_371_35 : List (Nat × Instr) := [(2764, .ifCond .ne 2779), (2767, .aload 3), (2768, .iconst 0), (2769, .laload), (2770, .iload 6), (2772, .i2l), (2773, .lcmp), (2774, .ifCond .eq 2779), (2777, .iconst 0), (2778, .freturn), (2779, .jsr 96), (2779, .goto 3376), (2782, .jsr 96), (2782, .aload 1), (2783, .aload 0), (2784, .iload 4), (2786, .iconst 1), (2787, .iadd), (2788, .caload), (2789, .aload 0), (2790, .iload 4), (2792, .iconst 2), (2793, .iadd), (2794, .caload), (2795, .aload 0), (2796, .iload 4), (2798, .iconst 3), (2799, .iadd), (2800, .caload), (2801, .aload 3), (2802, .invokestatic 3659951), (2805, .istore 5), (2807, .aload 2), (2808, .aload 0), (2809, .iload 4), (2811, .iconst 1), (2812, .iadd), (2813, .caload), (2814, .aload 0), (2815, .iload 4), (2817, .iconst 2), (2818, .iadd), (2819, .caload), (2820, .aload 0), (2821, .iload 4), (2823, .iconst 3), (2824, .iadd), (2825, .caload), (2826, .invokevirtual 2461241), (2829, .istore 6)]
noncomputable def cd_371_36 : List (Nat × Instr) := [(2831, .aload 2), (2832, .invokevirtual 1771211), (2835, .iload 5), (2837, .if_icmp .eq 2842), (2840, .iconst 0), (2841, .freturn), (2842, .iload 5), (2844, .ifCond .ne 2859), (2847, .aload 3), (2848, .iconst 0), (2849, .laload), (2850, .iload 6), (2852, .i2l), (2853, .lcmp), (2854, .ifCond .eq 2859), (2857, .iconst 0), (2858, .freturn), (2859, .jsr 96), (2859, .goto 3376), (2862, .jsr 96), (2862, .aload 1), (2863, .invokevirtual 1101111), (2866, .aload 2), (2867, .invokevirtual 2471211), (2870, .if_icmp .eq 3376), (2873, .iconst 0), (2874, .freturn), (2875, .jsr 96), (2875, .aload 1), (2876, .invokevirtual 1111111), (2879, .aload 2), (2880, .invokevirtual 3071211), (2883, .if_icmp .eq 3376), (2886, .iconst 0), (2887, .freturn), (2888, .jsr 96), (2888, .aload 1), (2889, .invokevirtual 1121111), (2892, .aload 2), (2893, .invokevirtual 3081211), (2896, .if_icmp .eq 3376), (2899, .iconst 0), (2900, .freturn), (2901, .jsr 96), (2901, .aload 1), (2902, .aload 0), (2903, .iload 4), (2905, .iconst 1), (2906, .iadd), (2907, .caload)]
noncomputable def cd_371_37 : List (Nat × Instr) := [(2908, .aload 0), (2909, .iload 4), (2911, .iconst 2), (2912, .iadd), (2913, .caload), (2914, .aload 3), (2915, .invokestatic 3669941), (2918, .istore 5), (2920, .aload 2), (2921, .aload 0), (2922, .iload 4), (2924, .iconst 1), (2925, .iadd), (2926, .caload), (2927, .aload 0), (2928, .iload 4), (2930, .iconst 2), (2931, .iadd), (2932, .caload), (2933, .invokevirtual 2811231), (2936, .istore 6), (2938, .aload 2), (2939, .invokevirtual 1771211), (2942, .iload 5), (2944, .if_icmp .eq 2949), (2947, .iconst 0), (2948, .freturn), (2949, .iload 5), (2951, .ifCond .ne 2966), (2954, .aload 3), (2955, .iconst 0), (2956, .laload), (2957, .iload 6), (2959, .i2l), (2960, .lcmp), (2961, .ifCond .eq 2966), (2964, .iconst 0), (2965, .freturn), (2966, .jsr 96), (2966, .goto 3376), (2969, .jsr 96), (2969, .aload 1), (2970, .aload 0), (2971, .iload 4), (2973, .iconst 1), (2974, .iadd), (2975, .caload), (2976, .aload 0), (2977, .iload 4), (2979, .iconst 2)]
noncomputable def cd_371_38 : List (Nat × Instr) := [(2980, .iadd), (2981, .caload), (2982, .ifCond .eq 2989), (2985, .iconst 1), (2986, .goto 2990), (2989, .jsr 96), (2989, .iconst 0), (2990, .jsr 96), (2990, .aload 3), (2991, .invokestatic 3679941), (2994, .istore 5), (2996, .aload 2), (2997, .aload 0), (2998, .iload 4), (3000, .iconst 1), (3001, .iadd), (3002, .caload), (3003, .aload 0), (3004, .iload 4), (3006, .iconst 2), (3007, .iadd), (3008, .caload), (3009, .ifCond .eq 3016), (3012, .iconst 1), (3013, .goto 3017), (3016, .jsr 64), (3016, .iconst 0), (3017, .jsr 64), (3017, .invokevirtual 3091231), (3020, .istore 6), (3022, .aload 2), (3023, .invokevirtual 1771211), (3026, .iload 5), (3028, .if_icmp .eq 3033), (3031, .iconst 0), (3032, .freturn), (3033, .iload 5), (3035, .ifCond .ne 3050), (3038, .aload 3), (3039, .iconst 0), (3040, .laload), (3041, .iload 6), (3043, .i2l), (3044, .lcmp), (3045, .ifCond .eq 3050), (3048, .iconst 0), (3049, .freturn), (3050, .jsr 96), (3050, .goto 3376), (3053, .jsr 96)]
noncomputable def cd_371_39 : List (Nat × Instr) := [(3053, .aload 1), (3054, .aload 0), (3055, .iload 4), (3057, .iconst 1), (3058, .iadd), (3059, .caload), (3060, .aload 0), (3061, .iload 4), (3063, .iconst 2), (3064, .iadd), (3065, .caload), (3066, .ifCond .eq 3073), (3069, .iconst 1), (3070, .goto 3074), (3073, .jsr 96), (3073, .iconst 0), (3074, .jsr 96), (3074, .aload 3), (3075, .invokestatic 3689941), (3078, .istore 5), (3080, .aload 2), (3081, .aload 0), (3082, .iload 4), (3084, .iconst 1), (3085, .iadd), (3086, .caload), (3087, .aload 0), (3088, .iload 4), (3090, .iconst 2), (3091, .iadd), (3092, .caload), (3093, .ifCond .eq 3100), (3096, .iconst 1), (3097, .goto 3101), (3100, .jsr 64), (3100, .iconst 0), (3101, .jsr 64), (3101, .invokevirtual 3111231), (3104, .istore 6), (3106, .aload 2), (3107, .invokevirtual 1771211), (3110, .iload 5), (3112, .if_icmp .eq 3117), (3115, .iconst 0), (3116, .freturn), (3117, .iload 5), (3119, .ifCond .ne 3134), (3122, .aload 3), (3123, .iconst 0), (3124, .laload)]
noncomputable def cd_371_40 : List (Nat × Instr) := [(3125, .iload 6), (3127, .i2l), (3128, .lcmp), (3129, .ifCond .eq 3134), (3132, .iconst 0), (3133, .freturn), (3134, .jsr 96), (3134, .goto 3376), (3137, .jsr 96), (3137, .aload 1), (3138, .aload 0), (3139, .iload 4), (3141, .iconst 1), (3142, .iadd), (3143, .caload), (3144, .aload 0), (3145, .iload 4), (3147, .iconst 2), (3148, .iadd), (3149, .caload), (3150, .ifCond .eq 3157), (3153, .iconst 1), (3154, .goto 3158), (3157, .jsr 96), (3157, .iconst 0), (3158, .jsr 96), (3158, .aload 3), (3159, .invokestatic 3699941), (3162, .istore 5), (3164, .aload 2), (3165, .aload 0), (3166, .iload 4), (3168, .iconst 1), (3169, .iadd), (3170, .caload), (3171, .aload 0), (3172, .iload 4), (3174, .iconst 2), (3175, .iadd), (3176, .caload), (3177, .ifCond .eq 3184), (3180, .iconst 1), (3181, .goto 3185), (3184, .jsr 64), (3184, .iconst 0), (3185, .jsr 64), (3185, .invokevirtual 3121231), (3188, .istore 6), (3190, .aload 2), (3191, .invokevirtual 1771211)]
noncomputable def cd_371_41 : List (Nat × Instr) := [(3194, .iload 5), (3196, .if_icmp .eq 3201), (3199, .iconst 0), (3200, .freturn), (3201, .iload 5), (3203, .ifCond .ne 3218), (3206, .aload 3), (3207, .iconst 0), (3208, .laload), (3209, .iload 6), (3211, .i2l), (3212, .lcmp), (3213, .ifCond .eq 3218), (3216, .iconst 0), (3217, .freturn), (3218, .jsr 96), (3218, .goto 3376), (3221, .jsr 96), (3221, .aload 1), (3222, .aload 0), (3223, .iload 4), (3225, .iconst 1), (3226, .iadd), (3227, .caload), (3228, .aload 0), (3229, .iload 4), (3231, .iconst 2), (3232, .iadd), (3233, .caload), (3234, .aload 3), (3235, .invokestatic 3709941), (3238, .istore 5), (3240, .aload 2), (3241, .aload 0), (3242, .iload 4), (3244, .iconst 1), (3245, .iadd), (3246, .caload), (3247, .aload 0), (3248, .iload 4), (3250, .iconst 2), (3251, .iadd), (3252, .caload), (3253, .invokevirtual 3141231), (3256, .istore 6), (3258, .aload 2), (3259, .invokevirtual 1771211), (3262, .iload 5), (3264, .if_icmp .eq 3269), (3267, .iconst 0)]
noncomputable def cd_371_42 : List (Nat × Instr) := [(3268, .freturn), (3269, .iload 5), (3271, .ifCond .ne 3286), (3274, .aload 3), (3275, .iconst 0), (3276, .laload), (3277, .iload 6), (3279, .i2l), (3280, .lcmp), (3281, .ifCond .eq 3286), (3284, .iconst 0), (3285, .freturn), (3286, .jsr 96), (3286, .goto 3376), (3289, .jsr 96), (3289, .aload 1), (3290, .aload 0), (3291, .iload 4), (3293, .iconst 1), (3294, .iadd), (3295, .caload), (3296, .invokevirtual 1131121), (3299, .aload 2), (3300, .aload 0), (3301, .iload 4), (3303, .iconst 1), (3304, .iadd), (3305, .caload), (3306, .invokevirtual 3151221), (3309, .if_icmp .eq 3376), (3312, .iconst 0), (3313, .freturn), (3314, .jsr 96), (3314, .aload 1), (3315, .invokevirtual 1141111), (3318, .aload 2), (3319, .invokevirtual 1811211), (3322, .if_icmp .eq 3376), (3325, .iconst 0), (3326, .freturn), (3327, .jsr 96), (3327, .aload 1), (3328, .invokevirtual 1151110), (3331, .aload 2), (3332, .invokevirtual 1791210), (3335, .goto 3376), (3338, .jsr 96), (3338, .aload 1), (3339, .invokevirtual 1161111), (3342, .aload 2)]
noncomputable def cd_371_43 : List (Nat × Instr) := [(3343, .invokevirtual 1801211), (3346, .if_icmp .eq 3376), (3349, .iconst 0), (3350, .freturn), (3351, .jsr 96), (3351, .aload 1), (3352, .aload 0), (3353, .iload 4), (3355, .iconst 1), (3356, .iadd), (3357, .caload), (3358, .invokevirtual 1181121), (3361, .aload 2), (3362, .aload 0), (3363, .iload 4), (3365, .iconst 1), (3366, .iadd), (3367, .caload), (3368, .invokevirtual 3161221), (3371, .if_icmp .eq 3376), (3374, .iconst 0), (3375, .freturn), (3376, .jsr 96), (3376, .iinc 4 6), (3379, .goto 23), (3382, .jsr 127), (3382, .iconst 1), (3383, .freturn)]
noncomputable def cd_371 : List (Nat × Instr) := cd_371_0 ++ (cd_371_1 ++ (cd_371_2 ++ (cd_371_3 ++ (cd_371_4 ++ (cd_371_5 ++ (cd_371_6 ++ (cd_371_7 ++ (cd_371_8 ++ (cd_371_9 ++ (cd_371_10 ++ (cd_371_11 ++ (cd_371_12 ++ (cd_371_13 ++ (cd_371_14 ++ (cd_371_15 ++ (cd_371_16 ++ (cd_371_17 ++ (cd_371_18 ++ (cd_371_19 ++ (cd_371_20 ++ (cd_371_21 ++ (cd_371_22 ++ (cd_371_23 ++ (cd_371_24 ++ (cd_371_25 ++ (cd_371_26 ++ (cd_371_27 ++ (cd_371_28 ++ (cd_371_29 ++ (cd_371_30 ++ (cd_371_31 ++ (cd_371_32 ++ (cd_371_33 ++ (cd_371_34 ++ (cd_371_35 ++ (cd_371_36 ++ (cd_371_37 ++ (cd_371_38 ++ (cd_371_39 ++ (cd_371_40 ++ (cd_371_41 ++ (cd_371_42 ++ (cd_371_43)))))))))))))))))))))))))))))))))))))))))))
noncomputable def cdTab : List (List (Nat × Instr)) := [cd_0, cd_1, cd_2, cd_3, cd_4, cd_5, cd_6, cd_7, cd_8, cd_9, cd_10, cd_11, cd_12, cd_13, cd_14, cd_15, cd_16, cd_17, cd_18, cd_19, cd_20, cd_21, cd_22, cd_23, cd_24, cd_25, cd_26, cd_27, cd_28, cd_29, cd_30, cd_31, cd_32, cd_33, cd_34, cd_35, cd_36, cd_37, cd_38, cd_39, cd_40, cd_41, cd_42, cd_43, cd_44, cd_45, cd_46, cd_47, cd_48, cd_49, cd_50, cd_51, cd_52, cd_53, cd_54, cd_55, cd_56, cd_57, cd_58, cd_59, cd_60, cd_61, cd_62, cd_63, cd_64, cd_65, cd_66, cd_67, cd_68, cd_69, cd_70, cd_71, cd_72, cd_73, cd_74, cd_75, cd_76, cd_77, cd_78, cd_79, cd_80, cd_81, cd_82, cd_83, cd_84, cd_85, cd_86, cd_87, cd_88, cd_89, cd_90, cd_91, cd_92, cd_93, cd_94, cd_95, cd_96, cd_97, cd_98, cd_99, cd_100, cd_101, cd_102, cd_103, cd_104, cd_105, cd_106, cd_107, cd_108, cd_109, cd_110, cd_111, cd_112, cd_113, cd_114, cd_115, cd_116, cd_117, cd_118, cd_119, cd_120, cd_121, cd_122, cd_123, cd_124, cd_125, cd_126, cd_127, cd_128, cd_129, cd_130, cd_131, cd_132, cd_133, cd_134, cd_135, cd_136, cd_137, cd_138, cd_139, cd_140, cd_141, cd_142, cd_143, cd_144, cd_145, cd_146, cd_147, cd_148, cd_149, cd_150, cd_151, cd_152, cd_153, cd_154, cd_155, cd_156, cd_157, cd_158, cd_159, cd_160, cd_161, cd_162, cd_163, cd_164, cd_165, cd_166, cd_167, cd_168, cd_169, cd_170, cd_171, cd_172, cd_173, cd_174, cd_175, cd_176, cd_177, cd_178, cd_179, cd_180, cd_181, cd_182, cd_183, cd_184, cd_185, cd_186, cd_187, cd_188, cd_189, cd_190, cd_191, cd_192, cd_193, cd_194, cd_195, cd_196, cd_197, cd_198, cd_199, cd_200, cd_201, cd_202, cd_203, cd_204, cd_205, cd_206, cd_207, cd_208, cd_209, cd_210, cd_211, cd_212, cd_213, cd_214, cd_215, cd_216, cd_217, cd_218, cd_219, cd_220, cd_221, cd_222, cd_223, cd_224, cd_225, cd_226, cd_227, cd_228, cd_229, cd_230, cd_231, cd_232, cd_233, cd_234, cd_235, cd_236, cd_237, cd_238, cd_239, cd_240, cd_241, cd_242, cd_243, cd_244, cd_245, cd_246, cd_247, cd_248, cd_249, cd_250, cd_251, cd_252, cd_253, cd_254, cd_255, cd_256, cd_257, cd_258, cd_259, cd_260, cd_261, cd_262, cd_263, cd_264, cd_265, cd_266, cd_267, cd_268, cd_269, cd_270, cd_271, cd_272, cd_273, cd_274, cd_275, cd_276, cd_277, cd_278, cd_279, cd_280, cd_281, cd_282, cd_283, cd_284, cd_285, cd_286, cd_287, cd_288, cd_289, cd_290, cd_291, cd_292, cd_293, cd_294, cd_295, cd_296, cd_297, cd_298, cd_299, cd_300, cd_301, cd_302, cd_303, cd_304, cd_305, cd_306, cd_307, cd_308, cd_309, cd_310, cd_311, cd_312, cd_313, cd_314, cd_315, cd_316, cd_317, cd_318, cd_319, cd_320, cd_321, cd_322, cd_323, cd_324, cd_325, cd_326, cd_327, cd_328, cd_329, cd_330, cd_331, cd_332, cd_333, cd_334, cd_335, cd_336, cd_337, cd_338, cd_339, cd_340, cd_341, cd_342, cd_343, cd_344, cd_345, cd_346, cd_347, cd_348, cd_349, cd_350, cd_351, cd_352, cd_353, cd_354, cd_355, cd_356, cd_357, cd_358, cd_359, cd_360, cd_361, cd_362, cd_363, cd_364, cd_365, cd_366, cd_367, cd_368, cd_369, cd_370, cd_371]
def mxTab : List Nat := [1, 2, 2, 3, 2, 4, 3, 3, 3, 3, 7, 5, 4, 4, 3, 4, 2, 5, 3, 7, 4, 1, 2, 2, 2, 5, 5, 6, 5, 2, 3, 4, 5, 4, 9, 4, 3, 4, 5, 5, 4, 4, 3, 6, 5, 7, 7, 8, 5, 8, 1, 2, 6, 3, 3, 4, 3, 5, 4, 2, 7, 6, 4, 4, 9, 3, 6, 4, 1, 5, 4, 6, 9, 4, 5, 2, 3, 3, 3, 3, 2, 3, 3, 2, 2, 2, 2, 3, 3, 3, 4, 2, 3, 1, 2, 5, 1, 3, 4, 1, 4, 5, 1, 2, 5, 1, 2, 6, 2, 1, 1, 1, 1, 3, 1, 1, 1, 1, 2, 2, 2, 2, 4, 2, 4, 2, 2, 2, 2, 4, 2, 3, 4, 1, 3, 6, 1, 7, 5, 1, 2, 4, 3, 4, 2, 4, 2, 2, 3, 3, 3, 3, 4, 3, 3, 4, 3, 2, 3, 4, 3, 2, 3, 2, 3, 3, 2, 2, 5, 5, 4, 3, 4, 3, 6, 3, 3, 1, 1, 2, 2, 2, 7, 2, 1, 3, 3, 1, 1, 3, 3, 1, 1, 4, 5, 1, 4, 5, 4, 2, 5, 1, 2, 4, 1, 2, 5, 3, 1, 1, 2, 2, 3, 2, 1, 2, 3, 3, 3, 2, 3, 3, 2, 1, 1, 2, 2, 3, 3, 1, 4, 3, 4, 5, 5, 3, 5, 4, 4, 2, 7, 5, 4, 6, 4, 7, 8, 3, 3, 2, 2, 3, 7, 9, 3, 3, 2, 3, 3, 4, 4, 3, 2, 3, 3, 4, 4, 3, 2, 4, 3, 4, 4, 3, 3, 2, 5, 4, 2, 5, 4, 4, 2, 2, 3, 8, 2, 4, 3, 5, 6, 4, 2, 10, 6, 5, 3, 4, 6, 5, 4, 3, 6, 3, 5, 6, 8, 3, 4, 5, 3, 6, 6, 3, 3, 3, 2, 3, 1, 1, 2, 1, 2, 2, 3, 1, 1, 2, 2, 3, 3, 5, 5, 5, 5, 6, 5, 5, 5, 5, 4, 4, 4, 4, 4, 5, 5, 5, 5, 6, 5, 5, 6, 5, 4, 5, 5, 5, 4, 4, 5, 4, 4, 7, 7, 6, 5, 5, 5, 5, 5, 7]
def bdTab : List Nat := [1, 1, 1, 2, 2, 1, 2, 1, 1, 4, 3, 2, 2, 1, 4, 4, 1, 6, 1, 5, 4, 1, 1, 1, 1, 1, 5, 5, 5, 1, 1, 5, 5, 4, 2, 4, 1, 4, 3, 2, 4, 4, 2, 1, 4, 5, 5, 1, 2, 1, 1, 1, 1, 2, 1, 2, 1, 2, 2, 1, 5, 6, 2, 2, 3, 1, 4, 3, 1, 5, 4, 3, 5, 2, 1, 1, 5, 4, 3, 2, 2, 2, 2, 2, 2, 2, 62, 61, 60, 60, 60, 1, 2, 1, 1, 1, 1, 1, 7, 1, 6, 5, 1, 1, 1, 1, 3, 2, 1, 1, 2, 3, 3, 1, 3, 3, 3, 1, 2, 8, 2, 63, 2, 1, 5, 1, 2, 1, 1, 2, 1, 5, 5, 2, 1, 5, 3, 5, 5, 1, 1, 4, 4, 4, 7, 3, 3, 3, 4, 5, 3, 6, 6, 6, 6, 6, 3, 5, 6, 7, 4, 1, 6, 4, 5, 3, 5, 5, 6, 6, 6, 7, 8, 7, 8, 3, 2, 1, 1, 1, 1, 1, 1, 1, 1, 64, 63, 1, 2, 1, 62, 3, 9, 5, 8, 1, 3, 7, 6, 6, 7, 1, 1, 8, 1, 1, 4, 61, 60, 60, 60, 3, 1, 6, 7, 6, 1, 64, 3, 2, 1, 1, 3, 2, 2, 4, 3, 5, 3, 2, 4, 6, 5, 3, 2, 4, 6, 5, 7, 3, 6, 7, 6, 7, 5, 6, 6, 2, 9, 2, 8, 2, 7, 6, 5, 4, 3, 2, 3, 3, 3, 3, 2, 9, 8, 9, 8, 9, 1, 9, 3, 9, 3, 3, 3, 12, 11, 10, 1, 9, 3, 12, 1, 1, 4, 3, 6, 5, 10, 9, 10, 2, 1, 10, 9, 4, 3, 4, 6, 5, 4, 1, 5, 3, 4, 3, 5, 4, 3, 12, 3, 12, 3, 1, 2, 1, 5, 4, 2, 1, 4, 1, 2, 3, 1, 1, 1, 1, 1, 9, 64, 3, 6, 3, 6, 6, 6, 6, 6, 5, 5, 5, 8, 4, 4, 5, 6, 4, 7, 7, 7, 7, 7, 4, 6, 7, 8, 5, 7, 5, 6, 6, 6, 7, 7, 7, 8, 9, 9, 4, 3, 65]
def hdTab : List (List (Nat × Int32)) := [[(0, 1), (1, 2)], [(0, 1)], [(2, 1), (3, 2)], [(2, 1), (3, 2)], [(2, 1), (3, 2)], [(2, 1)], [(2, 1), (0, 2)], [(2, 1), (4, 2)], [(2, 1), (0, 2), (4, 3)], [(2, 1), (0, 2)], [(2, 1), (0, 2)], [(2, 1)], [(2, 1), (4, 2)], [(0, 1)], [(0, 1)], [(0, 1)], [(2, 1), (0, 2)], [(2, 1), (0, 2)], [(2, 1), (0, 2)], [(2, 1), (0, 2)], [(2, 1), (0, 2)], [(0, 1)], [(2, 1), (0, 2)], [(2, 1), (0, 2)], [(2, 1), (0, 2)], [(2, 1)], [(2, 1)], [(2, 1)], [(2, 1), (0, 2)], [(2, 1), (0, 2)], [(2, 1)], [(0, 1)], [(0, 1)], [(0, 1)], [(2, 1), (0, 2)], [(2, 1), (0, 2)], [(0, 1)], [(2, 1), (0, 2)], [(0, 1)], [(0, 1)], [(2, 1)], [(3, 1)], []]
end
section
/-! Tables of SM's methods (printed by a program of mine out of the Statement): names, bytes, types, words by their places in lw_tbl -/
def yTab : List MethodName := [⟨"ArchEnds$Broker", "<init>", "()V"⟩, ⟨"ArchEnds$Broker", "copyFrom", "(LArchEnds$Broker;)V"⟩, ⟨"ArchEnds$Broker", "earn", "(I)V"⟩, ⟨"ArchEnds$Broker", "minutesTo", "(I)I"⟩, ⟨"ArchEnds$County", "<init>", "()V"⟩, ⟨"ArchEnds$County", "worthOf", "(I)I"⟩, ⟨"ArchEnds$County", "copyFrom", "(LArchEnds$County;)V"⟩, ⟨"ArchEnds$County", "pursesTogether", "()I"⟩, ⟨"ArchEnds$County", "ownedDeeds", "()I"⟩, ⟨"ArchEnds$County", "walkOf", "(I)I"⟩, ⟨"ArchEnds$County", "judge", "(LArchEnds$Sign;III)I"⟩, ⟨"ArchEnds$County", "wettersOf", "(II)I"⟩, ⟨"ArchEnds$County", "isOwned", "(II)Z"⟩, ⟨"ArchEnds$County", "deedsOf", "(I)I"⟩, ⟨"ArchEnds$County", "costFor", "(II)I"⟩, ⟨"ArchEnds$County", "payFor", "(III)I"⟩, ⟨"ArchEnds$County", "ownerOf", "(LArchEnds$Deed;)LArchEnds$Broker;"⟩, ⟨"ArchEnds$County", "passMinutes", "(IZ)I"⟩, ⟨"ArchEnds$County", "drawShowers", "()V"⟩, ⟨"ArchEnds$County", "settleDeeds", "()I"⟩, ⟨"ArchEnds$County", "archFrom", "(II)I"⟩, ⟨"ArchEnds$Deed", "<init>", "()V"⟩, ⟨"ArchEnds$Deed", "copyFrom", "(LArchEnds$Deed;)V"⟩, ⟨"ArchEnds$Deed", "has", "(I)Z"⟩, ⟨"ArchEnds$Forecast", "<init>", "(LArchEnds$County;)V"⟩, ⟨"ArchEnds$Forecast", "minutesToDry", "()I"⟩, ⟨"ArchEnds$Forecast", "looksAt", "(II)I"⟩, ⟨"ArchEnds$Forecast", "standsOn", "(III)I"⟩, ⟨"ArchEnds$Forecast", "bestAcre", "(II)I"⟩, ⟨"ArchEnds$Forecast", "clearStood", "()V"⟩, ⟨"ArchEnds$Forecast", "firstOfMost", "()I"⟩, ⟨"ArchEnds$Forecast", "firstOn", "(II)I"⟩, ⟨"ArchEnds$Forecast", "siteOf", "(III)I"⟩, ⟨"ArchEnds$Forecast", "countRoadsTo", "(II)V"⟩, ⟨"ArchEnds$Forecast", "oddsOf", "(II)I"⟩, ⟨"ArchEnds$Forecast", "hopeOf", "(LArchEnds$Deed;)I"⟩, ⟨"ArchEnds$Forecast", "takeSights", "(LArchEnds$Tape;)Z"⟩, ⟨"ArchEnds$Forecast", "sureShowers", "(I)I"⟩, ⟨"ArchEnds$Forecast", "fits", "(II)Z"⟩, ⟨"ArchEnds$Forecast", "acresUnder", "(II)I"⟩, ⟨"ArchEnds$Forecast", "fittingSets", "(I)I"⟩, ⟨"ArchEnds$Forecast", "tellingAcre", "(I)I"⟩, ⟨"ArchEnds$Forecast", "countWet", "(I)V"⟩, ⟨"ArchEnds$Forecast", "leastGreaterPart", "(I)I"⟩, ⟨"ArchEnds$Forecast", "sprayAt", "(I)I"⟩, ⟨"ArchEnds$Forecast", "bothFrom", "(IIII)I"⟩, ⟨"ArchEnds$Forecast", "weddings", "(III)I"⟩, ⟨"ArchEnds$Law", "<init>", "(I[LArchEnds$Sign;[I[I[I)V"⟩, ⟨"ArchEnds$Law", "sumOf", "(LArchEnds$Sign;[I)I"⟩, ⟨"ArchEnds$Law", "holds", "(I[I)Z"⟩, ⟨"ArchEnds$LogBook", "<init>", "()V"⟩, ⟨"ArchEnds$LogBook", "copyFrom", "(LArchEnds$LogBook;)V"⟩, ⟨"ArchEnds$LogBook", "add", "(IIII)V"⟩, ⟨"ArchEnds$LogBook", "latestMinuteOf", "(I)I"⟩, ⟨"ArchEnds$LogBook", "entry", "(II)I"⟩, ⟨"ArchEnds$LogBook", "rowsOf", "(I)I"⟩, ⟨"ArchEnds$Market", "<init>", "(LArchEnds$County;LArchEnds$Forecast;)V"⟩, ⟨"ArchEnds$Market", "richest", "()I"⟩, ⟨"ArchEnds$Market", "clashes", "()I"⟩, ⟨"ArchEnds$Market", "areOfOneAcreAndMinute", "(LArchEnds$Deed;LArchEnds$Deed;)Z"⟩, ⟨"ArchEnds$Market", "gainOf", "(II)I"⟩, ⟨"ArchEnds$Market", "bestDeals", "(I)I"⟩, ⟨"ArchEnds$Market", "costsTogether", "(I)I"⟩, ⟨"ArchEnds$Market", "gainsTogether", "(I)I"⟩, ⟨"ArchEnds$Market", "meetingAcre", "(LArchEnds$Broker;LArchEnds$Broker;)I"⟩, ⟨"ArchEnds$Market", "takePlaces", "(LArchEnds$Tape;)Z"⟩, ⟨"ArchEnds$Market", "planWays", "()V"⟩, ⟨"ArchEnds$Market", "minutesBy", "(III)I"⟩, ⟨"ArchEnds$Market", "fewestMinutes", "()I"⟩, ⟨"ArchEnds$Market", "placeOf", "(I)I"⟩, ⟨"ArchEnds$Market", "firstPlace", "(II)I"⟩, ⟨"ArchEnds$Market", "firstBrokerOn", "(I)I"⟩, ⟨"ArchEnds$Market", "restingChoices", "(IIII)I"⟩, ⟨"ArchEnds$Market", "isContent", "(III)Z"⟩, ⟨"ArchEnds$Market", "shareOf", "(III)I"⟩, ⟨"ArchEnds$Reader", "<init>", "(LArchEnds$Tape;)V"⟩, ⟨"ArchEnds$Reader", "readCounty", "(LArchEnds$County;)Z"⟩, ⟨"ArchEnds$Reader", "readCountyLine", "(LArchEnds$County;)Z"⟩, ⟨"ArchEnds$Reader", "readShower", "(LArchEnds$County;)Z"⟩, ⟨"ArchEnds$Reader", "readDrift", "(LArchEnds$Shower;)Z"⟩, ⟨"ArchEnds$Reader", "readChance", "(LArchEnds$Shower;)Z"⟩, ⟨"ArchEnds$Reader", "readBroker", "(LArchEnds$County;)Z"⟩, ⟨"ArchEnds$Reader", "readDeed", "(LArchEnds$County;)Z"⟩, ⟨"ArchEnds$Reader", "readRoad", "(LArchEnds$County;)Z"⟩, ⟨"ArchEnds$Reader", "readWage", "(LArchEnds$County;)Z"⟩, ⟨"ArchEnds$Reader", "readMinute", "(LArchEnds$County;)Z"⟩, ⟨"ArchEnds$Reader", "readLaw", "()LArchEnds$Law;"⟩, ⟨"ArchEnds$Reader", "readLawLine", "(I)Z"⟩, ⟨"ArchEnds$Reader", "readAny", "(I)Z"⟩, ⟨"ArchEnds$Reader", "readAll", "(I)Z"⟩, ⟨"ArchEnds$Reader", "readAtom", "(I)Z"⟩, ⟨"ArchEnds$Reader", "addStep", "(I)V"⟩, ⟨"ArchEnds$Reader", "readSum", "()Z"⟩, ⟨"ArchEnds$Shower", "<init>", "()V"⟩, ⟨"ArchEnds$Shower", "copyFrom", "(LArchEnds$Shower;)V"⟩, ⟨"ArchEnds$Shower", "acresAt", "(I)I"⟩, ⟨"ArchEnds$Tape", "<init>", "()V"⟩, ⟨"ArchEnds$Tape", "append", "(I)V"⟩, ⟨"ArchEnds$Tape", "split", "()V"⟩, ⟨"ArchEnds$Tape", "kindOf", "(I)I"⟩, ⟨"ArchEnds$Tape", "signOf", "(II)LArchEnds$Sign;"⟩, ⟨"ArchEnds$Tape", "matches", "(Ljava/lang/String;II)Z"⟩, ⟨"ArchEnds$Tape", "next", "()LArchEnds$Sign;"⟩, ⟨"ArchEnds$Tape", "pass", "(LArchEnds$Sign;)Z"⟩, ⟨"ArchEnds$Tape", "passNumber", "(II)Z"⟩, ⟨"ArchEnds$Tape", "nextBegin", "()I"⟩, ⟨"ArchEnds", "<init>", "()V"⟩, ⟨"ArchEnds", "feed", "(IIIII)I"⟩, ⟨"ArchEnds", "end", "(I)Z"⟩, ⟨"ArchEnds", "fault", "()I"⟩, ⟨"ArchEnds", "dry", "()I"⟩, ⟨"ArchEnds", "rich", "()I"⟩, ⟨"ArchEnds", "clash", "()I"⟩, ⟨"ArchEnds", "seed", "(I)I"⟩, ⟨"ArchEnds", "undo", "()Z"⟩, ⟨"ArchEnds", "image", "()V"⟩, ⟨"ArchEnds", "back", "()Z"⟩, ⟨"ArchEnds", "forgetActs", "()V"⟩, ⟨"ArchEnds", "count", "(I)I"⟩, ⟨"ArchEnds", "county", "()I"⟩, ⟨"ArchEnds", "closeText", "(Z)V"⟩, ⟨"ArchEnds", "law", "()I"⟩, ⟨"ArchEnds", "shower", "(II)I"⟩, ⟨"ArchEnds", "checkShower", "(I)V"⟩, ⟨"ArchEnds", "broker", "(II)I"⟩, ⟨"ArchEnds", "checkBroker", "(I)V"⟩, ⟨"ArchEnds", "reachAt", "(I)I"⟩, ⟨"ArchEnds", "sunAt", "(I)I"⟩, ⟨"ArchEnds", "isIn", "(II)Z"⟩, ⟨"ArchEnds", "deed", "(II)I"⟩, ⟨"ArchEnds", "checkDeed", "(I)V"⟩, ⟨"ArchEnds", "costs", "(II)I"⟩, ⟨"ArchEnds", "brings", "(III)I"⟩, ⟨"ArchEnds", "checkMinute", "(I)V"⟩, ⟨"ArchEnds", "checkNumber", "(III)V"⟩, ⟨"ArchEnds", "buy", "(II)I"⟩, ⟨"ArchEnds", "remember", "()V"⟩, ⟨"ArchEnds", "sell", "(II)I"⟩, ⟨"ArchEnds", "go", "(II)I"⟩, ⟨"ArchEnds", "checkAcre", "(I)V"⟩, ⟨"ArchEnds", "apart", "(II)I"⟩, ⟨"ArchEnds", "tell", "(II)I"⟩, ⟨"ArchEnds", "road", "(I)I"⟩, ⟨"ArchEnds", "insure", "(I)I"⟩, ⟨"ArchEnds", "minutes", "(I)I"⟩, ⟨"ArchEnds", "footFrom", "(II)I"⟩, ⟨"ArchEnds", "sun", "(I)I"⟩, ⟨"ArchEnds", "reach", "(I)I"⟩, ⟨"ArchEnds", "foot", "(II)I"⟩, ⟨"ArchEnds", "arch", "(II)Z"⟩, ⟨"ArchEnds", "wets", "(II)I"⟩, ⟨"ArchEnds", "looks", "(II)I"⟩, ⟨"ArchEnds", "stands", "(III)I"⟩, ⟨"ArchEnds", "best", "(II)I"⟩, ⟨"ArchEnds", "first", "(II)I"⟩, ⟨"ArchEnds", "site", "(III)I"⟩, ⟨"ArchEnds", "odds", "(II)I"⟩, ⟨"ArchEnds", "hope", "(I)I"⟩, ⟨"ArchEnds", "gain", "(II)I"⟩, ⟨"ArchEnds", "deals", "(IZ)I"⟩, ⟨"ArchEnds", "meet", "(II)I"⟩, ⟨"ArchEnds", "checkTwo", "(II)V"⟩, ⟨"ArchEnds", "send", "(I)I"⟩, ⟨"ArchEnds", "rush", "(I)I"⟩, ⟨"ArchEnds", "seen", "(IZ)I"⟩, ⟨"ArchEnds", "takeSights", "(I)V"⟩, ⟨"ArchEnds", "ask", "(I)I"⟩, ⟨"ArchEnds", "spray", "(I)I"⟩, ⟨"ArchEnds", "both", "(IIII)I"⟩, ⟨"ArchEnds", "rests", "(IIII)I"⟩, ⟨"ArchEnds", "row", "(III)I"⟩, ⟨"ArchEnds", "ahead", "(II)I"⟩, ⟨"ArchEnds", "trial", "(IZ)I"⟩, ⟨"ArchEnds", "tryOut", "(II)I"⟩, ⟨"ArchEnds", "span", "(IZ)I"⟩, ⟨"ArchEnds", "led", "(IZ)I"⟩, ⟨"ArchEnds", "log", "(II)I"⟩, ⟨"ArchEndsModel", "thrown", "()I"⟩, ⟨"ArchEndsModel", "<init>", "()V"⟩, ⟨"ArchEndsModel", "image", "()V"⟩, ⟨"ArchEndsModel", "back", "()Z"⟩, ⟨"ArchEndsModel", "undo", "()Z"⟩, ⟨"ArchEndsModel", "feed", "(IIIII)I"⟩, ⟨"ArchEndsModel", "end", "(I)Z"⟩, ⟨"ArchEndsModel", "fault", "()I"⟩, ⟨"ArchEndsModel", "county", "()I"⟩, ⟨"ArchEndsModel", "readAll", "(Z)I"⟩, ⟨"ArchEndsModel", "uses", "()V"⟩, ⟨"ArchEndsModel", "blanks", "()V"⟩, ⟨"ArchEndsModel", "isAt", "(II)Z"⟩, ⟨"ArchEndsModel", "readLine", "(ZI)Z"⟩, ⟨"ArchEndsModel", "letters", "()V"⟩, ⟨"ArchEndsModel", "readCountyLine", "()Z"⟩, ⟨"ArchEndsModel", "isWord", "(Ljava/lang/String;)Z"⟩, ⟨"ArchEndsModel", "readShower", "()Z"⟩, ⟨"ArchEndsModel", "showers", "()I"⟩, ⟨"ArchEndsModel", "number", "(II)I"⟩, ⟨"ArchEndsModel", "readSpan", "(III)Z"⟩, ⟨"ArchEndsModel", "after", "(Ljava/lang/String;II)I"⟩, ⟨"ArchEndsModel", "passes", "(Ljava/lang/String;)Z"⟩, ⟨"ArchEndsModel", "readBroker", "()Z"⟩, ⟨"ArchEndsModel", "brokers", "()I"⟩, ⟨"ArchEndsModel", "brokerAt", "(II)I"⟩, ⟨"ArchEndsModel", "readDeed", "()Z"⟩, ⟨"ArchEndsModel", "deeds", "()I"⟩, ⟨"ArchEndsModel", "deedAt", "(II)I"⟩, ⟨"ArchEndsModel", "readNumber", "(III)Z"⟩, ⟨"ArchEndsModel", "readLawLine", "(I)Z"⟩, ⟨"ArchEndsModel", "readCond", "()Z"⟩, ⟨"ArchEndsModel", "readAllOf", "()Z"⟩, ⟨"ArchEndsModel", "readAtom", "()Z"⟩, ⟨"ArchEndsModel", "sign", "(I)Z"⟩, ⟨"ArchEndsModel", "emits", "(II)V"⟩, ⟨"ArchEndsModel", "readTag", "()Z"⟩, ⟨"ArchEndsModel", "readSum", "()Z"⟩, ⟨"ArchEndsModel", "readPart", "()Z"⟩, ⟨"ArchEndsModel", "throwsIf", "(ZI)Z"⟩, ⟨"ArchEndsModel", "law", "()I"⟩, ⟨"ArchEndsModel", "shower", "(II)I"⟩, ⟨"ArchEndsModel", "noShower", "(I)Z"⟩, ⟨"ArchEndsModel", "in", "(III)Z"⟩, ⟨"ArchEndsModel", "ofShower", "(II)I"⟩, ⟨"ArchEndsModel", "sun", "(I)I"⟩, ⟨"ArchEndsModel", "noMinute", "(I)Z"⟩, ⟨"ArchEndsModel", "sunOf", "(I)I"⟩, ⟨"ArchEndsModel", "reach", "(I)I"⟩, ⟨"ArchEndsModel", "reachOf", "(I)I"⟩, ⟨"ArchEndsModel", "foot", "(II)I"⟩, ⟨"ArchEndsModel", "throwsAt", "(II)Z"⟩, ⟨"ArchEndsModel", "noAcre", "(I)Z"⟩, ⟨"ArchEndsModel", "footOf", "(II)I"⟩, ⟨"ArchEndsModel", "arch", "(II)Z"⟩, ⟨"ArchEndsModel", "isArch", "(II)Z"⟩, ⟨"ArchEndsModel", "wetBy", "(II)I"⟩, ⟨"ArchEndsModel", "liesOver", "(III)Z"⟩, ⟨"ArchEndsModel", "wets", "(II)I"⟩, ⟨"ArchEndsModel", "looks", "(II)I"⟩, ⟨"ArchEndsModel", "standsOn", "(III)Z"⟩, ⟨"ArchEndsModel", "stands", "(III)I"⟩, ⟨"ArchEndsModel", "noSpan", "(II)Z"⟩, ⟨"ArchEndsModel", "standsBy", "(IIII)I"⟩, ⟨"ArchEndsModel", "best", "(II)I"⟩, ⟨"ArchEndsModel", "first", "(II)I"⟩, ⟨"ArchEndsModel", "site", "(III)I"⟩, ⟨"ArchEndsModel", "spray", "(I)I"⟩, ⟨"ArchEndsModel", "both", "(IIII)I"⟩, ⟨"ArchEndsModel", "row", "(III)I"⟩, ⟨"ArchEndsModel", "dry", "()I"⟩, ⟨"ArchEndsModel", "broker", "(II)I"⟩, ⟨"ArchEndsModel", "noBroker", "(I)Z"⟩, ⟨"ArchEndsModel", "walksBy", "(I)I"⟩, ⟨"ArchEndsModel", "of", "(II)I"⟩, ⟨"ArchEndsModel", "sumOf", "(IIII)I"⟩, ⟨"ArchEndsModel", "holdsLine", "(I)Z"⟩, ⟨"ArchEndsModel", "factOf", "(II)I"⟩, ⟨"ArchEndsModel", "isOwned", "()Z"⟩, ⟨"ArchEndsModel", "hasOwner", "(I)Z"⟩, ⟨"ArchEndsModel", "ofDeed", "(II)I"⟩, ⟨"ArchEndsModel", "hasMinute", "(II)Z"⟩, ⟨"ArchEndsModel", "deedsOf", "(I)I"⟩, ⟨"ArchEndsModel", "worthOf", "(I)I"⟩, ⟨"ArchEndsModel", "deed", "(II)I"⟩, ⟨"ArchEndsModel", "noDeed", "(I)Z"⟩, ⟨"ArchEndsModel", "costs", "(II)I"⟩, ⟨"ArchEndsModel", "costsOf", "(II)I"⟩, ⟨"ArchEndsModel", "brings", "(III)I"⟩, ⟨"ArchEndsModel", "bringsOf", "(III)I"⟩, ⟨"ArchEndsModel", "buy", "(II)I"⟩, ⟨"ArchEndsModel", "remembers", "()V"⟩, ⟨"ArchEndsModel", "sell", "(II)I"⟩, ⟨"ArchEndsModel", "gets", "(II)V"⟩, ⟨"ArchEndsModel", "go", "(II)I"⟩, ⟨"ArchEndsModel", "tell", "(II)I"⟩, ⟨"ArchEndsModel", "road", "(I)I"⟩, ⟨"ArchEndsModel", "insure", "(I)I"⟩, ⟨"ArchEndsModel", "minutes", "(I)I"⟩, ⟨"ArchEndsModel", "goesBy", "(IZ)I"⟩, ⟨"ArchEndsModel", "oneMinute", "(Z)I"⟩, ⟨"ArchEndsModel", "drawn", "(I)I"⟩, ⟨"ArchEndsModel", "brightens", "(I)Z"⟩, ⟨"ArchEndsModel", "tells", "(II)V"⟩, ⟨"ArchEndsModel", "ahead", "(II)I"⟩, ⟨"ArchEndsModel", "keepsAll", "()V"⟩, ⟨"ArchEndsModel", "bringsBack", "()V"⟩, ⟨"ArchEndsModel", "odds", "(II)I"⟩, ⟨"ArchEndsModel", "oddsOf", "(II)I"⟩, ⟨"ArchEndsModel", "hope", "(I)I"⟩, ⟨"ArchEndsModel", "hopeOf", "(I)I"⟩, ⟨"ArchEndsModel", "gain", "(II)I"⟩, ⟨"ArchEndsModel", "gainOf", "(II)I"⟩, ⟨"ArchEndsModel", "deals", "(IZ)I"⟩, ⟨"ArchEndsModel", "allOf", "([II)I"⟩, ⟨"ArchEndsModel", "has", "(II)Z"⟩, ⟨"ArchEndsModel", "rests", "(IIII)I"⟩, ⟨"ArchEndsModel", "restsBy", "(IIII)I"⟩, ⟨"ArchEndsModel", "meet", "(II)I"⟩, ⟨"ArchEndsModel", "minutesOf", "(II)I"⟩, ⟨"ArchEndsModel", "rush", "(I)I"⟩, ⟨"ArchEndsModel", "send", "(I)I"⟩, ⟨"ArchEndsModel", "laysLeast", "()V"⟩, ⟨"ArchEndsModel", "leastBy", "(III)I"⟩, ⟨"ArchEndsModel", "leastOf", "(II)I"⟩, ⟨"ArchEndsModel", "seen", "(IZ)I"⟩, ⟨"ArchEndsModel", "isTold", "()Z"⟩, ⟨"ArchEndsModel", "fits", "(II)Z"⟩, ⟨"ArchEndsModel", "isWetBy", "(III)Z"⟩, ⟨"ArchEndsModel", "ask", "(I)I"⟩, ⟨"ArchEndsModel", "rich", "()I"⟩, ⟨"ArchEndsModel", "clash", "()I"⟩, ⟨"ArchEndsModel", "trial", "(IZ)I"⟩, ⟨"ArchEndsModel", "pursesOfAll", "()I"⟩, ⟨"ArchEndsModel", "span", "(IZ)I"⟩, ⟨"ArchEndsModel", "led", "(IZ)I"⟩, ⟨"ArchEndsModel", "ofLog", "(II)I"⟩, ⟨"ArchEndsModel", "log", "(II)I"⟩, ⟨"ArchEndsModel", "seed", "(I)I"⟩, ⟨"ArchEndsModel", "count", "(I)I"⟩, ⟨"ArchEndsModel", "ownedOnes", "()I"⟩, ⟨"java/lang/String", "length", "()I"⟩, ⟨"java/lang/String", "coder", "()B"⟩, ⟨"java/lang/String", "charAt", "(I)C"⟩, ⟨"java/lang/String", "isLatin1", "()Z"⟩, ⟨"java/lang/String", "checkIndex", "(II)V"⟩, ⟨"java/lang/StringLatin1", "charAt", "([BI)C"⟩, ⟨"jdk/internal/util/Preconditions", "checkIndex", "(IILjava/util/function/BiFunction;)I"⟩, ⟨"java/lang/Integer", "bitCount", "(I)I"⟩, ⟨"java/lang/Math", "abs", "(I)I"⟩, ⟨"java/lang/Math", "max", "(II)I"⟩, ⟨"java/lang/Math", "min", "(II)I"⟩, ⟨"ArchEndsLaw", "county", "(LArchEnds;[J)I"⟩, ⟨"ArchEndsLaw", "law", "(LArchEnds;[J)I"⟩, ⟨"ArchEndsLaw", "shower", "(LArchEnds;II[J)I"⟩, ⟨"ArchEndsLaw", "broker", "(LArchEnds;II[J)I"⟩, ⟨"ArchEndsLaw", "deed", "(LArchEnds;II[J)I"⟩, ⟨"ArchEndsLaw", "costs", "(LArchEnds;II[J)I"⟩, ⟨"ArchEndsLaw", "brings", "(LArchEnds;III[J)I"⟩, ⟨"ArchEndsLaw", "buy", "(LArchEnds;II[J)I"⟩, ⟨"ArchEndsLaw", "sell", "(LArchEnds;II[J)I"⟩, ⟨"ArchEndsLaw", "go", "(LArchEnds;II[J)I"⟩, ⟨"ArchEndsLaw", "tell", "(LArchEnds;II[J)I"⟩, ⟨"ArchEndsLaw", "road", "(LArchEnds;I[J)I"⟩, ⟨"ArchEndsLaw", "insure", "(LArchEnds;I[J)I"⟩, ⟨"ArchEndsLaw", "minutes", "(LArchEnds;I[J)I"⟩, ⟨"ArchEndsLaw", "sun", "(LArchEnds;I[J)I"⟩, ⟨"ArchEndsLaw", "reach", "(LArchEnds;I[J)I"⟩, ⟨"ArchEndsLaw", "foot", "(LArchEnds;II[J)I"⟩, ⟨"ArchEndsLaw", "arch", "(LArchEnds;II[J)I"⟩, ⟨"ArchEndsLaw", "wets", "(LArchEnds;II[J)I"⟩, ⟨"ArchEndsLaw", "looks", "(LArchEnds;II[J)I"⟩, ⟨"ArchEndsLaw", "stands", "(LArchEnds;III[J)I"⟩, ⟨"ArchEndsLaw", "best", "(LArchEnds;II[J)I"⟩, ⟨"ArchEndsLaw", "first", "(LArchEnds;II[J)I"⟩, ⟨"ArchEndsLaw", "site", "(LArchEnds;III[J)I"⟩, ⟨"ArchEndsLaw", "odds", "(LArchEnds;II[J)I"⟩, ⟨"ArchEndsLaw", "hope", "(LArchEnds;I[J)I"⟩, ⟨"ArchEndsLaw", "gain", "(LArchEnds;II[J)I"⟩, ⟨"ArchEndsLaw", "deals", "(LArchEnds;IZ[J)I"⟩, ⟨"ArchEndsLaw", "meet", "(LArchEnds;II[J)I"⟩, ⟨"ArchEndsLaw", "send", "(LArchEnds;I[J)I"⟩, ⟨"ArchEndsLaw", "rush", "(LArchEnds;I[J)I"⟩, ⟨"ArchEndsLaw", "seen", "(LArchEnds;IZ[J)I"⟩, ⟨"ArchEndsLaw", "ask", "(LArchEnds;I[J)I"⟩, ⟨"ArchEndsLaw", "spray", "(LArchEnds;I[J)I"⟩, ⟨"ArchEndsLaw", "both", "(LArchEnds;IIII[J)I"⟩, ⟨"ArchEndsLaw", "rests", "(LArchEnds;IIII[J)I"⟩, ⟨"ArchEndsLaw", "row", "(LArchEnds;III[J)I"⟩, ⟨"ArchEndsLaw", "ahead", "(LArchEnds;II[J)I"⟩, ⟨"ArchEndsLaw", "trial", "(LArchEnds;IZ[J)I"⟩, ⟨"ArchEndsLaw", "span", "(LArchEnds;IZ[J)I"⟩, ⟨"ArchEndsLaw", "led", "(LArchEnds;IZ[J)I"⟩, ⟨"ArchEndsLaw", "log", "(LArchEnds;II[J)I"⟩, ⟨"ArchEndsLaw", "law", "([I)Z"⟩]
def bsTab : List ByteArray := [prog_2_method_1_code, prog_2_method_2_code, prog_2_method_3_code, prog_2_method_4_code, prog_3_method_1_code, prog_3_method_8_code, prog_3_method_2_code, prog_3_method_9_code, prog_3_method_6_code, prog_3_method_12_code, prog_3_method_13_code, prog_3_method_3_code, prog_3_method_14_code, prog_3_method_7_code, prog_3_method_10_code, prog_3_method_11_code, prog_3_method_5_code, prog_3_method_15_code, prog_3_method_16_code, prog_3_method_17_code, prog_3_method_4_code, prog_4_method_1_code, prog_4_method_2_code, prog_4_method_3_code, prog_5_method_1_code, prog_5_method_15_code, prog_5_method_2_code, prog_5_method_3_code, prog_5_method_4_code, prog_5_method_7_code, prog_5_method_8_code, prog_5_method_9_code, prog_5_method_5_code, prog_5_method_6_code, prog_5_method_10_code, prog_5_method_11_code, prog_5_method_16_code, prog_5_method_18_code, prog_5_method_22_code, prog_5_method_23_code, prog_5_method_17_code, prog_5_method_19_code, prog_5_method_20_code, prog_5_method_21_code, prog_5_method_12_code, prog_5_method_13_code, prog_5_method_14_code, prog_6_method_1_code, prog_6_method_2_code, prog_6_method_3_code, prog_7_method_1_code, prog_7_method_2_code, prog_7_method_3_code, prog_7_method_6_code, prog_7_method_4_code, prog_7_method_5_code, prog_8_method_1_code, prog_8_method_9_code, prog_8_method_10_code, prog_8_method_11_code, prog_8_method_2_code, prog_8_method_3_code, prog_8_method_4_code, prog_8_method_5_code, prog_8_method_12_code, prog_8_method_14_code, prog_8_method_15_code, prog_8_method_16_code, prog_8_method_17_code, prog_8_method_18_code, prog_8_method_19_code, prog_8_method_13_code, prog_8_method_6_code, prog_8_method_7_code, prog_8_method_8_code, prog_9_method_1_code, prog_9_method_2_code, prog_9_method_3_code, prog_9_method_4_code, prog_9_method_5_code, prog_9_method_6_code, prog_9_method_7_code, prog_9_method_8_code, prog_9_method_9_code, prog_9_method_10_code, prog_9_method_11_code, prog_9_method_12_code, prog_9_method_13_code, prog_9_method_14_code, prog_9_method_15_code, prog_9_method_16_code, prog_9_method_18_code, prog_9_method_17_code, prog_10_method_1_code, prog_10_method_2_code, prog_10_method_3_code, prog_12_method_1_code, prog_12_method_2_code, prog_12_method_3_code, prog_12_method_4_code, prog_12_method_5_code, prog_12_method_6_code, prog_12_method_7_code, prog_12_method_9_code, prog_12_method_10_code, prog_12_method_8_code, prog_1_method_1_code, prog_1_method_2_code, prog_1_method_3_code, prog_1_method_6_code, prog_1_method_44_code, prog_1_method_45_code, prog_1_method_46_code, prog_1_method_53_code, prog_1_method_54_code, prog_1_method_55_code, prog_1_method_56_code, prog_1_method_59_code, prog_1_method_57_code, prog_1_method_4_code, prog_1_method_7_code, prog_1_method_5_code, prog_1_method_8_code, prog_1_method_61_code, prog_1_method_9_code, prog_1_method_62_code, prog_1_method_68_code, prog_1_method_67_code, prog_1_method_71_code, prog_1_method_10_code, prog_1_method_63_code, prog_1_method_11_code, prog_1_method_12_code, prog_1_method_64_code, prog_1_method_65_code, prog_1_method_13_code, prog_1_method_58_code, prog_1_method_14_code, prog_1_method_15_code, prog_1_method_60_code, prog_1_method_70_code, prog_1_method_16_code, prog_1_method_17_code, prog_1_method_18_code, prog_1_method_19_code, prog_1_method_69_code, prog_1_method_20_code, prog_1_method_21_code, prog_1_method_22_code, prog_1_method_23_code, prog_1_method_24_code, prog_1_method_25_code, prog_1_method_26_code, prog_1_method_27_code, prog_1_method_28_code, prog_1_method_29_code, prog_1_method_30_code, prog_1_method_31_code, prog_1_method_32_code, prog_1_method_33_code, prog_1_method_34_code, prog_1_method_66_code, prog_1_method_35_code, prog_1_method_36_code, prog_1_method_37_code, prog_1_method_39_code, prog_1_method_38_code, prog_1_method_40_code, prog_1_method_41_code, prog_1_method_42_code, prog_1_method_43_code, prog_1_method_47_code, prog_1_method_48_code, prog_1_method_50_code, prog_1_method_49_code, prog_1_method_51_code, prog_1_method_52_code, prog_14_method_1_code, prog_14_method_5_code, prog_14_method_6_code, prog_14_method_7_code, prog_14_method_9_code, prog_14_method_27_code, prog_14_method_28_code, prog_14_method_37_code, prog_14_method_55_code, prog_14_method_54_code, prog_14_method_38_code, prog_14_method_30_code, prog_14_method_29_code, prog_14_method_53_code, prog_14_method_31_code, prog_14_method_44_code, prog_14_method_32_code, prog_14_method_41_code, prog_14_method_10_code, prog_14_method_35_code, prog_14_method_40_code, prog_14_method_36_code, prog_14_method_33_code, prog_14_method_42_code, prog_14_method_11_code, prog_14_method_14_code, prog_14_method_43_code, prog_14_method_12_code, prog_14_method_16_code, prog_14_method_39_code, prog_14_method_52_code, prog_14_method_51_code, prog_14_method_50_code, prog_14_method_49_code, prog_14_method_34_code, prog_14_method_45_code, prog_14_method_48_code, prog_14_method_47_code, prog_14_method_46_code, prog_14_method_2_code, prog_14_method_56_code, prog_14_method_64_code, prog_14_method_20_code, prog_14_method_3_code, prog_14_method_13_code, prog_14_method_65_code, prog_14_method_24_code, prog_14_method_57_code, prog_14_method_66_code, prog_14_method_58_code, prog_14_method_68_code, prog_14_method_67_code, prog_14_method_23_code, prog_14_method_59_code, prog_14_method_69_code, prog_14_method_62_code, prog_14_method_61_code, prog_14_method_60_code, prog_14_method_70_code, prog_14_method_71_code, prog_14_method_63_code, prog_14_method_74_code, prog_14_method_73_code, prog_14_method_72_code, prog_14_method_75_code, prog_14_method_76_code, prog_14_method_77_code, prog_14_method_78_code, prog_14_method_79_code, prog_14_method_80_code, prog_14_method_81_code, prog_14_method_91_code, prog_14_method_21_code, prog_14_method_88_code, prog_14_method_15_code, prog_14_method_85_code, prog_14_method_84_code, prog_14_method_83_code, prog_14_method_82_code, prog_14_method_18_code, prog_14_method_17_code, prog_14_method_19_code, prog_14_method_89_code, prog_14_method_90_code, prog_14_method_92_code, prog_14_method_22_code, prog_14_method_93_code, prog_14_method_86_code, prog_14_method_94_code, prog_14_method_87_code, prog_14_method_95_code, prog_14_method_8_code, prog_14_method_96_code, prog_14_method_25_code, prog_14_method_97_code, prog_14_method_98_code, prog_14_method_99_code, prog_14_method_100_code, prog_14_method_107_code, prog_14_method_104_code, prog_14_method_103_code, prog_14_method_26_code, prog_14_method_102_code, prog_14_method_101_code, prog_14_method_108_code, prog_14_method_105_code, prog_14_method_106_code, prog_14_method_111_code, prog_14_method_109_code, prog_14_method_112_code, prog_14_method_110_code, prog_14_method_114_code, prog_14_method_113_code, prog_14_method_116_code, prog_14_method_115_code, prog_14_method_4_code, prog_14_method_118_code, prog_14_method_117_code, prog_14_method_120_code, prog_14_method_119_code, prog_14_method_121_code, prog_14_method_125_code, prog_14_method_124_code, prog_14_method_123_code, prog_14_method_122_code, prog_14_method_129_code, prog_14_method_126_code, prog_14_method_128_code, prog_14_method_127_code, prog_14_method_130_code, prog_14_method_131_code, prog_14_method_132_code, prog_14_method_134_code, prog_14_method_133_code, prog_14_method_135_code, prog_14_method_137_code, prog_14_method_136_code, prog_14_method_138_code, prog_14_method_139_code, prog_14_method_141_code, prog_14_method_140_code, prog_26_method_54_code, prog_26_method_152_code, prog_26_method_56_code, prog_26_method_154_code, prog_26_method_155_code, prog_27_method_2_code, prog_35_method_11_code, prog_23_method_49_code, prog_24_method_59_code, prog_24_method_65_code, prog_24_method_69_code, method_3_code, method_4_code, method_5_code, method_6_code, method_7_code, method_8_code, method_9_code, method_10_code, method_11_code, method_12_code, method_13_code, method_14_code, method_15_code, method_16_code, method_17_code, method_18_code, method_19_code, method_20_code, method_21_code, method_22_code, method_23_code, method_24_code, method_25_code, method_26_code, method_27_code, method_28_code, method_29_code, method_30_code, method_31_code, method_32_code, method_33_code, method_34_code, method_35_code, method_36_code, method_37_code, method_38_code, method_39_code, method_40_code, method_41_code, method_42_code, method_43_code, method_44_code, code]
def rtTab : List (Option FieldType) := [none, none, none, some .int, none, some .int, none, some .int, some .int, some .int, some .int, some .int, some .boolean, some .int, some .int, some .int, some (.object "ArchEnds$Broker"), some .int, none, some .int, some .int, none, none, some .boolean, none, some .int, some .int, some .int, some .int, none, some .int, some .int, some .int, none, some .int, some .int, some .boolean, some .int, some .boolean, some .int, some .int, some .int, none, some .int, some .int, some .int, some .int, none, some .int, some .boolean, none, none, none, some .int, some .int, some .int, none, some .int, some .int, some .boolean, some .int, some .int, some .int, some .int, some .int, some .boolean, none, some .int, some .int, some .int, some .int, some .int, some .int, some .boolean, some .int, none, some .boolean, some .boolean, some .boolean, some .boolean, some .boolean, some .boolean, some .boolean, some .boolean, some .boolean, some .boolean, some (.object "ArchEnds$Law"), some .boolean, some .boolean, some .boolean, some .boolean, none, some .boolean, none, none, some .int, none, none, none, some .int, some (.object "ArchEnds$Sign"), some .boolean, some (.object "ArchEnds$Sign"), some .boolean, some .boolean, some .int, none, some .int, some .boolean, some .int, some .int, some .int, some .int, some .int, some .boolean, none, some .boolean, none, some .int, some .int, none, some .int, some .int, none, some .int, none, some .int, some .int, some .boolean, some .int, none, some .int, some .int, none, none, some .int, none, some .int, some .int, none, some .int, some .int, some .int, some .int, some .int, some .int, some .int, some .int, some .int, some .boolean, some .int, some .int, some .int, some .int, some .int, some .int, some .int, some .int, some .int, some .int, some .int, none, some .int, some .int, some .int, none, some .int, some .int, some .int, some .int, some .int, some .int, some .int, some .int, some .int, some .int, some .int, some .int, none, none, some .boolean, some .boolean, some .int, some .boolean, some .int, some .int, some .int, none, none, some .boolean, some .boolean, none, some .boolean, some .boolean, some .boolean, some .int, some .int, some .boolean, some .int, some .boolean, some .boolean, some .int, some .int, some .boolean, some .int, some .int, some .boolean, some .boolean, some .boolean, some .boolean, some .boolean, some .boolean, none, some .boolean, some .boolean, some .boolean, some .boolean, some .int, some .int, some .boolean, some .boolean, some .int, some .int, some .boolean, some .int, some .int, some .int, some .int, some .boolean, some .boolean, some .int, some .boolean, some .boolean, some .int, some .boolean, some .int, some .int, some .boolean, some .int, some .boolean, some .int, some .int, some .int, some .int, some .int, some .int, some .int, some .int, some .int, some .boolean, some .int, some .int, some .int, some .boolean, some .int, some .boolean, some .boolean, some .int, some .boolean, some .int, some .int, some .int, some .boolean, some .int, some .int, some .int, some .int, some .int, none, some .int, none, some .int, some .int, some .int, some .int, some .int, some .int, some .int, some .int, some .boolean, none, some .int, none, none, some .int, some .int, some .int, some .int, some .int, some .int, some .int, some .int, some .boolean, some .int, some .int, some .int, some .int, some .int, some .int, none, some .int, some .int, some .int, some .boolean, some .boolean, some .boolean, some .int, some .int, some .int, some .int, some .int, some .int, some .int, some .int, some .int, some .int, some .int, some .int, some .int, some .byte, some .char, some .boolean, none, some .char, some .int, some .int, some .int, some .int, some .int, some .int, some .int, some .int, some .int, some .int, some .int, some .int, some .int, some .int, some .int, some .int, some .int, some .int, some .int, some .int, some .int, some .int, some .int, some .int, some .int, some .int, some .int, some .int, some .int, some .int, some .int, some .int, some .int, some .int, some .int, some .int, some .int, some .int, some .int, some .int, some .int, some .int, some .int, some .int, some .int, some .int, some .int, some .boolean]
/-- 0 static, 1 instance, 2 a constructor -/
def kdTab : List Nat := [2, 1, 1, 1, 2, 1, 1, 1, 1, 1, 1, 1, 1, 1, 1, 1, 1, 1, 1, 1, 1, 2, 1, 1, 2, 1, 1, 1, 1, 1, 1, 1, 1, 1, 1, 1, 1, 1, 1, 1, 1, 1, 1, 1, 1, 1, 1, 2, 1, 1, 2, 1, 1, 1, 1, 1, 2, 1, 1, 0, 1, 1, 1, 1, 1, 1, 1, 1, 1, 1, 1, 1, 1, 1, 1, 2, 1, 1, 1, 1, 1, 1, 1, 1, 1, 1, 1, 1, 1, 1, 1, 1, 1, 2, 1, 1, 2, 1, 1, 0, 1, 1, 1, 1, 1, 1, 2, 1, 1, 1, 1, 1, 1, 1, 1, 1, 1, 1, 1, 1, 1, 1, 1, 1, 1, 1, 0, 0, 0, 1, 1, 1, 1, 0, 0, 1, 1, 1, 1, 0, 0, 1, 1, 1, 1, 0, 1, 1, 1, 1, 1, 1, 1, 1, 1, 1, 1, 1, 1, 1, 1, 0, 1, 1, 1, 1, 1, 1, 1, 1, 1, 1, 1, 1, 1, 1, 1, 1, 2, 1, 1, 1, 1, 1, 1, 1, 1, 1, 1, 1, 1, 1, 1, 1, 1, 1, 1, 1, 1, 1, 1, 1, 0, 1, 1, 0, 1, 1, 1, 1, 1, 1, 1, 1, 1, 1, 1, 1, 1, 1, 0, 1, 1, 0, 0, 1, 0, 1, 1, 0, 0, 1, 1, 1, 1, 1, 1, 1, 1, 0, 1, 1, 1, 1, 1, 1, 1, 1, 1, 1, 1, 1, 1, 1, 1, 1, 1, 1, 1, 1, 1, 1, 1, 1, 1, 1, 1, 1, 1, 1, 1, 1, 1, 1, 1, 1, 1, 1, 1, 1, 1, 1, 1, 1, 1, 1, 1, 1, 1, 1, 1, 0, 0, 1, 1, 1, 1, 1, 1, 1, 1, 1, 1, 1, 1, 1, 1, 1, 1, 1, 1, 1, 1, 1, 1, 1, 1, 1, 1, 1, 1, 1, 0, 0, 0, 0, 0, 0, 0, 0, 0, 0, 0, 0, 0, 0, 0, 0, 0, 0, 0, 0, 0, 0, 0, 0, 0, 0, 0, 0, 0, 0, 0, 0, 0, 0, 0, 0, 0, 0, 0, 0, 0, 0, 0, 0, 0, 0, 0, 0, 0, 0]
def pzTab : List (Nat × Nat × Nat × Nat) := [(301, 300, 0, 125), (605, 603, 604, 125), (1204, 1202, 1203, 125), (1468, 1466, 1467, 125), (226, 225, 0, 122), (574, 572, 573, 122), (597, 595, 596, 122), (636, 634, 635, 122), (640, 638, 639, 122), (1050, 1048, 1049, 122), (1055, 1054, 22, 122), (1065, 1063, 1064, 122), (1097, 1096, 23, 122), (1113, 1111, 1112, 122), (1139, 1137, 1138, 122), (1158, 1156, 1157, 122), (1199, 1197, 1198, 122), (1253, 1251, 1252, 122), (1257, 1256, 27, 122), (1262, 1261, 28, 122), (1266, 1264, 1265, 122), (326, 325, 0, 126), (609, 607, 608, 126), (1101, 1099, 1100, 126), (456, 455, 0, 127), (562, 560, 561, 127), (1326, 1324, 1325, 127), (1338, 1336, 1337, 127), (1349, 1347, 1348, 127), (1353, 1352, 29, 127), (1357, 1356, 30, 127), (1368, 1366, 1367, 127), (1379, 1377, 1378, 127), (1384, 1383, 31, 127), (1396, 1394, 1395, 127), (1411, 1409, 1410, 127), (1528, 1526, 1527, 127), (1533, 1531, 1532, 127), (1537, 1536, 36, 127), (1541, 1540, 37, 127), (1545, 1543, 1544, 127), (1556, 1554, 1555, 127), (1560, 1559, 38, 127), (1564, 1563, 39, 127), (1575, 1573, 1574, 127), (1586, 1584, 1585, 127), (1617, 1615, 1616, 127), (913, 912, 0, 142), (1105, 1103, 1104, 142), (1109, 1108, 24, 142), (238, 237, 0, 123), (613, 611, 612, 123), (1277, 1275, 1276, 123), (1653, 1651, 1652, 123), (1657, 1655, 1656, 123), (1661, 1659, 1660, 123), (475, 474, 0, 128), (570, 568, 569, 128), (582, 580, 581, 128), (585, 584, 0, 128), (1423, 1421, 1422, 128), (1437, 1435, 1436, 128), (1444, 1443, 32, 128), (1448, 1446, 1447, 128), (1464, 1462, 1463, 128), (1480, 1478, 1479, 128), (1485, 1483, 1484, 128), (1490, 1489, 33, 128), (1494, 1492, 1493, 128), (1498, 1496, 1497, 128), (1502, 1501, 34, 128), (1513, 1511, 1512, 128), (1597, 1595, 1596, 128), (1602, 1601, 40, 128), (1606, 1605, 41, 128), (200, 199, 0, 121), (724, 722, 723, 121), (733, 732, 3, 121), (739, 738, 4, 121), (755, 754, 5, 121), (763, 762, 6, 121), (771, 770, 7, 121), (781, 780, 8, 121), (789, 788, 9, 121), (795, 794, 10, 121), (801, 800, 11, 121), (908, 906, 907, 121), (940, 939, 14, 121), (952, 951, 15, 121), (956, 955, 16, 121), (960, 959, 17, 121), (970, 969, 18, 121), (978, 977, 19, 121), (254, 253, 0, 124), (601, 599, 600, 124), (1069, 1067, 1068, 124), (160, 159, 0, 120), (546, 544, 545, 120), (653, 651, 652, 120), (656, 655, 0, 120), (660, 659, 1, 120), (670, 669, 2, 120), (728, 726, 727, 120), (743, 741, 742, 120), (747, 745, 746, 120), (811, 809, 810, 120), (152, 151, 0, 119), (542, 540, 541, 119), (550, 548, 549, 119), (554, 552, 553, 119), (558, 556, 557, 119), (566, 564, 565, 119), (578, 576, 577, 119), (589, 587, 588, 119), (593, 591, 592, 119), (620, 618, 619, 119), (624, 622, 623, 119), (628, 627, 0, 119), (632, 630, 631, 119), (649, 647, 648, 119), (807, 806, 12, 119), (904, 902, 903, 119), (998, 996, 997, 119), (1002, 1001, 20, 119), (1041, 1039, 1040, 119), (1045, 1044, 21, 119), (1058, 1057, 0, 119), (1061, 1060, 0, 119), (1072, 1071, 0, 119), (1122, 1120, 1121, 119), (1126, 1125, 25, 119), (1135, 1133, 1134, 119), (1147, 1145, 1146, 119), (1150, 1149, 0, 119), (1153, 1152, 0, 119), (1167, 1165, 1166, 119), (1187, 1186, 26, 119), (1194, 1192, 1193, 119), (1211, 1209, 1210, 119), (1214, 1213, 0, 119), (1218, 1217, 0, 119), (1226, 1224, 1225, 119), (1234, 1232, 1233, 119), (1241, 1239, 1240, 119), (1249, 1247, 1248, 119), (1269, 1268, 0, 119), (1284, 1282, 1283, 119), (1291, 1289, 1290, 119), (1298, 1296, 1297, 119), (1306, 1304, 1305, 119), (1314, 1312, 1313, 119), (1322, 1320, 1321, 119), (1334, 1332, 1333, 119), (1345, 1343, 1344, 119), (1364, 1362, 1363, 119), (1375, 1373, 1374, 119), (1392, 1390, 1391, 119), (1407, 1405, 1406, 119), (1419, 1417, 1418, 119), (1433, 1431, 1432, 119), (1456, 1454, 1455, 119), (1459, 1458, 0, 119), (1476, 1474, 1475, 119), (1509, 1507, 1508, 119), (1520, 1518, 1519, 119), (1524, 1523, 35, 119), (1552, 1550, 1551, 119), (1571, 1569, 1570, 119), (1582, 1580, 1581, 119), (1593, 1591, 1592, 119), (1613, 1611, 1612, 119), (1624, 1622, 1623, 119), (1631, 1629, 1630, 119), (1635, 1634, 42, 119), (1642, 1640, 1641, 119), (1649, 1647, 1648, 119), (1668, 1666, 1667, 119), (1674, 1672, 1673, 129), (1679, 1678, 0, 129), (1757, 1755, 1756, 129), (1761, 1759, 1760, 129), (1765, 1763, 1764, 129), (1769, 1767, 1768, 129), (1773, 1771, 1772, 129), (1777, 1775, 1776, 129), (1781, 1779, 1780, 129), (1785, 1784, 43, 129), (1789, 1788, 44, 129), (1793, 1792, 45, 129), (1797, 1796, 46, 129), (1801, 1800, 47, 129), (1805, 1804, 48, 129), (1809, 1808, 49, 129), (1814, 1813, 50, 129), (1820, 1819, 51, 129), (1824, 1823, 52, 129), (1828, 1827, 53, 129), (1832, 1831, 54, 129), (1837, 1836, 55, 129), (1843, 1842, 56, 129), (1850, 1849, 57, 129), (1854, 1853, 58, 129), (1859, 1858, 0, 129), (1864, 1863, 59, 129), (1868, 1867, 60, 129), (1871, 1870, 0, 129), (1877, 1876, 61, 129), (1883, 1882, 62, 129), (1891, 1890, 63, 129), (1895, 1894, 64, 129), (1899, 1898, 65, 129), (1903, 1902, 66, 129), (1908, 1907, 67, 129), (1912, 1911, 68, 129), (1918, 1917, 69, 129), (1922, 1921, 70, 129), (1934, 1933, 71, 129), (1938, 1936, 1937, 129), (1942, 1940, 1941, 129), (1946, 1945, 72, 129), (1949, 1948, 0, 129), (1953, 1952, 73, 129), (1957, 1955, 1956, 129), (1960, 1959, 0, 129), (1963, 1962, 0, 129), (1970, 1968, 1969, 129), (1973, 1972, 0, 129), (1977, 1975, 1976, 129), (1981, 1980, 74, 129), (1984, 1983, 0, 129), (1987, 1986, 0, 129), (1991, 1989, 1990, 129), (1995, 1994, 75, 129), (1999, 1998, 76, 129), (2003, 2002, 77, 129), (2007, 2005, 2006, 129), (2011, 2009, 2010, 129), (2015, 2014, 78, 129), (2019, 2017, 2018, 129), (2022, 2021, 0, 129), (2026, 2025, 79, 129), (2030, 2028, 2029, 129), (2034, 2032, 2033, 129), (2038, 2036, 2037, 129), (2042, 2040, 2041, 129), (2046, 2044, 2045, 129), (2050, 2048, 2049, 129), (2054, 2052, 2053, 129), (2061, 2059, 2060, 129), (2065, 2064, 80, 129), (2069, 2068, 81, 129), (2073, 2072, 82, 129), (2077, 2076, 83, 129), (2081, 2080, 84, 129), (2085, 2084, 85, 129), (2090, 2089, 86, 129), (2094, 2093, 87, 129), (2098, 2097, 88, 129), (2102, 2101, 89, 129), (2106, 2105, 90, 129), (2110, 2109, 91, 129), (2114, 2112, 2113, 129), (2118, 2117, 92, 129), (2122, 2120, 2121, 129), (2126, 2125, 93, 129), (2130, 2128, 2129, 129), (2134, 2133, 94, 129), (2138, 2136, 2137, 129), (2142, 2141, 95, 129), (2146, 2144, 2145, 129), (2150, 2149, 96, 129), (2157, 2155, 2156, 129), (2161, 2159, 2160, 129), (2165, 2163, 2164, 129), (2169, 2167, 2168, 129), (2173, 2171, 2172, 129), (2177, 2176, 97, 129), (2181, 2180, 98, 129), (2185, 2184, 99, 129), (2190, 2189, 100, 129), (2194, 2193, 101, 129), (2198, 2196, 2197, 129), (2202, 2201, 102, 129), (2206, 2205, 103, 129), (2210, 2208, 2209, 129), (2214, 2213, 104, 129), (2220, 2218, 2219, 129), (2224, 2223, 105, 129), (2228, 2226, 2227, 129), (2232, 2231, 106, 129), (2236, 2234, 2235, 129), (2239, 2238, 0, 129), (2242, 2241, 0, 129), (2246, 2244, 2245, 129), (2250, 2249, 107, 129), (2254, 2252, 2253, 129), (2258, 2257, 108, 129), (2262, 2260, 2261, 129), (2266, 2264, 2265, 129), (2270, 2269, 109, 129), (2275, 2274, 110, 129), (2279, 2278, 111, 129), (2283, 2281, 2282, 129), (2287, 2286, 112, 129), (2291, 2290, 113, 129), (2295, 2294, 114, 129), (2299, 2297, 2298, 129), (2303, 2301, 2302, 129), (2307, 2305, 2306, 129), (2311, 2309, 2310, 129), (2315, 2314, 115, 129), (2319, 2317, 2318, 129), (2323, 2321, 2322, 129), (2327, 2326, 116, 129), (2331, 2329, 2330, 129), (2335, 2333, 2334, 129), (2339, 2337, 2338, 129), (2343, 2342, 117, 129), (674, 672, 673, 133), (678, 676, 677, 133), (684, 682, 683, 133), (688, 686, 687, 133), (694, 693, 0, 133), (691, 690, 0, 134), (699, 698, 0, 135), (1075, 1074, 0, 145), (1966, 1965, 0, 146), (2057, 2056, 0, 146), (2153, 2152, 0, 146), (643, 642, 0, 118), (900, 899, 0, 118), (992, 991, 0, 118), (1037, 1036, 0, 118), (1118, 1117, 0, 118), (1131, 1130, 0, 118), (1143, 1142, 0, 118), (1162, 1161, 0, 118), (1190, 1189, 0, 118), (1207, 1206, 0, 118), (1222, 1221, 0, 118), (1230, 1229, 0, 118), (1237, 1236, 0, 118), (1245, 1244, 0, 118), (1280, 1279, 0, 118), (1287, 1286, 0, 118), (1294, 1293, 0, 118), (1302, 1301, 0, 118), (1310, 1309, 0, 118), (1318, 1317, 0, 118), (1330, 1329, 0, 118), (1341, 1340, 0, 118), (1360, 1359, 0, 118), (1371, 1370, 0, 118), (1388, 1387, 0, 118), (1403, 1402, 0, 118), (1415, 1414, 0, 118), (1429, 1428, 0, 118), (1452, 1451, 0, 118), (1472, 1471, 0, 118), (1505, 1504, 0, 118), (1516, 1515, 0, 118), (1548, 1547, 0, 118), (1567, 1566, 0, 118), (1578, 1577, 0, 118), (1589, 1588, 0, 118), (1609, 1608, 0, 118), (1620, 1619, 0, 118), (1627, 1626, 0, 118), (1638, 1637, 0, 118), (1645, 1644, 0, 118), (1664, 1663, 0, 118), (0, 0, 0, 0)]
def hhTab : List (List (Nat × Nat × Nat × Nat)) := [[(0, 8, 11, 13), (0, 8, 14, 15)], [(0, 8, 11, 13)], [(0, 10, 13, 24), (0, 10, 17, 26)], [(0, 10, 13, 24), (0, 10, 17, 26)], [(0, 10, 13, 24), (0, 10, 17, 26)], [(0, 10, 13, 24)], [(0, 12, 15, 24), (0, 12, 19, 13)], [(0, 10, 13, 24), (0, 10, 17, 44)], [(0, 10, 13, 24), (0, 10, 17, 13), (0, 10, 21, 44)], [(0, 10, 13, 24), (0, 10, 17, 13)], [(0, 10, 13, 24), (0, 10, 17, 13)], [(0, 9, 12, 24)], [(0, 9, 12, 24), (0, 9, 15, 44)], [(0, 9, 12, 13)], [(0, 9, 12, 13)], [(0, 9, 12, 13)], [(0, 10, 13, 24), (0, 10, 17, 13)], [(0, 17, 20, 24), (0, 17, 24, 13)], [(0, 10, 13, 24), (0, 10, 17, 13)], [(0, 10, 13, 24), (0, 10, 17, 13)], [(0, 12, 15, 24), (0, 12, 19, 13)], [(0, 10, 13, 13)], [(0, 10, 13, 24), (0, 10, 17, 13)], [(0, 12, 15, 24), (0, 12, 19, 13)], [(0, 10, 13, 24), (0, 10, 17, 13)], [(0, 9, 12, 24)], [(0, 10, 13, 24)], [(0, 10, 13, 24)], [(0, 10, 13, 24), (0, 10, 17, 13)], [(0, 9, 12, 24), (0, 9, 15, 13)], [(0, 9, 12, 24)], [(0, 10, 13, 13)], [(0, 9, 12, 13)], [(0, 9, 12, 13)], [(0, 14, 17, 24), (0, 14, 21, 13)], [(0, 14, 17, 24), (0, 14, 21, 13)], [(0, 12, 15, 13)], [(0, 10, 13, 24), (0, 10, 17, 13)], [(0, 10, 13, 13)], [(0, 10, 13, 13)], [(0, 10, 13, 24)], [(0, 10, 13, 26)], []]
def po_0 : List Nat := [0, 302, 0]
def po_1 : List Nat := [0, 0, 303, 303, 0, 0, 308, 308, 0, 0, 312, 312, 0]
def po_2 : List Nat := [0, 0, 303, 0, 0, 0, 0, 0, 0, 0, 303, 0, 0, 0, 303, 0]
def po_3 : List Nat := [0, 308, 0, 1469, 0, 0, 312, 0, 0, 0, 0, 0, 0, 0, 312, 0, 0, 0, 0, 312, 0, 0, 0]
def po_4 : List Nat := [0, 227, 0, 0, 228, 376, 0, 0, 230, 380, 0, 0, 232, 384, 0, 234, 0, 236, 388, 0, 0, 404, 0, 0, 409, 0, 0, 417, 0, 0, 0, 421, 0, 0, 0, 0, 0, 376, 0, 0, 0, 376, 0, 228, 0, 252, 0, 0, 0, 0, 0, 0, 0, 0, 0, 380, 0, 0, 0, 380, 0, 230, 0, 299, 0, 0, 0, 0, 0, 0, 0, 0, 0, 384, 0, 0, 0, 384, 0, 232, 0, 324, 0, 0, 0, 0, 0]
def po_5 : List Nat := [0, 380, 0, 0, 306, 0, 0, 0, 0, 0, 0, 398, 0, 0, 384, 0, 0, 350, 0, 0, 0, 0, 384, 0, 0, 346, 0, 0, 0, 0, 0, 0, 0]
def po_6 : List Nat := [0, 0, 0, 0, 0, 376, 0, 0, 0, 376, 0, 0, 0, 376, 0, 0, 598, 0, 0, 0, 0, 0, 0, 0, 0, 380, 0, 0, 0, 380, 0, 0, 0, 380, 0, 0, 602, 0, 0, 0, 0, 0, 0, 0, 0, 384, 0, 0, 0, 384, 0, 0, 0, 384, 0, 0, 606, 0, 0, 0, 0, 388, 0, 388, 610, 0, 0, 390, 390, 0, 0, 394, 394, 0, 0, 398, 398, 0, 0, 402, 402, 0, 0, 404, 404, 0, 0, 409, 409, 0, 0, 413, 413, 0, 0, 417, 417, 0, 0, 419, 419, 0]
def po_7 : List Nat := [0, 0, 0, 0, 0, 0, 0, 394, 0, 0, 0, 380, 0, 0, 306, 0, 0, 0, 0, 0, 0, 0]
def po_8 : List Nat := [0, 0, 0, 0, 0, 0, 0, 398, 0, 0, 384, 0, 0, 350, 0, 0, 0, 0, 0, 0, 0, 0, 0, 0, 0, 0, 0]
def po_9 : List Nat := [0, 380, 0, 0, 315, 0, 1051, 0, 380, 0, 0, 311, 0, 413, 0, 1052, 0, 0, 0, 0, 0, 0, 0, 0, 0, 0]
def po_10 : List Nat := [0, 419, 0, 0, 0, 0, 0, 1056, 0, 0, 0, 0, 1062, 1073, 0, 0, 421, 1079, 2370, 0, 0, 0, 0, 0, 421, 1081, 2370, 0, 0, 0, 1083, 0, 0, 421, 1084, 2370, 0, 0, 0, 0, 0, 0, 0, 0, 0, 0, 0, 421, 1086, 2370, 0, 0, 0, 0, 0, 0, 0, 421, 1088, 2370, 0, 0, 0, 0, 0, 421, 1090, 2370, 0, 0, 0, 0, 0, 421, 1092, 2370, 0, 0, 0, 0, 0, 0, 0, 0, 0, 0, 0, 421, 1093, 2370, 0, 0, 0, 0, 0, 1094, 0, 0, 0, 0, 0, 0, 0, 0, 419, 0, 0, 421, 1102, 0]
def po_11 : List Nat := [0, 0, 0, 0, 0, 0, 0, 390, 0, 0, 376, 0, 0, 279, 0, 0, 0, 376, 0, 0, 0, 1066, 0, 1070, 0, 0, 0, 0, 0, 0, 0, 0, 0, 0, 0, 0]
def po_12 : List Nat := [0, 0, 0, 0, 0, 398, 0, 0, 384, 0, 0, 350, 0, 0, 0, 384, 0, 0, 331, 0, 0, 0, 384, 0, 0, 0, 1098, 0, 0, 0, 0, 0, 0, 0, 0]
def po_13 : List Nat := [0, 0, 0, 0, 0, 0, 0, 398, 0, 0, 384, 0, 0, 350, 0, 0, 0, 0, 0, 0, 0, 0, 0, 0, 0, 0, 0]
def po_14 : List Nat := [0, 384, 0, 0, 346, 0, 1140, 0, 384, 0, 0, 331, 0, 413, 0, 1052, 0, 0]
def po_15 : List Nat := [0, 409, 0, 1159, 0, 384, 0, 0, 331, 0, 0, 1052, 0, 0]
def po_16 : List Nat := [0, 350, 0, 0, 350, 0, 394, 0, 0, 0, 0, 0, 380, 0, 350, 0, 0, 0]
def po_17 : List Nat := [0, 0, 0, 0, 0, 0, 0, 0, 0, 0, 0, 1254, 0, 0, 1259, 0, 0, 0, 413, 0, 0, 0, 0, 413, 0, 0, 413, 0, 0, 0, 0, 0]
def po_18 : List Nat := [0, 0, 0, 0, 0, 0, 390, 0, 0, 376, 0, 0, 279, 0, 0, 376, 0, 0, 265, 0, 413, 0, 0, 1258, 0, 417, 0, 0, 0, 417, 0, 417, 0, 0, 0, 0, 0, 0, 376, 0, 0, 0, 0, 0, 0, 376, 0, 0, 277, 0, 0, 0, 0, 0, 0, 279, 0, 0, 0, 0, 0]
def po_19 : List Nat := [0, 0, 0, 0, 404, 0, 413, 1263, 0, 0, 0, 0, 0, 0, 0, 398, 0, 0, 384, 0, 0, 0, 0, 0, 1271, 0, 0, 0, 0, 0, 413, 1098, 0, 0, 0, 0, 331, 0, 0, 0, 0, 350, 0, 0, 413, 1272, 0, 0, 0, 356, 0, 0, 356, 0, 0, 1273, 0, 388, 0, 413, 0, 0, 0, 1274, 0, 0, 0, 360, 0, 0, 344, 0, 413, 0, 0, 356, 0, 0, 0, 346, 1273, 0, 0, 0, 0, 0, 0]
def po_20 : List Nat := [0, 0, 1267, 0, 0, 0, 0, 0, 0, 0, 1062, 0, 0, 0, 0, 0, 0, 0, 0]
def po_21 : List Nat := [0, 327, 0, 0, 349, 0]
def po_22 : List Nat := [0, 0, 328, 328, 0, 0, 334, 334, 0, 0, 339, 339, 0, 0, 345, 345, 0, 0, 349, 349, 0, 0, 353, 353, 0, 0, 357, 357, 0]
def po_23 : List Nat := [0, 334, 0, 0, 0, 0, 339, 0, 0, 0, 0, 0, 0, 0]
def po_24 : List Nat := [0, 457, 0, 0, 0, 459, 0, 0, 458, 0]
def po_25 : List Nat := [0, 0, 0, 0, 0, 0, 0, 0, 458, 392, 0, 0, 458, 379, 0, 0, 0, 0, 269, 0, 0, 0, 458, 415, 0, 0, 0, 282, 0, 0, 0, 0, 0, 0, 0, 0, 0, 0, 0, 0, 0, 0, 0, 0, 0, 0, 0, 0]
def po_26 : List Nat := [0, 0, 0, 0, 0, 0, 0, 0, 0, 458, 0, 0, 1327, 0, 0, 0, 0, 0, 0, 0, 0, 0, 0, 0, 0, 0]
def po_27 : List Nat := [0, 0, 0, 0, 0, 0, 0, 0, 0, 0, 0, 458, 0, 458, 406, 0, 1327, 0, 0, 0, 0, 0, 0, 0, 0]
def po_28 : List Nat := [0, 1350, 0, 0, 0, 0, 0, 0, 0, 0, 0, 0, 458, 0, 458, 406, 0, 1327, 0, 0, 0, 0, 0, 459, 0, 0, 0, 0, 0, 0, 0, 0, 0, 0, 0, 1354, 0]
def po_29 : List Nat := [0, 0, 0, 0, 0, 0, 0, 459, 0, 0, 0, 0, 0, 0, 0]
def po_30 : List Nat := [0, 0, 0, 0, 0, 0, 0, 0, 0, 459, 0, 0, 0, 459, 0, 0, 0, 0, 0, 0, 0, 0, 0, 0]
def po_31 : List Nat := [0, 0, 0, 0, 0, 0, 0, 0, 0, 458, 0, 458, 406, 0, 1327, 0, 0, 0, 0, 0, 0, 0, 0, 0]
def po_32 : List Nat := [0, 1350, 0, 0, 0, 0, 0, 0, 0, 0, 0, 458, 0, 0, 1380, 0, 0, 0, 0, 1381, 0, 0, 0, 0, 1354, 0]
def po_33 : List Nat := [0, 0, 0, 0, 0, 0, 0, 0, 1385, 0, 0, 0, 459, 0, 0, 0, 0, 0, 0, 0, 0, 0, 0]
def po_34 : List Nat := [0, 0, 0, 0, 0, 0, 0, 0, 0, 0, 458, 392, 0, 0, 458, 379, 0, 0, 0, 0, 282, 0, 0, 0, 0, 1397, 0, 1398, 0, 0, 282, 0, 0, 0, 0, 0, 1399, 0, 0, 0, 0, 0, 276, 0, 0, 0, 0, 0, 0, 0, 0, 0, 0, 0, 0, 0, 0, 0, 1400, 0, 0, 0, 0, 0, 0, 0, 0, 0]
def po_35 : List Nat := [0, 0, 0, 338, 0, 0, 0, 0, 343, 0, 0, 458, 406, 0, 1385, 0, 333, 0, 0, 0, 0, 333, 0, 1412, 0, 0, 0, 0, 0, 0, 0, 0, 0]
def po_36 : List Nat := [0, 0, 460, 0, 0, 461, 0, 170, 0, 0, 0, 170, 0, 0, 0, 0, 0, 0, 0, 0, 0, 0, 0, 0, 0, 0, 170, 0, 0, 166, 0, 0, 0, 0, 0, 166, 0, 0, 0, 0, 0, 0, 0, 0, 0, 0, 166, 0, 0, 0, 0, 0, 0, 0, 0, 460, 0, 0, 166, 0, 0, 0, 0, 460, 0, 0, 0, 461, 0, 0, 166, 0, 0, 0, 0, 461, 0, 0, 0, 0, 0]
def po_37 : List Nat := [0, 0, 0, 0, 0, 0, 0, 0, 458, 392, 0, 0, 0, 0, 0, 1534, 0, 0, 0, 0, 0, 0, 0, 0, 0, 0, 0, 0, 0, 0, 0, 0, 0]
def po_38 : List Nat := [0, 0, 0, 0, 0, 0, 458, 392, 0, 0, 458, 379, 0, 0, 282, 0, 0, 0, 1398, 0, 0, 0, 0, 0, 0, 0, 0, 0, 0, 0, 0, 0, 0, 0, 0, 0, 0, 1538, 0, 0, 0, 460, 0, 0, 460, 0, 0, 0, 461, 0, 0, 0, 0, 0, 0, 0, 0]
def po_39 : List Nat := [0, 0, 0, 0, 0, 0, 0, 458, 392, 0, 0, 0, 1398, 0, 0, 0, 458, 379, 0, 0, 0, 1397, 0, 0, 0, 0, 0, 0, 0]
def po_40 : List Nat := [0, 0, 0, 0, 0, 0, 0, 0, 458, 392, 0, 0, 0, 0, 0, 1534, 0, 0, 0, 0, 0, 0, 0]
def po_41 : List Nat := [0, 0, 0, 1350, 0, 0, 0, 0, 0, 0, 458, 392, 0, 0, 0, 0, 0, 1534, 0, 0, 0, 0, 0, 0, 1538, 1557, 0, 0, 0, 0, 0, 0, 0, 0, 0, 0, 0, 1561, 0, 0]
def po_42 : List Nat := [0, 0, 0, 0, 0, 0, 0, 0, 1398, 0, 0, 459, 0, 0, 0, 0, 0, 0, 0, 0, 0, 0]
def po_43 : List Nat := [0, 0, 0, 0, 0, 0, 0, 0, 0, 0, 0, 0, 459, 0, 0, 0, 0, 459, 0, 0, 0, 0, 0, 459, 0, 0, 0, 0, 0, 0, 459, 0, 0, 0, 0, 0, 0, 0, 0, 0, 0, 0, 0, 0, 0, 0, 0, 0, 0]
def po_44 : List Nat := [0, 0, 0, 0, 0, 0, 0, 0, 0, 0, 458, 0, 0, 1380, 0, 0, 0, 0, 0, 0, 0, 0, 0, 0, 0, 0, 0, 0, 0, 0, 0, 0, 0, 0, 1385, 0, 0, 0, 0, 0, 0, 0, 0, 0, 0, 0, 0, 0, 0, 0, 0, 0, 0]
def po_45 : List Nat := [0, 0, 0, 0, 0, 0, 0, 0, 0, 0, 0, 458, 0, 0, 1327, 0, 0, 0, 458, 0, 0, 1327, 0, 0, 0, 0, 0, 0, 0, 0]
def po_46 : List Nat := [0, 0, 0, 0, 0, 0, 0, 0, 0, 0, 0, 0, 0, 0, 0, 0, 458, 0, 458, 406, 0, 1327, 0, 0, 0, 0, 0, 0, 0, 0, 0, 0, 0, 0, 0, 0, 0, 0, 0, 0, 0, 0, 0, 0, 0, 0, 0]
def po_47 : List Nat := [0, 914, 0, 0, 0, 0, 0, 0, 0, 0, 0, 0, 0, 0, 0, 0, 917, 0, 0, 915, 919, 0, 0, 0, 920, 0, 0, 0, 921, 0, 0, 0, 922, 0, 0, 0, 0, 0, 923, 0, 0, 0, 0, 0, 0, 0, 919, 0, 0, 0, 0, 0, 0, 920, 0, 0, 0, 0, 0, 0, 921, 0, 0, 0, 0, 0, 0, 0, 0, 0, 0, 0, 922, 0, 0, 916, 0]
def po_48 : List Nat := [0, 0, 0, 0, 0, 0, 0, 917, 0, 0, 919, 0, 0, 0, 0, 0, 0, 0, 1106, 0, 0, 0, 920, 0, 0, 0, 0, 0, 0, 0, 0, 0]
def po_49 : List Nat := [0, 0, 0, 0, 0, 0, 0, 0, 921, 0, 0, 0, 0, 0, 0, 0, 0, 0, 0, 921, 0, 0, 0, 0, 922, 0, 0, 0, 0, 0, 0, 0, 0, 0, 0, 0, 923, 0, 0, 0, 923, 0, 0, 0, 0, 0, 0, 0, 0, 0, 0, 0, 0, 0, 0, 0, 0, 0, 0, 0, 0, 0, 0, 0, 0, 923, 0, 0, 0, 0, 0, 923, 0, 0, 0, 0, 0, 0, 0, 0, 0, 0, 0, 0, 0, 923, 0, 0, 0, 0, 0, 0, 923, 0, 0, 0, 0, 0, 0, 0, 923, 0, 0, 0, 0, 0, 0, 0, 0, 0, 0, 923, 0, 0, 0, 0, 0, 0, 0, 0, 0, 0, 0, 0, 0, 0, 0, 923, 0, 0, 0, 0, 0, 0, 0, 0, 0, 0, 0, 0, 0, 0, 0, 923, 0, 0, 0, 0, 0, 0, 0, 0, 0, 0, 923, 0, 0, 0, 0, 0, 0, 0, 0, 0, 0, 0, 0, 0, 0, 923, 0, 0, 0, 0, 0, 0, 0, 0, 0, 0]
def po_50 : List Nat := [0, 239, 0, 0, 0, 243, 0]
def po_51 : List Nat := [0, 0, 240, 240, 0, 0, 242, 242, 0, 243, 0, 0, 243, 0, 0, 243, 0, 614, 0]
def po_52 : List Nat := [0, 242, 0, 0, 0, 0, 243, 0, 0, 0, 0, 243, 0, 0, 0, 0, 0, 0, 243, 0, 0, 0, 0, 0, 0, 243, 0, 0, 0, 0, 0, 0, 0, 242, 0, 0, 0, 0, 242, 0, 0, 240, 0, 0, 0, 240, 0, 0, 0, 0, 0, 0, 240, 0]
def po_53 : List Nat := [0, 0, 0, 0, 0, 240, 0, 0, 0, 0, 1654, 0, 0, 0, 0, 0, 1654, 0, 0, 0, 0, 0, 0]
def po_54 : List Nat := [0, 0, 0, 0, 240, 0, 0, 0, 0, 0, 243, 0, 242, 0, 0, 0, 0, 0, 0, 0, 0, 0, 0, 0, 0, 0, 0]
def po_55 : List Nat := [0, 0, 0, 0, 0, 0, 0, 240, 0, 0, 0, 0, 1654, 0, 0, 0, 0, 0, 0, 0, 0]
def po_56 : List Nat := [0, 476, 0, 0, 0, 479, 0, 0, 0, 480, 0, 0, 0, 481, 0, 0, 0, 482, 0, 0, 0, 483, 0, 0, 0, 484, 0, 0, 477, 0, 0, 478, 0]
def po_57 : List Nat := [0, 0, 0, 0, 0, 0, 0, 0, 0, 0, 477, 396, 0, 0, 477, 0, 571, 0, 0, 0, 0, 0, 0, 0, 0, 0, 0, 0, 0, 0, 0]
def po_58 : List Nat := [0, 0, 0, 0, 0, 0, 0, 0, 477, 399, 0, 0, 0, 0, 0, 0, 0, 0, 477, 385, 0, 0, 0, 477, 385, 0, 0, 583, 0, 0, 0, 0, 0, 0, 0, 0, 0, 0]
def po_59 : List Nat := [0, 329, 0, 329, 0, 0, 335, 0, 340, 0, 0, 335, 0, 340, 0, 0, 0, 0, 0, 0, 0]
def po_60 : List Nat := [0, 477, 385, 0, 0, 0, 0, 477, 0, 0, 1424, 0, 0, 0, 335, 0, 477, 412, 0, 0, 335, 0, 0, 0, 477, 412, 0, 0, 0, 0, 0, 0, 0, 0, 340, 0, 0, 477, 0, 477, 405, 0, 1425, 0, 329, 0, 0, 0, 477, 0, 0, 0, 1426, 0, 0, 0, 0, 0, 0, 0, 0]
def po_61 : List Nat := [0, 477, 1438, 0, 0, 0, 0, 0, 0, 0, 477, 399, 0, 0, 479, 0, 0, 477, 0, 0, 1424, 0, 0, 480, 0, 0, 0, 1439, 0, 0, 0, 0, 0, 0, 0, 1440, 0, 0, 0, 0, 0, 0, 0, 0, 0, 0, 0, 0, 0, 0, 0, 477, 399, 0, 0, 0, 0, 0, 0, 0, 0, 1441, 0, 477, 381, 0, 0, 304, 0, 0, 0, 1445, 0, 0, 0, 0, 0, 0, 1445, 0, 0, 0, 0, 0, 0]
def po_62 : List Nat := [0, 0, 0, 0, 0, 0, 0, 477, 399, 0, 0, 0, 1439, 0, 0, 0, 479, 0, 0, 0, 0, 0, 0, 0, 0, 0]
def po_63 : List Nat := [0, 0, 0, 0, 0, 0, 0, 477, 399, 0, 0, 0, 1439, 0, 0, 0, 480, 0, 0, 0, 0, 0, 0, 0, 0, 0]
def po_64 : List Nat := [0, 0, 0, 0, 0, 0, 0, 0, 0, 0, 0, 0, 0, 1465, 0, 0, 0, 1465, 0, 0, 0, 0, 0, 0, 0, 0, 0, 0, 0, 0, 0, 0, 0, 0, 0, 0, 0, 0, 0, 0, 0]
def po_65 : List Nat := [0, 169, 0, 477, 396, 0, 0, 0, 0, 0, 0, 0, 0, 0, 477, 396, 0, 0, 165, 0, 0, 0, 0, 0, 0, 0, 483, 0, 0, 165, 0, 0, 0, 0, 0, 0, 0, 0]
def po_66 : List Nat := [0, 0, 477, 396, 0, 0, 0, 0, 0, 484, 0, 0, 0, 0, 0, 0, 0, 0, 0, 0, 0, 0, 1486, 0, 0, 0, 0, 0, 0, 0, 0, 0, 477, 396, 0, 0, 0, 1439, 0, 0, 0, 0, 0, 1487, 0, 0, 0, 0, 0, 0, 1487, 0, 0, 0, 0, 0, 0, 484, 0, 0, 0, 0, 0, 0, 0]
def po_67 : List Nat := [0, 477, 381, 0, 0, 0, 483, 0, 0, 1465, 0, 484, 0, 0, 0, 0, 0, 0, 0, 0]
def po_68 : List Nat := [0, 484, 0, 0, 0]
def po_69 : List Nat := [0, 0, 0, 0, 0, 0, 0, 0, 0, 0, 0, 0, 0, 1499, 0, 0, 0, 0, 0, 0, 0, 0, 0, 0, 0, 0, 0, 0, 0, 0, 0]
def po_70 : List Nat := [0, 0, 0, 0, 0, 477, 396, 0, 0, 0, 1439, 0, 0, 0, 0, 0, 1487, 0, 484, 0, 0, 0, 0, 0, 0, 0, 0, 0, 0]
def po_71 : List Nat := [0, 0, 0, 0, 0, 0, 0, 0, 0, 0, 477, 396, 0, 0, 477, 381, 0, 0, 0, 1465, 0, 0, 0, 0, 0, 0, 0, 0, 0, 0, 0, 0, 0, 0]
def po_72 : List Nat := [0, 481, 0, 0, 478, 0, 477, 385, 0, 0, 1598, 0, 0, 481, 0, 0, 478, 0, 477, 385, 0, 0, 1598, 0, 0, 482, 0, 0, 477, 0, 0, 1424, 0, 0, 482, 0, 0, 477, 0, 0, 1424, 0, 0, 482, 0, 0, 477, 0, 0, 1424, 0, 0, 482, 0, 0, 477, 0, 0, 1424, 0, 0, 0, 0, 0, 0, 0, 0, 0, 0, 0, 0, 0, 0, 0, 0, 0, 0, 0, 0, 0, 0, 1599, 0, 0, 0, 0, 0, 1599, 0, 0, 0, 0, 0, 0, 0, 0, 0, 0, 0, 0, 0]
def po_73 : List Nat := [0, 0, 0, 0, 1603, 0, 0, 0, 0, 0, 0, 1603, 0, 0, 0, 0, 0, 0, 0]
def po_74 : List Nat := [0, 0, 0, 0, 481, 0, 0, 0, 0, 0, 0, 0, 481, 0, 0, 0, 0, 0, 0, 482, 0, 0, 0, 0, 0, 0, 0, 0]
def po_75 : List Nat := [0, 201, 0, 0, 202, 204, 0, 0, 0, 205, 0, 0, 0, 206, 0, 0, 0, 207, 0, 0, 203, 0]
def po_76 : List Nat := [0, 203, 725, 729, 0, 0, 0, 0, 0, 0, 0, 0, 0, 0, 0, 0, 730, 0, 0, 0, 0, 203, 725, 729, 0, 0, 0, 0, 203, 802, 740, 0, 0, 0, 0, 0, 0, 0, 0]
def po_77 : List Nat := [0, 203, 725, 0, 0, 734, 0, 0, 391, 0, 0, 0, 0, 736, 0, 0, 0, 0, 0, 0, 0, 0, 766, 0, 0, 395, 0, 0, 0, 0, 768, 0, 0, 0, 0, 0, 0, 0, 0, 776, 0, 0, 400, 0, 0, 0, 0, 778, 0, 0, 0, 0, 0, 0, 0, 0, 0, 203, 784, 740, 0, 0, 0, 786, 0, 0, 0, 203, 790, 740, 0, 0, 0, 792, 0, 0, 0, 203, 796, 740, 0, 0, 0, 798, 0, 0, 0, 0, 0, 0, 0]
def po_78 : List Nat := [0, 377, 0, 391, 0, 0, 0, 203, 734, 740, 0, 0, 203, 0, 0, 744, 0, 0, 0, 0, 0, 0, 203, 176, 257, 0, 203, 748, 740, 0, 0, 203, 0, 257, 0, 744, 0, 0, 0, 0, 0, 0, 203, 176, 260, 0, 203, 750, 740, 0, 0, 203, 0, 0, 744, 0, 0, 0, 0, 0, 0, 203, 176, 263, 0, 203, 748, 740, 0, 0, 203, 0, 263, 0, 744, 0, 0, 0, 0, 0, 0, 203, 176, 267, 0, 0, 280, 0, 0, 752, 0, 0, 0, 760, 0, 0, 0, 0, 0, 0, 0, 391, 0, 0, 391, 0, 0]
def po_79 : List Nat := [0, 0, 271, 0, 203, 756, 740, 0, 0, 0, 0, 203, 758, 740, 0, 0, 0, 0, 203, 0, 0, 744, 0, 0, 0, 0, 0, 0, 0, 203, 176, 0, 0, 0, 203, 176, 0, 0, 271, 0, 0]
def po_80 : List Nat := [0, 0, 274, 0, 203, 764, 740, 0, 0, 0, 0, 203, 0, 0, 744, 0, 0, 0, 0, 0, 203, 176, 274, 0, 0]
def po_81 : List Nat := [0, 382, 0, 395, 0, 0, 0, 203, 766, 740, 0, 0, 203, 0, 0, 744, 0, 0, 0, 0, 0, 0, 203, 176, 305, 0, 203, 772, 740, 0, 0, 203, 0, 0, 744, 0, 0, 0, 0, 0, 0, 203, 176, 309, 0, 203, 774, 740, 0, 0, 203, 0, 0, 744, 0, 0, 0, 0, 0, 0, 203, 176, 313, 0, 0, 395, 0, 0, 395, 0, 0]
def po_82 : List Nat := [0, 386, 0, 400, 0, 0, 0, 203, 776, 740, 0, 0, 203, 0, 0, 744, 0, 0, 0, 0, 0, 0, 203, 176, 330, 0, 203, 750, 740, 0, 0, 203, 0, 0, 744, 0, 0, 0, 0, 0, 0, 203, 176, 336, 0, 203, 748, 740, 0, 0, 203, 0, 336, 0, 744, 0, 0, 0, 0, 0, 0, 203, 176, 341, 0, 203, 782, 740, 0, 0, 203, 0, 0, 744, 0, 0, 0, 0, 0, 0, 203, 176, 347, 0, 0, 351, 0, 0, 354, 0, 0, 358, 0, 0, 400, 0, 0, 400, 0, 0]
def po_83 : List Nat := [0, 203, 0, 0, 744, 0, 0, 0, 0, 0, 203, 176, 407, 0, 0]
def po_84 : List Nat := [0, 203, 0, 0, 744, 0, 0, 0, 0, 0, 203, 176, 410, 0, 0]
def po_85 : List Nat := [0, 203, 0, 0, 744, 0, 0, 0, 0, 0, 203, 176, 414, 0, 0]
def po_86 : List Nat := [0, 0, 208, 0, 203, 725, 729, 0, 909, 0, 0, 0, 204, 0, 205, 0, 206, 0, 207, 911, 0, 0, 0, 0, 0, 0, 0, 0, 0, 0, 937, 0, 0, 0, 0, 203, 725, 729, 0, 909, 0, 0, 0, 0, 0, 204, 0, 205, 0, 206, 0, 207, 911, 0, 0, 203, 802, 740, 0, 0, 0, 0, 0, 0, 0, 0]
def po_87 : List Nat := [0, 203, 725, 0, 0, 941, 0, 0, 943, 0, 0, 945, 0, 0, 0, 0, 203, 0, 740, 0, 0, 203, 0, 0, 744, 0, 0, 0, 0, 0, 204, 0, 0, 0, 0, 205, 0, 0, 203, 176, 0, 0, 203, 947, 740, 0, 0, 0, 949, 0, 0, 0, 0, 0, 206, 0, 0, 208, 0, 0, 0]
def po_88 : List Nat := [0, 0, 0, 0, 0, 0, 0, 0, 953, 0, 0, 0, 0, 0, 0, 987, 2369, 967, 0, 203, 987, 740, 0, 0, 0, 0, 0, 0, 0, 0]
def po_89 : List Nat := [0, 0, 0, 0, 0, 0, 0, 0, 957, 0, 0, 0, 0, 0, 0, 985, 2369, 967, 0, 203, 985, 740, 0, 0, 0, 0, 0, 0, 0, 0]
def po_90 : List Nat := [0, 203, 725, 0, 0, 961, 0, 0, 963, 0, 0, 0, 0, 0, 0, 203, 0, 740, 0, 0, 0, 0, 0, 0, 963, 0, 0, 0, 0, 0, 949, 0, 0, 203, 965, 740, 0, 0, 0, 0, 0, 0, 0, 0, 0, 0, 0, 0, 957, 0, 0, 0, 0, 0, 961, 2369, 967, 0, 0, 0, 0, 971, 0, 0, 973, 0, 0, 0, 0, 2369, 967, 0, 203, 0, 740, 0, 0, 0, 975, 0, 0, 0, 0, 0, 203, 725, 0, 0, 981, 0, 0, 983, 0, 0, 0, 0, 0, 203, 0, 740, 0, 0, 975, 0, 0, 0, 0, 0, 0, 0, 2369, 967, 0, 0]
def po_91 : List Nat := [0, 208, 0, 207, 0, 0, 0, 207, 0, 208, 0, 0, 0, 0, 208, 0, 0, 208, 0, 0]
def po_92 : List Nat := [0, 0, 0, 0, 0, 0, 0, 0, 203, 725, 0, 0, 203, 0, 0, 744, 0, 0, 0, 203, 176, 967, 0, 0, 2369, 0, 0, 0, 2369, 971, 2369, 0, 0, 203, 0, 740, 0, 0, 0, 2369, 967, 0, 0, 0, 0, 0, 0, 0, 0, 979, 2369, 967, 0, 0, 203, 979, 740, 0, 0, 0, 0, 0, 0, 0, 0, 0]
def po_93 : List Nat := [0, 255, 0]
def po_94 : List Nat := [0, 0, 256, 256, 0, 0, 259, 259, 0, 0, 262, 262, 0, 0, 266, 266, 0, 0, 270, 270, 0, 0, 273, 273, 0, 0, 278, 278, 0]
def po_95 : List Nat := [0, 0, 262, 0, 0, 0, 266, 0, 0, 0, 0, 0, 0, 270, 0, 0, 262, 0, 0, 0, 0, 0, 0, 256, 0, 0, 0, 0, 0, 0, 0, 256, 0, 0, 0, 0, 0, 259, 0, 0, 0, 0, 0, 0, 0, 0, 259, 0, 0, 0, 0, 0, 0, 0, 0, 0, 0, 0, 0, 0, 0, 0, 0, 0, 0]
def po_96 : List Nat := [0, 161, 0, 0, 0, 164, 0, 0, 162, 171, 0, 0, 0, 172, 0, 0, 0, 173, 0]
def po_97 : List Nat := [0, 0, 0, 0, 0, 0, 168, 0, 164, 0, 0, 0, 164, 0, 168, 0, 0, 0, 0, 0, 0, 0, 0, 168, 0, 0, 168, 0, 0, 0, 0]
def po_98 : List Nat := [0, 0, 174, 0, 0, 175, 0, 0, 0, 0, 0, 0, 0, 0, 168, 0, 0, 164, 0, 0, 654, 0, 0, 0, 0, 0, 0, 0, 0, 0, 0, 0, 173, 0, 174, 0, 0, 0, 0, 0, 0, 0, 0, 0, 0, 0, 0, 0, 172, 0, 174, 0, 0, 0, 173, 0, 174, 0, 0, 0, 0, 174, 0, 0, 174, 0, 0, 0, 0, 0, 0, 0, 0, 0, 0, 0, 0, 174, 0, 0, 171, 0, 0, 0, 172, 0, 0, 0, 173, 0, 0, 657, 0, 0, 0, 0, 0, 171, 0, 174, 719, 0, 0, 172, 0, 174, 0, 168, 0, 0]
def po_99 : List Nat := [0, 0, 0, 0, 0, 0, 0, 0, 0, 0, 0, 0, 0, 0, 0, 0, 0, 0, 0, 0, 0, 0, 0, 0, 0]
def po_100 : List Nat := [0, 164, 0, 0, 654, 0, 0, 0, 0, 0, 661, 0, 0, 663, 0, 0, 0, 0, 0, 0, 0, 665, 0, 0, 0, 665, 0, 0, 2366, 0, 0, 667, 0, 665, 0, 0, 0, 0, 0, 0, 663, 0]
def po_101 : List Nat := [0, 671, 0, 0, 0, 0, 0, 0, 0, 0, 0, 0, 0, 0, 0, 681, 0, 164, 0, 0, 0, 0, 0, 0, 0, 0, 0, 0, 0, 0]
def po_102 : List Nat := [0, 171, 0, 175, 0, 0]
def po_103 : List Nat := [0, 171, 0, 175, 0, 0, 0, 0, 175, 0, 174, 0, 0, 0, 0, 0, 0, 0, 175, 0, 0, 175, 0, 0]
def po_104 : List Nat := [0, 171, 0, 175, 0, 661, 0, 0, 0, 0, 0, 0, 0, 0, 0, 0, 0, 173, 0, 175, 0, 0, 0, 0, 0, 0, 164, 0, 172, 0, 175, 0, 0, 0, 0, 0, 0, 0, 0, 0, 0, 0, 0, 0, 0, 0, 0, 0, 0, 0, 0, 0, 0, 0, 177, 0, 0, 175, 0, 0, 175, 0, 0]
def po_105 : List Nat := [0, 172, 0, 175, 0, 0]
def po_106 : List Nat := [0, 153, 0, 156, 0, 158, 502, 0, 196, 0, 0, 502, 198, 503, 0, 222, 0, 224, 504, 0, 222, 0, 224, 505, 0, 222, 0, 224, 506, 0, 0, 222, 507, 0, 452, 0, 0, 504, 454, 508, 0, 471, 0, 0, 504, 0, 508, 473, 509, 0, 0, 513, 0, 0, 0, 0, 0, 507, 0, 0, 0, 507, 0, 222, 0, 224, 0, 0, 0, 0, 0]
def po_107 : List Nat := [0, 502, 167, 0, 0, 0, 0, 0, 0, 0, 502, 0, 543, 0, 502, 0, 543, 0, 502, 0, 543, 0, 502, 0, 543, 0, 502, 0, 543, 0, 502, 167, 0]
def po_108 : List Nat := [0, 0, 0, 0, 502, 167, 0, 0, 0, 0, 0, 502, 0, 167, 0, 0]
def po_109 : List Nat := [0, 513, 0]
def po_110 : List Nat := [0, 508, 559, 0]
def po_111 : List Nat := [0, 509, 567, 0]
def po_112 : List Nat := [0, 509, 579, 0]
def po_113 : List Nat := [0, 504, 418, 0, 0, 504, 0, 418, 0, 0]
def po_114 : List Nat := [0, 512, 0, 0, 0, 0, 0, 512, 0, 0, 512, 0, 504, 0, 507, 0, 511, 0, 512, 0, 0, 0, 0, 594, 0, 0]
def po_115 : List Nat := [0, 506, 0, 504, 594, 0, 0, 510, 0]
def po_116 : List Nat := [0, 510, 0, 0, 0, 0, 504, 0, 506, 594, 0, 625, 0, 0]
def po_117 : List Nat := [0, 0, 511, 0, 0, 512, 0]
def po_118 : List Nat := [0, 0, 0, 0, 504, 393, 0, 0, 0, 504, 397, 0, 0, 0, 504, 401, 0, 0, 0, 504, 403, 0, 0, 0, 504, 420, 0, 0, 0, 0, 0, 504, 420, 918, 0, 0, 0, 0, 504, 416, 0, 0, 0, 504, 408, 0, 0, 0, 504, 411, 0, 0, 0, 504, 633, 0, 0, 0, 504, 637, 0, 0, 0, 504, 389, 241, 0, 0, 0, 512, 0, 0, 0, 0]
def po_119 : List Nat := [0, 505, 0, 504, 594, 0, 502, 650, 0, 503, 0, 505, 721, 0, 0, 0, 804, 0, 0, 812, 0, 0, 504, 403, 0, 0, 882, 0, 0, 505, 0, 403, 0, 0, 403, 0, 504, 0, 505, 594, 0, 625, 0, 504, 403, 0]
def po_120 : List Nat := [0, 0, 0, 0, 0, 0, 0, 502, 808, 0, 513, 0, 502, 0, 167, 0]
def po_121 : List Nat := [0, 502, 650, 0, 503, 905, 0, 0, 0, 0, 0, 0, 0, 804, 0, 0, 812, 0, 504, 0, 420, 0, 625, 0, 918, 0]
def po_122 : List Nat := [0, 0, 999, 0, 504, 378, 0, 0, 0, 0, 0, 0, 0, 258, 0, 0, 0, 261, 0, 0, 0, 264, 0, 0, 0, 268, 0, 0, 0, 272, 0, 0, 0, 0, 0, 275, 0, 0, 0, 281, 0, 0, 1019]
def po_123 : List Nat := [0, 0, 0, 0, 504, 393, 0, 0, 1003, 0, 0]
def po_124 : List Nat := [0, 0, 1042, 0, 504, 383, 0, 0, 0, 0, 0, 0, 0, 307, 0, 0, 0, 310, 0, 0, 0, 314, 0, 0, 0, 504, 0, 1047, 0, 0, 0, 504, 0, 1110, 0, 0, 0, 504, 0, 1114, 0, 0, 1019]
def po_125 : List Nat := [0, 0, 0, 0, 504, 397, 0, 0, 1003, 0, 0]
def po_126 : List Nat := [0, 1059, 0, 0, 0, 0, 0, 0, 0, 0, 0, 0, 0, 0, 0, 0, 0, 0, 0]
def po_127 : List Nat := [0, 0, 0, 0, 0, 0, 0, 0, 0, 0, 0, 0, 0, 0, 0]
def po_128 : List Nat := [0, 0, 0, 0, 0, 0, 0, 0, 0, 0, 0, 0]
def po_129 : List Nat := [0, 0, 1123, 0, 504, 387, 0, 0, 0, 0, 0, 0, 0, 332, 0, 0, 0, 337, 0, 0, 0, 342, 0, 0, 0, 348, 0, 0, 0, 352, 0, 0, 0, 355, 0, 0, 0, 359, 0, 0, 0, 0, 0, 0, 0, 0, 1019]
def po_130 : List Nat := [0, 0, 0, 0, 504, 401, 0, 0, 1003, 0, 0]
def po_131 : List Nat := [0, 0, 1042, 0, 0, 1123, 0, 504, 0, 0, 1136, 0]
def po_132 : List Nat := [0, 0, 1042, 0, 0, 1123, 0, 1148, 0, 504, 0, 0, 0, 1155, 0]
def po_133 : List Nat := [0, 0, 0, 1151, 0]
def po_134 : List Nat := [0, 0, 0, 0, 0, 0, 0, 812, 0, 0]
def po_135 : List Nat := [0, 0, 1042, 0, 0, 1123, 0, 504, 387, 0, 0, 0, 0, 504, 383, 0, 0, 0, 0, 504, 0, 0, 1136, 0, 0, 352, 0, 0, 0, 307, 0, 0, 0, 1168, 0, 0, 1184, 0, 0, 307, 0, 0, 307, 0, 0, 352, 0, 0, 355, 0, 0, 359, 0, 307, 0]
def po_136 : List Nat := [0, 507, 0, 511, 0, 512, 0, 0, 0, 0, 0, 504, 594, 0, 512, 0, 0, 0, 0, 512, 0, 0, 512, 0, 0, 0, 511, 0, 0, 0, 0, 511, 0, 0]
def po_137 : List Nat := [0, 0, 1123, 0, 0, 1042, 0, 504, 387, 0, 0, 0, 0, 352, 0, 0, 812, 0, 0, 504, 0, 1196, 0, 0, 504, 383, 0, 0, 0, 0, 504, 0, 0, 1136, 0, 0, 0, 0, 307, 0, 0, 0, 1168, 0, 0, 1184, 0, 0, 307, 0, 0, 307, 0, 0, 1201, 0, 0, 352, 0, 0]
def po_138 : List Nat := [0, 0, 1042, 0, 1212, 0, 504, 383, 0, 0, 0, 0, 310, 0, 1216, 0, 0, 0, 504, 0, 1047, 0, 812, 0, 0, 1184, 0, 0, 310, 0, 0]
def po_139 : List Nat := [0, 0, 0, 0, 0, 0, 1003, 0, 0]
def po_140 : List Nat := [0, 0, 0, 0, 0, 0, 0, 0, 0, 0, 0, 0]
def po_141 : List Nat := [0, 0, 999, 0, 0, 0, 0, 0, 0, 812, 0, 0, 1184, 0, 504, 378, 0, 0, 281, 0, 0, 504, 378, 0, 0, 0, 281, 0, 0]
def po_142 : List Nat := [0, 1212, 0, 1184, 0, 504, 408, 0, 0, 504, 0, 408, 0, 0]
def po_143 : List Nat := [0, 0, 1123, 0, 504, 387, 0, 0, 0, 0, 504, 0, 1196, 0, 0, 0, 0, 359, 0, 0, 307, 0, 504, 411, 0, 0, 1168, 0, 0, 1184, 0, 0, 307, 0, 504, 411, 0, 307, 0, 0, 359, 0, 307, 0]
def po_144 : List Nat := [0, 0, 0, 1151, 0, 1184, 0, 504, 0, 0, 1250, 0]
def po_145 : List Nat := [0, 1270, 0, 0, 0, 0, 0, 0, 0, 0, 0, 0, 0, 0, 0, 0, 0, 0, 0, 0, 0, 0, 0, 0, 0, 0, 0, 0, 0, 0, 0, 0, 0, 0, 0]
def po_146 : List Nat := [0, 1148, 0, 1059, 0]
def po_147 : List Nat := [0, 1148, 0, 1270, 0]
def po_148 : List Nat := [0, 1212, 0, 1148, 0, 0, 1299, 0]
def po_149 : List Nat := [0, 1212, 0, 1148, 0, 504, 0, 0, 1307, 0, 0, 0, 0, 0, 0, 0, 0]
def po_150 : List Nat := [0, 1212, 0, 1148, 0, 504, 0, 0, 1315, 0]
def po_151 : List Nat := [0, 1212, 0, 1148, 0, 508, 0, 0, 1323, 0]
def po_152 : List Nat := [0, 1212, 0, 1148, 0, 0, 0, 1151, 0, 508, 0, 0, 0, 1335, 0]
def po_153 : List Nat := [0, 1148, 0, 0, 0, 1151, 0, 508, 0, 0, 1346, 0]
def po_154 : List Nat := [0, 1212, 0, 1148, 0, 508, 0, 0, 1365, 0]
def po_155 : List Nat := [0, 1212, 0, 1148, 0, 0, 0, 1151, 0, 508, 0, 0, 0, 1376, 0]
def po_156 : List Nat := [0, 1212, 0, 1148, 0, 508, 0, 0, 1393, 0]
def po_157 : List Nat := [0, 0, 1123, 0, 508, 0, 504, 387, 0, 0, 1408, 0]
def po_158 : List Nat := [0, 0, 1042, 0, 0, 1123, 0, 509, 0, 0, 1420, 0]
def po_159 : List Nat := [0, 0, 1042, 0, 509, 0, 1434, 0, 0, 0, 0, 509, 0, 1449, 0, 0, 0, 0, 0]
def po_160 : List Nat := [0, 0, 1042, 0, 0, 1042, 0, 0, 1457, 0, 509, 0, 504, 383, 0, 0, 0, 504, 383, 0, 0, 1461, 0]
def po_161 : List Nat := [0, 0, 0, 812, 0, 0]
def po_162 : List Nat := [0, 509, 0, 502, 1477, 0, 0, 502, 0, 167, 0, 0, 0, 0, 0, 1042, 0, 0, 812, 0, 0, 509, 1482, 0, 0, 0, 0, 509, 1491, 0, 0, 0, 509, 0, 1495, 0, 0]
def po_163 : List Nat := [0, 1212, 0, 509, 0, 1510, 0]
def po_164 : List Nat := [0, 0, 1521, 0, 0, 0, 508, 0, 1530, 0, 0, 0, 508, 0, 1542, 0, 0]
def po_165 : List Nat := [0, 508, 0, 502, 1525, 0, 0, 502, 0, 167, 0, 0, 812, 0, 0, 1148, 0]
def po_166 : List Nat := [0, 0, 1521, 0, 508, 0, 1553, 0]
def po_167 : List Nat := [0, 1148, 0, 508, 0, 1572, 0]
def po_168 : List Nat := [0, 1212, 0, 1212, 0, 0, 1457, 0, 1148, 0, 0, 0, 1151, 0, 508, 0, 0, 0, 0, 1583, 0]
def po_169 : List Nat := [0, 0, 1042, 0, 0, 1042, 0, 0, 1123, 0, 0, 1123, 0, 0, 1457, 0, 0, 1457, 0, 509, 0, 0, 0, 0, 1594, 0]
def po_170 : List Nat := [0, 0, 0, 1151, 0, 1148, 0, 508, 0, 0, 0, 1614, 0]
def po_171 : List Nat := [0, 0, 1042, 0, 0, 0, 1151, 0, 505, 0, 504, 594, 0, 505, 0, 0, 1250, 0, 0, 505, 383, 0, 0, 307, 0]
def po_172 : List Nat := [0, 0, 0, 1151, 0, 0, 0, 504, 418, 1632, 0, 0, 0, 0, 505, 633, 0, 0, 0, 0, 0]
def po_173 : List Nat := [0, 505, 0, 504, 594, 0, 505, 0, 418, 0, 505, 0, 0, 1250, 0]
def po_174 : List Nat := [0, 0, 0, 1151, 0, 0, 0, 1632, 0, 0, 0, 0, 0, 0, 0, 0, 0, 0, 0, 1632, 0, 0, 0, 0, 0, 0, 0, 0, 0, 0, 0, 0, 0, 0, 0, 0, 0, 0, 0]
def po_175 : List Nat := [0, 1212, 0, 0, 0, 504, 389, 0, 1650, 0, 0, 0, 504, 389, 0, 1658, 0, 0]
def po_176 : List Nat := [0, 0, 0, 0, 0, 0, 1019, 0, 504, 389, 0, 0, 1670, 0]
def po_177 : List Nat := [0, 1681, 0]
def po_178 : List Nat := [0, 1680, 0, 0, 0, 1682, 0, 0, 0, 1683, 0, 0, 0, 1684, 0, 0, 0, 1685, 0, 0, 0, 1686, 0, 0, 0, 1689, 0, 0, 1695, 0, 0, 0, 1696, 0, 0, 0, 1698, 0, 0, 0, 1702, 0, 0, 0, 1703, 0, 0, 0, 1704, 0, 1682, 0, 0, 0, 0, 1682, 0, 0, 0, 0, 1682, 0, 0, 0, 0]
def po_179 : List Nat := [0, 0, 1681, 0, 0, 0, 0, 0, 0, 0, 1683, 0, 0, 1682, 0, 0, 0, 0, 0, 0, 0, 0, 1687, 0]
def po_180 : List Nat := [0, 0, 1681, 0, 1687, 0, 0, 0, 0, 0, 0, 0, 0, 0, 0, 0, 1682, 0, 0, 1683, 0, 0, 0, 0, 0, 0, 0, 0, 1688, 0, 0]
def po_181 : List Nat := [0, 0, 1681, 0, 1688, 0, 0, 0, 0, 0, 0, 1688, 0, 0, 1688, 0, 0, 0, 0, 0, 0, 0, 1682, 0, 0, 1686, 0, 0, 1688, 0, 0, 0, 0, 0, 0, 0, 0, 0, 0]
def po_182 : List Nat := [0, 0, 1681, 0, 1690, 0, 0, 0, 0, 0, 0, 0, 0, 1696, 0, 0, 0, 0, 1696, 0, 0, 0, 0, 1696, 0, 0, 0, 0, 1696, 0, 0, 0, 0, 1696, 0, 0, 0, 0, 0, 0, 0, 0, 0, 0, 0, 1689, 0, 1690, 0, 0, 0, 1696, 0, 0, 0, 0, 0, 0, 0, 0, 0, 0, 0, 0, 0, 0, 0, 0, 0, 0, 0, 1690, 0, 0, 1690, 0, 1690, 0]
def po_183 : List Nat := [0, 0, 1681, 0, 0, 0, 0, 1690, 0, 0, 0, 0, 0, 0, 1690, 0, 0]
def po_184 : List Nat := [0, 0, 1681, 0, 1695, 0]
def po_185 : List Nat := [0, 0, 0, 0, 0, 0, 0, 0, 1684, 0, 0, 1682, 0, 0, 0, 0, 0, 0, 0, 0, 1782, 0, 0, 0, 0, 0, 1693, 0, 0, 0, 0, 1695, 0, 0, 0, 0, 0, 0, 0, 0, 0, 1931, 0, 0, 0, 1682, 0, 0, 0, 0, 0, 0, 0, 0, 0, 0, 1931, 0, 0, 0, 0, 0, 0, 0, 0, 0, 0, 1682, 0, 0, 1684, 0, 0, 0, 0, 0, 0, 0, 0, 0, 0, 1682, 0, 0, 0, 0, 0, 0, 0, 0, 1688, 0, 1682, 0, 0, 0]
def po_186 : List Nat := [0, 1786, 0, 0, 1697, 0, 1790, 0, 1691, 0, 1692, 0, 0, 0, 0, 0, 0, 0, 0, 0, 0, 1798, 0, 0, 0, 0, 1790, 0, 1691, 0, 1692, 0, 0, 0, 0, 0, 0, 0, 0, 1794, 0, 0, 0, 0, 0, 1691, 0, 0, 1691, 0, 0]
def po_187 : List Nat := [0, 0, 1681, 0, 0, 1690, 1692, 0, 0, 1690, 0, 0, 1691, 0]
def po_188 : List Nat := [0, 0, 0, 0, 1794, 0, 0, 0, 1691, 0, 0, 1691, 0, 0, 0, 1691, 1693, 0]
def po_189 : List Nat := [0, 1691, 0, 1692, 0, 0, 1689, 0, 1691, 0, 0, 0, 0, 1689, 0, 1691, 0, 0, 0, 0, 0, 0, 0, 0, 0]
def po_190 : List Nat := [0, 1802, 0, 0, 0, 0, 0, 0, 0, 0, 0, 0, 1806, 0, 0, 0, 0, 0, 1880, 0, 0, 0, 0, 0, 0, 0, 0]
def po_191 : List Nat := [0, 1790, 0, 0, 0, 0, 1794, 0, 0, 0, 1691, 0, 0, 1691, 0, 0, 0]
def po_192 : List Nat := [0, 1810, 1811, 0, 0, 1817, 0, 0, 1846, 1811, 0, 0, 1847, 0, 0, 1860, 1811, 0, 0, 1861, 0, 0, 1873, 1811, 0, 0, 0, 0, 0, 1874, 0, 0, 1878, 1811, 0, 0, 0, 0, 0, 1874, 0, 0, 1879, 1811, 0, 0, 0, 0, 0, 1874, 0, 0, 0, 0, 0, 0, 0]
def po_193 : List Nat := [0, 1691, 0, 1693, 0, 0, 1815, 0, 0, 0, 0, 0, 0, 0, 0, 0, 0, 0, 0, 0, 0, 1815, 0, 0, 1689, 0, 1693, 0, 0, 0, 0, 0, 1816, 0, 0, 0, 0, 0, 0, 0, 0, 0, 0, 0, 0]
def po_194 : List Nat := [0, 1821, 0, 0, 0, 0, 0, 0, 0, 0, 0, 0, 0, 0, 0, 0, 0, 0, 0, 0, 0, 0, 1825, 0, 1829, 0, 0, 0, 0, 0, 0, 1838, 0, 0, 1834, 0, 1829, 0, 0, 0, 0, 0, 0, 0, 0, 1839, 1840, 0, 0, 0, 0, 1825, 0, 0, 0, 0, 0, 0, 0, 1844, 1840, 0, 0, 0, 0, 1825, 0, 0, 0, 0, 0, 0, 0, 0, 0, 0, 0, 1845, 1840, 0, 0, 0, 0, 1825, 0, 0, 0, 0, 0, 0, 0, 0, 0, 0, 0, 1682, 0, 0, 0, 0, 0, 0, 1682, 0, 0, 0, 0, 0, 0, 1682, 0, 0, 0, 0, 0, 0, 1682, 0, 0, 0, 0, 0, 0, 0, 0]
def po_195 : List Nat := [0, 1682, 0, 0, 0]
def po_196 : List Nat := [0, 1790, 0, 0, 0, 0, 0, 0, 1794, 0, 0, 1691, 0, 1693, 0, 0, 0, 0, 0, 0, 0, 1689, 0, 1691, 0, 0, 0, 0, 0, 0, 0, 0, 0, 0, 1691, 0, 0, 1691, 0, 0, 1691, 0, 1693, 0, 0, 1691, 0, 1693, 0, 0, 0, 0, 0, 0, 0, 0, 0, 0, 0, 0, 0, 0, 0, 0]
def po_197 : List Nat := [0, 0, 0, 0, 0, 0, 1833, 0, 0, 1834, 0, 0, 0, 1682, 0, 0, 0, 0, 1682, 0, 0, 0, 0, 0, 0, 0, 0, 0, 0, 0, 0, 0]
def po_198 : List Nat := [0, 1802, 0, 0, 1811, 0, 0, 0, 0, 1825, 0, 0, 0, 0, 0]
def po_199 : List Nat := [0, 1802, 0, 0, 1811, 0, 0, 0, 0, 0, 0, 1693, 1691, 0, 0]
def po_200 : List Nat := [0, 1851, 0, 0, 0, 0, 0, 0, 0, 0, 0, 0, 1825, 0, 0, 0, 0, 0, 0, 0, 1855, 0, 0, 1834, 0, 0, 0, 0, 0, 0, 0, 0, 1856, 0, 0, 1834, 0, 0, 0, 0, 0, 0, 0, 1682, 0, 0, 1857, 0, 0, 0, 1682, 0, 0, 1857, 0, 0, 0, 1682, 0, 0, 1857, 0, 0, 0, 1682, 0, 0, 0, 0, 0, 0, 0, 0]
def po_201 : List Nat := [0, 1682, 0, 0, 0]
def po_202 : List Nat := [0, 0, 0, 0, 0, 0, 0, 0]
def po_203 : List Nat := [0, 1865, 0, 0, 0, 0, 0, 0, 0, 0, 0, 0, 1825, 0, 0, 0, 0, 0, 0, 1869, 0, 1838, 0, 0, 1834, 0, 1829, 0, 0, 0, 0, 0, 0, 1872, 0, 0, 1834, 0, 0, 0, 0, 0, 0, 1682, 0, 0, 1869, 0, 0, 0, 1682, 0, 0, 1869, 0, 0, 0, 1682, 0, 0, 1869, 0, 0, 0, 1682, 0, 0, 1869, 0, 0, 0, 1682, 0, 0, 1869, 0, 0, 0, 1682, 0, 0, 0, 0, 0, 0, 0, 0]
def po_204 : List Nat := [0, 1682, 0, 0, 0]
def po_205 : List Nat := [0, 0, 0, 0, 0, 0, 0, 0]
def po_206 : List Nat := [0, 0, 0, 1825, 0, 0, 1682, 0, 0, 0, 0, 1682, 0, 0, 0, 0, 0, 0, 0, 0, 0, 0, 0, 0, 0, 0, 0]
def po_207 : List Nat := [0, 0, 0, 0, 0, 0, 0, 1682, 0, 0, 1884, 1811, 0, 0, 0, 0, 0, 1885, 1811, 0, 0, 0, 0, 0, 1886, 1811, 0, 0, 0, 0, 0, 0, 0, 0, 1682, 0, 0, 0, 0, 0, 0, 0, 1682, 0, 0, 0, 0, 0, 0, 1825, 0, 0, 1682, 0, 0, 0, 0, 0, 0, 0, 0, 0, 1682, 0, 0, 0, 0, 1697, 0, 0, 0, 1694, 0, 1887, 1840, 0, 0, 1888, 0, 0, 0, 0, 0, 1682, 0, 0, 0, 0, 1697, 0, 0, 0]
def po_208 : List Nat := [0, 1892, 0, 0, 0, 0, 1930, 1840, 0, 0, 1892, 0, 0, 0, 0, 0, 0, 1905, 0, 0, 0, 0]
def po_209 : List Nat := [0, 1896, 0, 0, 0, 0, 1929, 1840, 0, 0, 1896, 0, 0, 0, 0, 0, 0, 1905, 0, 0, 0, 0]
def po_210 : List Nat := [0, 0, 1900, 0, 0, 1694, 0, 0, 0, 0, 0, 0, 0, 1694, 0, 0, 1694, 0, 1888, 0, 0, 0, 0, 0, 0, 1694, 0, 0, 1694, 0, 0, 1900, 0, 0, 0, 1904, 1840, 0, 0, 1694, 0, 0, 0, 0, 0, 0, 0, 1694, 0, 0, 1694, 0, 1896, 0, 0, 0, 0, 0, 0, 1694, 0, 0, 1694, 0, 0, 0, 1905, 0, 0, 0, 0, 1909, 0, 0, 0, 0, 0, 1915, 0, 0, 0, 0, 0, 0, 1900, 0, 0, 0, 0, 0, 1900, 0, 0, 1915, 0, 0, 0, 0, 0, 0, 0, 0, 0, 0, 0, 0, 0, 1905, 0, 0]
def po_211 : List Nat := [0, 1790, 0, 0, 0, 1794, 0, 0, 0, 0, 0, 0, 1691, 0, 0, 1691, 0, 0]
def po_212 : List Nat := [0, 1682, 0, 0, 0, 1697, 0, 0, 0, 0, 0, 1682, 0, 0, 0, 1697, 0, 0, 0, 0, 0, 0, 0, 0, 1697, 0, 0, 1697, 0]
def po_213 : List Nat := [0, 1802, 0, 1913, 1811, 0, 0, 0, 0, 0, 1914, 1811, 0, 0, 0, 0, 0, 0, 0, 0, 0, 0, 0, 0, 1905, 0, 0, 0, 1693, 1691, 0, 0, 0, 0, 0, 0, 0, 0, 0]
def po_214 : List Nat := [0, 1919, 0, 0, 0, 0, 0, 1900, 0, 0, 1919, 0, 0, 0, 0, 0, 0, 1905, 0, 0, 0, 0]
def po_215 : List Nat := [0, 1802, 0, 1691, 0, 1693, 0, 0, 0, 0, 1825, 0, 0, 0, 0, 1905, 0, 0, 0, 1923, 1811, 0, 0, 0, 0, 0, 1924, 1811, 0, 0, 0, 0, 0, 1925, 1811, 0, 0, 0, 0, 0, 1926, 1811, 0, 0, 0, 0, 0, 1927, 1811, 0, 0, 0, 0, 0, 1928, 1811, 0, 0, 0, 0, 0, 0, 0, 0, 0, 0, 1905, 0, 0, 0, 0, 0, 0, 0, 0, 0]
def po_216 : List Nat := [0, 0, 0, 0, 1681, 0, 0, 0]
def po_217 : List Nat := [0, 0, 1782, 0, 0, 0, 0, 0, 1693, 0, 0, 0, 0, 1695, 0, 0, 0, 0, 0, 0, 0, 0, 0, 1931, 0, 0, 0, 0, 0, 1682, 0, 0, 0, 0, 0, 0, 0, 0, 0, 0, 1682, 0, 0, 0, 0, 1682, 0, 0, 0, 0, 0, 0, 0, 0, 0, 1682, 0, 0, 0, 0, 0, 1688, 0, 0]
def po_218 : List Nat := [0, 0, 1681, 0, 0, 0, 1943, 0, 1931, 0, 0, 0, 0, 0, 1947, 0, 0, 0, 0, 0, 1931, 0, 0, 0, 0, 0, 0, 0, 1950, 0, 0, 0, 0, 0, 0, 0, 0, 0, 0]
def po_219 : List Nat := [0, 0, 0, 1821, 0, 0, 1947, 0, 0, 0, 0, 0, 0, 0]
def po_220 : List Nat := [0, 0, 0, 0, 0, 0, 0, 0, 0, 0, 0, 0]
def po_221 : List Nat := [0, 1682, 0, 0, 0, 0, 0, 0, 0, 0, 0]
def po_222 : List Nat := [0, 0, 1681, 0, 0, 1958, 0, 1931, 0, 0, 0, 0, 0, 1961, 0, 0]
def po_223 : List Nat := [0, 0, 0, 1947, 0, 0, 0, 0, 0, 0, 0]
def po_224 : List Nat := [0, 0, 0, 0, 0, 0, 1964, 0, 0]
def po_225 : List Nat := [0, 0, 1681, 0, 0, 1958, 0, 1931, 0, 0, 0, 0, 0, 1971, 0, 0]
def po_226 : List Nat := [0, 1961, 0, 0, 0, 0, 0, 0, 0, 0, 0, 0, 0, 0, 0, 0, 0, 0, 0]
def po_227 : List Nat := [0, 0, 0, 1978, 0, 0, 0, 0, 0, 0, 1985, 0, 0]
def po_228 : List Nat := [0, 0, 1681, 0, 0, 1982, 0, 1931, 0, 0, 0, 1958, 0, 1931, 0, 0, 0, 0, 0, 0, 0, 0]
def po_229 : List Nat := [0, 0, 0, 1947, 0, 0, 0, 0, 0, 0, 0]
def po_230 : List Nat := [0, 1971, 0, 0, 0, 0, 0, 0, 0, 0, 0, 0, 0, 0, 0, 0, 0, 0, 0, 0, 0, 0, 0, 0, 0, 1982, 0, 0, 0, 0, 0, 0, 0]
def po_231 : List Nat := [0, 0, 0, 1978, 0, 0, 0, 0, 1992, 0, 0, 0, 0, 0, 0, 0]
def po_232 : List Nat := [0, 0, 1985, 0, 0, 0, 0, 0, 0, 0, 1996, 0, 0, 0, 0, 0, 0, 0]
def po_233 : List Nat := [0, 0, 0, 0, 0, 0, 0, 1821, 0, 0, 0, 0, 0, 1950, 0, 0, 0, 0, 0, 0, 2000, 0, 0, 0, 0, 0, 0, 0, 0, 0, 0, 0, 0, 0, 0, 0]
def po_234 : List Nat := [0, 0, 0, 0, 1950, 0, 0, 0, 1950, 1947, 0, 0, 0, 0, 0, 0, 0, 1950, 0, 0, 0, 0, 1950, 0, 0, 0, 0, 0, 0, 0, 0, 0, 0, 0, 1950, 0, 0, 0, 1950, 1947, 0]
def po_235 : List Nat := [0, 0, 0, 1978, 0, 0, 0, 0, 0, 0, 1996, 0, 0]
def po_236 : List Nat := [0, 0, 0, 1978, 0, 0, 0, 0, 0, 0, 0, 0, 0, 0, 0, 0, 0, 0, 0, 0, 0, 2012, 0, 0, 0, 0, 0, 0, 0, 0, 0, 0, 0, 0, 0, 0, 0]
def po_237 : List Nat := [0, 0, 1985, 0, 0, 0, 0, 0, 1996, 0, 0, 0, 0, 0, 0, 0]
def po_238 : List Nat := [0, 0, 1681, 0, 0, 1982, 0, 1931, 0, 0, 0, 0, 2020, 0, 1931, 0, 0, 0, 0, 0, 0, 0, 1682, 0, 0, 0, 0, 2023, 0, 0]
def po_239 : List Nat := [0, 1958, 0, 0, 0, 0, 1947, 0, 0, 0, 0, 0, 0, 0, 0]
def po_240 : List Nat := [0, 0, 0, 0, 0, 0, 0, 0, 0, 0, 0, 0, 0, 0, 0, 2012, 0, 0, 0, 0, 0, 0, 0, 0, 0, 0, 0, 0, 0]
def po_241 : List Nat := [0, 0, 1681, 0, 0, 0, 2020, 0, 1931, 0, 0, 0, 0, 0, 0, 0, 0, 0, 0, 0, 0, 0, 0, 0, 1682, 0, 0, 0, 0, 2023, 0, 0, 0, 1682, 0, 0, 0, 0, 2023, 0, 0, 0, 0, 0, 0, 0, 0, 0, 0, 0]
def po_242 : List Nat := [0, 0, 0, 1978, 0, 0, 0, 0, 0, 0, 0, 0, 0, 0, 0, 0, 0, 1682, 0, 0, 0, 0, 0, 2012, 0, 0, 0, 0, 0, 0, 0, 0, 0, 0]
def po_243 : List Nat := [0, 0, 1681, 0, 0, 1982, 0, 1931, 0, 0, 0, 0, 2020, 0, 1931, 0, 0, 0, 0, 0, 0, 0, 0, 0, 0, 0, 0, 0, 0, 0, 0, 0, 0, 2023, 0, 0, 0, 0, 0, 2023, 0, 0, 0, 0, 0, 0, 0, 0, 0, 0, 0]
def po_244 : List Nat := [0, 0, 1681, 0, 0, 1958, 0, 1931, 0, 0, 0, 0, 0, 0, 0, 0, 0, 0, 0, 0, 0, 0, 0, 0, 1996, 0, 0, 0, 0, 0, 0, 0, 0, 0, 0, 0, 0, 0, 0, 0, 0, 0, 0, 0, 0, 0, 0, 0, 1985, 0, 0, 0, 0, 0, 0, 0, 0, 1985, 0, 0, 0, 0, 0, 0, 0, 0, 0, 0, 0]
def po_245 : List Nat := [0, 0, 1681, 0, 0, 1982, 0, 0, 1982, 0, 0, 0, 0, 0, 0, 0, 0, 1931, 0, 0, 0, 0, 0, 0, 0, 2020, 0, 0, 0, 0, 0, 0, 0, 0, 1931, 0, 0, 0, 0, 0, 0, 0, 0, 0, 0, 0, 0, 0, 0, 0, 0, 0, 0, 0, 1992, 0, 0, 0, 0, 0, 0, 1992, 0, 0, 0, 0, 0, 0, 0, 0, 0, 0, 0, 0, 0]
def po_246 : List Nat := [0, 0, 1681, 0, 0, 0, 0, 1947, 0, 0, 1958, 0, 0, 0, 0, 0, 0, 0, 0, 1931, 0, 0, 0, 0, 0, 0, 0, 0, 0, 0, 0, 0, 0, 0, 0, 0, 0, 0, 0, 0, 0, 0, 0, 1682, 0, 0, 0, 1992, 0, 0, 0, 0, 0, 0, 0, 0, 0, 0, 0, 0, 0, 0, 0, 0, 0, 0, 0, 0, 0, 0, 0, 0, 0, 0, 0, 0, 0]
def po_247 : List Nat := [0, 0, 1681, 0, 0, 0, 0, 0, 0, 0, 1821, 0, 0, 0, 0, 1950, 0, 0, 0, 0, 0, 0, 0, 0, 1950, 2055, 0, 0, 0, 0, 0, 0, 0, 0, 0, 0, 1682, 0, 0, 0, 2055, 0, 0, 0, 0, 0, 0, 0, 0, 0, 0]
def po_248 : List Nat := [0, 0, 1681, 0, 0, 0, 2062, 0, 1931, 0, 0, 0, 0, 0, 1947, 0, 0, 0, 0, 0, 1931, 0, 0, 0, 0, 0, 0, 0, 0, 0, 2066, 0, 0, 0, 0, 2103, 0, 0, 0, 0, 2107, 0, 0, 0, 0, 2070, 0]
def po_249 : List Nat := [0, 0, 0, 1851, 0, 0, 1947, 0, 0, 0, 0, 0, 0, 0]
def po_250 : List Nat := [0, 0, 0, 0, 2070, 0, 0, 0, 0, 0, 2070, 0, 1682, 0, 0, 0, 2074, 0, 2055, 0]
def po_251 : List Nat := [0, 1682, 0, 0, 1857, 0, 0]
def po_252 : List Nat := [0, 0, 1699, 0, 0, 1700, 0, 0, 1701, 0, 0, 0, 0, 0, 0, 0, 1682, 0, 0, 0, 0, 0, 0, 1682, 0, 0, 0, 0, 1682, 0, 0, 0, 0, 0, 0, 0, 0, 0, 0, 2078, 0, 0, 0, 1682, 0, 0, 0, 0, 0, 0, 0, 0, 0, 0, 0, 0, 0, 0, 0, 0]
def po_253 : List Nat := [0, 0, 0, 0, 0, 0, 0, 0, 0, 1682, 0, 0, 0, 0, 0, 0, 0, 0, 0, 1682, 0, 0, 0, 0, 0, 0, 1682, 0, 0, 0, 0, 0, 0, 0, 0, 0, 0, 0, 1698, 0, 0, 0, 0, 1682, 0, 0, 0, 0, 0, 0, 0, 0, 2082, 0, 0, 0, 0, 0, 0, 0, 0, 1698, 0, 0, 0, 0, 0, 1698, 0, 0, 0, 0, 0, 0, 0, 0, 0, 0, 1698, 0, 0, 0, 0, 0, 0, 1698, 0, 0, 0, 0, 0, 0, 0, 0, 0, 0, 0, 0, 0, 0, 0, 0, 0, 0, 0, 0, 0, 0, 0, 0, 0, 0, 0, 0, 0, 0, 0, 0, 0, 0, 0, 0, 0, 0, 0, 0, 0, 0, 0, 0, 0, 0, 0, 0, 0, 0, 0, 0, 1698, 0, 0, 0, 0, 0, 0, 0, 0, 0, 0, 0, 0, 0, 0, 0, 0, 0, 0, 0, 0, 0, 0, 0, 0, 0, 0, 1698, 0, 0, 0, 0, 0, 0, 0, 0, 0, 0, 0]
def po_254 : List Nat := [0, 0, 0, 0, 1699, 0, 0, 0, 1700, 1961, 0, 0, 0, 0, 1700, 1971, 2055, 0, 0, 0, 1700, 0, 0, 0, 0, 0, 0, 1699, 0, 1700, 1996, 2086, 0, 0, 0, 1701, 0, 0, 0, 0, 0, 0, 1701, 0, 0, 0, 0, 0, 1699, 0, 1700, 1996, 0, 0, 0, 0, 0, 0, 0, 0, 0, 2087, 0, 0, 0, 0, 0, 0, 0, 0, 0, 0]
def po_255 : List Nat := [0, 0, 0, 0, 0, 0, 0, 1865, 0, 0, 0, 0, 0, 2091, 0, 0, 0, 0, 2095, 0, 1699, 0, 0, 0, 0, 1700, 2099, 0, 0, 0, 0, 0, 0, 0, 0, 0, 0, 0, 0, 0]
def po_256 : List Nat := [0, 0, 0, 2095, 0, 0, 0, 0, 0, 0, 0, 0]
def po_257 : List Nat := [0, 1682, 0, 0, 1869, 0, 0]
def po_258 : List Nat := [0, 0, 0, 0, 2095, 0, 0, 0, 2095, 1947, 0]
def po_259 : List Nat := [0, 0, 0, 0, 0, 0, 0, 1865, 0, 0, 0, 0, 0, 2095, 0, 0, 0, 0, 0, 0, 0, 0, 0, 0, 0, 0, 0, 0, 0, 0]
def po_260 : List Nat := [0, 0, 0, 2070, 0, 0, 0, 0, 0, 0, 1865, 0, 0, 0, 0, 0, 2095, 0, 0, 0, 0, 0, 2095, 0, 0, 0, 0, 0, 0, 0, 0, 0, 0, 0]
def po_261 : List Nat := [0, 0, 1681, 0, 0, 0, 2115, 0, 1931, 0, 0, 0, 0, 0, 1947, 0, 0, 0, 0, 0, 1931, 0, 0, 0, 0, 0, 0, 0, 2095, 0, 0]
def po_262 : List Nat := [0, 0, 0, 1865, 0, 0, 1947, 0, 0, 0, 0, 0, 0, 0]
def po_263 : List Nat := [0, 0, 1681, 0, 0, 0, 2062, 0, 0, 0, 2115, 0, 0, 0, 0, 0, 1931, 0, 0, 0, 0, 0, 0, 2123, 0, 0]
def po_264 : List Nat := [0, 0, 0, 2095, 0, 0, 0, 0, 0, 2095, 0, 1682, 0, 0, 0, 2074, 0, 0]
def po_265 : List Nat := [0, 0, 1681, 0, 0, 0, 2062, 0, 0, 0, 2115, 0, 0, 0, 0, 0, 1931, 0, 0, 0, 1958, 0, 1931, 0, 0, 0, 0, 0, 0, 0, 0, 2131, 0, 0]
def po_266 : List Nat := [0, 1682, 0, 0, 0, 0, 0, 0, 0, 2095, 0, 0, 2074, 0, 0]
def po_267 : List Nat := [0, 0, 1681, 0, 0, 0, 2062, 0, 0, 0, 2115, 0, 0, 0, 0, 0, 1931, 0, 0, 0, 0, 2091, 0, 0, 0, 0, 2070, 0, 0, 0, 2123, 0, 0, 0, 0, 0, 1931, 0, 0, 0, 0, 0, 2139, 0, 1682, 0, 0, 1857, 0, 0, 0, 0, 0, 2123, 0, 0, 0, 1682, 0, 0, 1869, 0, 0, 0, 1682, 0, 0, 1869, 0, 0, 0, 0, 0, 2070, 0]
def po_268 : List Nat := [0, 1688, 0, 0, 0, 0, 0, 0, 0, 0, 0, 1686, 0, 0, 1686, 0, 0, 0, 0, 0, 0, 0, 0, 0, 0, 0, 0, 1688, 0, 0, 1688, 0, 0, 0, 0, 0, 0, 0, 0, 1686, 0, 0, 1688, 0, 0, 0, 0, 0, 0, 1682, 0, 0, 0, 0, 0, 0, 0]
def po_269 : List Nat := [0, 0, 1681, 0, 0, 0, 2062, 0, 0, 0, 2115, 0, 0, 0, 0, 0, 0, 0, 0, 1931, 0, 0, 0, 0, 0, 2095, 0, 0, 0, 0, 0, 0, 0, 0, 1931, 0, 0, 0, 0, 2091, 0, 0, 0, 0, 2070, 0, 0, 0, 2123, 0, 0, 0, 0, 0, 0, 0, 0, 1931, 0, 0, 0, 0, 0, 0, 2139, 0, 0, 0, 2123, 0, 0, 1682, 0, 0, 1857, 0, 0, 0, 0, 0, 0, 0, 0, 0, 2095, 0, 2147, 0, 1682, 0, 0, 1869, 0, 0, 0, 0]
def po_270 : List Nat := [0, 1682, 0, 0, 1857, 0, 0, 0, 0, 2070, 0, 0, 2151, 0, 0]
def po_271 : List Nat := [0, 0, 1681, 0, 0, 0, 2062, 0, 0, 1982, 0, 0, 0, 0, 0, 0, 0, 0, 1931, 0, 0, 0, 0, 0, 0, 0, 2070, 0, 0, 1964, 0, 0, 0, 0, 0, 2066, 0, 0, 0, 0, 0, 1931, 0, 0, 0, 0, 2139, 0, 1682, 0, 0, 1857, 0, 0, 0, 0]
def po_272 : List Nat := [0, 0, 1681, 0, 0, 0, 1943, 0, 1931, 0, 0, 0, 0, 0, 1947, 0, 0, 0, 0, 0, 0, 0, 1931, 0, 0, 0, 0, 0, 0, 2139, 0, 0, 0, 1950, 0, 0, 1682, 0, 0, 0, 0, 0, 0, 0, 0, 0, 0, 0]
def po_273 : List Nat := [0, 0, 1681, 0, 0, 1982, 0, 1931, 0, 0, 0, 0, 0, 2139, 0, 1682, 0, 0, 0, 0, 1682, 0, 0, 0, 0, 0]
def po_274 : List Nat := [0, 0, 1681, 0, 0, 0, 2115, 0, 1931, 0, 0, 0, 0, 0, 0, 0, 2095, 0, 0, 0, 0, 0, 0, 0, 0, 2095, 0, 0, 0, 0, 0, 2070, 0, 1682, 0, 0, 0, 0, 0, 0, 0, 1931, 0, 0, 0, 0, 2139, 0, 1682, 0, 0, 1857, 0, 0, 0, 1682, 0, 0, 0, 0, 0, 1682, 0, 0, 1869, 0, 0, 0, 0, 0, 2070, 0]
def po_275 : List Nat := [0, 0, 1681, 0, 0, 0, 0, 1947, 0, 0, 0, 0, 0, 1931, 0, 0, 0, 0, 2139, 0, 0, 0, 2174, 0]
def po_276 : List Nat := [0, 0, 0, 0, 0, 0, 0, 0, 0, 0, 0, 2178, 0, 0, 0, 0, 0, 0, 0]
def po_277 : List Nat := [0, 0, 0, 0, 0, 0, 1821, 0, 0, 0, 0, 1950, 0, 0, 0, 0, 1950, 0, 1682, 0, 0, 0, 0, 0, 0, 1682, 0, 0, 0, 0, 0, 0, 0, 0, 0, 0, 0, 2182, 0, 0, 0, 1950, 0, 0, 0, 0, 0, 0, 0, 0, 0, 0, 0, 0, 0, 0, 0, 0, 0, 0, 0, 0, 1865, 0, 0, 0, 2091, 0, 0, 0, 0, 1682, 0, 0, 2099, 0, 0, 0, 0, 2187, 0, 0, 0, 0, 0, 0, 0, 0, 0, 0, 0, 0, 0, 1682, 0, 0, 0, 1682, 0, 0, 0, 0, 2151, 0, 0, 0]
def po_278 : List Nat := [0, 1682, 0, 2186, 0, 1682, 0, 0, 0, 0, 0, 0, 0, 1682, 0, 0, 0, 0, 0, 0, 0, 0, 0]
def po_279 : List Nat := [0, 0, 0, 0, 2095, 0, 1682, 0, 0, 0, 1682, 0, 0, 2012, 0, 0, 0, 0, 2095, 0, 0, 0, 0, 0, 0, 0, 1682, 0, 0, 2131, 0, 0, 1682, 0, 0, 1869, 0, 0, 0, 0, 0, 0, 0, 0, 2147, 0, 0, 0, 2191, 0, 0, 0, 0, 2095, 0, 0, 0, 1682, 0, 0, 0, 0, 0, 2095, 0, 0, 0, 0, 2095, 0, 0, 0, 0, 0, 0, 2095, 2147, 0, 0, 0]
def po_280 : List Nat := [0, 0, 0, 0, 0, 0, 0, 1682, 0, 0, 0, 0, 1682, 0, 0, 0, 0, 0, 0, 0, 0, 0, 0, 0, 1682, 0, 0, 1682, 0, 0, 0, 0, 1682, 0, 0, 0, 0, 1682, 0, 0, 0, 0, 2095, 0, 0, 1682, 0, 0, 0, 0, 1682, 0, 0, 0, 1682, 0, 0, 0, 0, 2151, 0, 0]
def po_281 : List Nat := [0, 0, 1681, 0, 0, 0, 2062, 0, 1931, 0, 0, 0, 0, 0, 1947, 0, 0, 0, 0, 0, 0, 0, 1931, 0, 0, 0, 0, 0, 0, 2199, 0, 0, 0, 2174, 0, 0, 0, 0, 2070, 0, 0, 2203, 0, 0]
def po_282 : List Nat := [0, 0, 0, 0, 0, 0, 0, 1685, 0, 0, 1682, 0, 0, 0, 0, 0, 0, 0]
def po_283 : List Nat := [0, 0, 0, 0, 0, 0, 0, 1682, 0, 0, 1685, 0, 0, 0, 0, 0, 0, 0]
def po_284 : List Nat := [0, 0, 0, 1978, 0, 0, 0, 0, 0, 0, 2211, 0, 0]
def po_285 : List Nat := [0, 0, 0, 0, 0, 0, 0, 0, 0, 1821, 0, 0, 0, 0, 0, 2000, 0, 0, 0, 0, 1950, 0, 0, 0, 0, 0, 0, 0, 1950, 0, 0, 0, 0, 0, 0, 0, 0, 0, 1950, 0, 0, 0, 0, 0, 0, 2215, 0, 0, 0, 0, 0, 2216, 0, 0, 0, 0, 0, 0, 0, 0]
def po_286 : List Nat := [0, 0, 1681, 0, 0, 0, 2115, 0, 1931, 0, 0, 0, 0, 0, 2221, 0, 0]
def po_287 : List Nat := [0, 0, 0, 0, 0, 2095, 0, 0, 0, 0, 0, 0, 2095, 0, 0, 1682, 0, 0, 0, 1985, 0, 0, 0, 2095, 0, 0, 0, 0, 0, 0, 2095, 0, 2211, 0, 0, 0, 0, 0, 0, 0, 0, 0]
def po_288 : List Nat := [0, 0, 1681, 0, 0, 0, 2062, 0, 0, 0, 2115, 0, 0, 0, 0, 0, 1931, 0, 0, 0, 0, 0, 0, 2229, 0, 0]
def po_289 : List Nat := [0, 0, 0, 1682, 0, 0, 0, 0, 0, 2095, 2055, 0, 0, 0, 0, 0, 0, 2095, 0, 0, 0, 0, 0, 2095, 0, 1682, 0, 0, 0, 2012, 0, 0, 0, 0, 0, 0, 2131, 0, 0, 0, 0, 0, 0, 0, 0, 0, 2123, 0, 0]
def po_290 : List Nat := [0, 0, 1681, 0, 0, 0, 2062, 0, 1931, 0, 0, 0, 0, 0, 0, 0, 0, 0, 0, 0, 0, 1865, 0, 0, 1702, 0, 0, 0, 0, 2123, 0, 0, 1703, 0, 0, 0, 0, 2229, 0, 0, 0, 0, 2091, 0, 0, 0, 0, 0, 0, 0, 0, 0, 0, 0, 0, 0, 0, 0, 0, 0, 0, 0, 0, 0, 0, 0, 0, 0, 0, 0, 0, 1702, 0, 2237, 0, 0, 0, 2070, 0, 0, 1703, 0, 2237, 0, 1703, 0, 2237, 0, 0, 0, 0, 0, 0, 0, 0, 0, 1703, 0, 2237, 0, 0, 0, 0, 0]
def po_291 : List Nat := [0, 0, 0, 0, 0, 0, 0, 0, 0, 0, 0, 2240, 0, 0, 0, 0, 0, 0, 0, 0, 0, 0, 0, 0, 0, 0, 0]
def po_292 : List Nat := [0, 0, 0, 0, 0, 0, 0, 0, 0, 0, 0, 0, 0]
def po_293 : List Nat := [0, 0, 1681, 0, 0, 0, 2062, 0, 0, 0, 2062, 0, 0, 0, 2115, 0, 0, 0, 2115, 0, 0, 0, 0, 0, 0, 0, 0, 1931, 0, 0, 0, 0, 0, 0, 0, 0, 0, 0, 0, 0, 0, 0, 0, 1931, 0, 0, 0, 0, 0, 0, 0, 0, 0, 0, 0, 0, 0, 0, 0, 0, 0, 0, 0, 0, 0, 0, 0, 0, 0, 0, 0, 0, 0, 0, 0, 0, 2247, 0, 0, 0, 0, 0, 0, 0, 0, 0, 0, 0, 0, 0, 2247, 0, 0, 0, 0, 0, 0, 0, 0, 0, 0, 0, 0, 0, 0, 0, 0, 0, 0, 2247, 0, 0, 0, 0, 0, 0, 0, 0, 0, 0, 0, 0, 0, 2247, 0, 0, 0, 0, 0, 0, 0, 0, 0, 0, 0, 0, 0, 0, 0, 0, 0, 0, 0, 0, 0, 0, 0, 0, 0, 0, 0, 0, 0, 0, 0, 0, 0]
def po_294 : List Nat := [0, 0, 2221, 0, 0, 0, 0, 0, 0, 0, 0, 0, 0, 0, 0, 0, 0, 2123, 0, 0]
def po_295 : List Nat := [0, 0, 1681, 0, 0, 0, 2062, 0, 0, 0, 2062, 0, 0, 0, 0, 0, 0, 0, 0, 1931, 0, 0, 0, 0, 0, 0, 0, 0, 0, 0, 0, 1931, 0, 0, 0, 0, 0, 0, 0, 0, 0, 0, 0, 0, 0, 0, 0, 0, 2255, 0, 0, 0, 2255, 2055, 0, 0, 0, 2255, 0, 0, 0, 2255, 2055, 0, 0, 0, 0, 0, 0, 0, 0, 0, 0, 0]
def po_296 : List Nat := [0, 0, 0, 2070, 0, 0, 1964, 0, 0, 0, 2070, 0, 0, 0, 0, 0, 0, 2070, 0, 0]
def po_297 : List Nat := [0, 0, 1681, 0, 0, 1982, 0, 1931, 0, 0, 0, 0, 0, 0, 0, 0, 0, 0, 0, 1851, 0, 0, 0, 0, 0, 0, 2255, 0, 0, 0, 2255, 0, 0, 0, 0, 0, 0, 0, 0, 0]
def po_298 : List Nat := [0, 1786, 0, 0, 0, 0, 0, 0, 2062, 0, 0, 0, 0, 0, 0, 0, 1931, 0, 0, 0, 0, 0, 1692, 0, 1851, 0, 0, 0, 0, 0, 0, 0, 0, 0, 0, 0, 0, 0, 1692, 0, 0, 0, 0, 1689, 0, 0, 1982, 0, 0, 0, 0, 0, 0, 0, 0, 0, 0, 0, 0, 0, 0, 0, 0, 0, 0, 0, 1931, 0, 0, 0, 0, 0, 2267, 0, 0, 0, 0, 0, 0, 2276, 0, 0, 0, 0, 0, 0, 0, 0, 0, 0, 0, 0, 0, 0, 0, 0, 0, 0, 0, 2240, 0, 0, 0, 0, 0, 2272, 0, 0, 0, 2276, 0, 0, 0, 0, 0, 0, 0, 0, 0, 0, 0, 0, 0, 0, 0, 0]
def po_299 : List Nat := [0, 0, 0, 0, 0, 0, 0, 0, 1704, 0, 1851, 0, 0, 0, 0, 0, 0, 0, 0, 0, 0, 1851, 0, 0, 0, 0, 0, 0, 0, 0, 0, 0, 0, 0, 0, 0, 2271, 0, 0, 0, 0, 0, 0, 1851, 0, 0, 0, 2240, 0, 0, 0, 0, 0, 0, 2272, 2151, 0, 0, 0, 0, 0, 1704, 0, 0, 0, 0, 0, 0, 0, 0, 0, 0, 0, 0, 0, 0]
def po_300 : List Nat := [0, 0, 0, 1689, 0, 0, 2255, 0, 0, 0, 0, 0, 0, 0, 0, 0, 2276, 0, 0]
def po_301 : List Nat := [0, 1704, 0, 0, 0, 0, 0, 0, 0]
def po_302 : List Nat := [0, 1786, 0, 0, 2284, 0, 0, 1958, 0, 0, 0, 0, 0, 0, 0, 0, 1931, 0, 0, 0, 0, 0, 0, 0, 0, 1821, 0, 0, 0, 0, 0, 0, 0, 0, 0, 0, 1821, 0, 0, 0, 0, 0, 2288, 0, 0, 0, 0, 0, 0, 0, 0, 0, 0, 0, 0, 0, 0, 0, 0, 0, 0, 0, 0, 0, 0, 0]
def po_303 : List Nat := [0, 1692, 0, 0, 0, 0, 1692, 0, 0, 0, 0, 0, 0, 0, 0, 0, 0, 0, 0, 0, 1692, 0, 0, 0, 0, 1689, 0, 0, 1982, 0, 0, 1689, 0, 0, 0, 0, 0, 0, 1947, 0, 0, 0, 0, 0, 0, 0, 0, 0, 0, 0, 0]
def po_304 : List Nat := [0, 0, 0, 0, 0, 0, 0, 1821, 0, 0, 0, 0, 0, 0, 1950, 0, 0, 0, 2240, 0, 0, 0, 1950, 0, 0, 0, 0, 0, 0, 0, 0, 0, 0, 0, 0, 0, 0, 0, 0, 0, 0, 0, 0, 0, 0, 0, 1692, 0, 0, 0, 0, 0, 0, 1689, 0, 0, 0, 2292, 0, 1689, 0, 0, 0, 0, 0, 0, 0, 0, 0, 0, 0, 0, 0, 0, 0, 0, 0, 0, 0, 0, 0, 0, 0]
def po_305 : List Nat := [0, 0, 0, 0, 0, 0, 0, 1821, 0, 0, 0, 0, 0, 2240, 0, 0, 0, 0, 0, 2000, 0, 0, 0, 0, 0, 0, 0, 0, 0, 0, 0, 0, 0]
def po_306 : List Nat := [0, 1786, 0, 0, 2284, 0, 0, 1958, 0, 0, 0, 0, 0, 0, 0, 0, 1931, 0, 0, 0, 0, 0, 0, 2271, 0, 0, 0, 0, 0, 0, 0, 0, 0, 0, 0, 0, 0, 0, 0, 0, 0, 0, 1821, 0, 0, 0, 0, 0, 2288, 0, 0, 0, 0, 0, 0, 0, 0, 2292, 0, 0, 0, 0, 0, 0, 0, 0, 0, 0, 0, 0, 0, 0, 0, 2055, 0, 0, 0, 0, 0, 0, 0, 0, 0, 0, 0, 0, 0, 0, 0, 0, 0, 0, 0]
def po_307 : List Nat := [0, 0, 1681, 0, 0, 0, 0, 0, 0, 0, 1851, 0, 0, 0, 0, 0, 2107, 0, 0, 2107, 0, 0, 0, 0, 0, 0, 0, 0, 0]
def po_308 : List Nat := [0, 0, 1681, 0, 0, 0, 0, 0, 0, 0, 0, 1865, 0, 0, 0, 0, 0, 0, 0, 0, 0, 0, 0, 2095, 0, 0, 0, 2095, 0, 0, 0, 0, 2095, 0, 0, 0, 2095, 0, 0, 0, 0, 2095, 0, 0, 0, 2095, 0, 0, 0, 0, 0, 0, 0, 0, 0, 0, 0, 0, 0, 0, 0, 0]
def po_309 : List Nat := [0, 0, 1681, 0, 0, 0, 0, 1947, 0, 0, 0, 0, 0, 0, 0, 1931, 0, 0, 0, 0, 0, 2199, 0, 0, 0, 2174, 0, 0, 0, 0, 2312, 0, 0, 0, 0, 0, 0, 2203, 0, 0]
def po_310 : List Nat := [0, 0, 0, 0, 0, 0, 0, 1851, 0, 0, 0, 0, 0, 2070, 0, 0, 0, 0, 0, 0, 0]
def po_311 : List Nat := [0, 0, 1681, 0, 0, 0, 0, 1947, 0, 0, 0, 0, 0, 0, 0, 1931, 0, 0, 0, 0, 0, 2199, 0, 0, 0, 0, 0, 0, 0, 0, 0, 0, 1682, 0, 0, 0, 0, 0, 0, 2174, 0, 0, 2203, 0, 0, 0, 0, 0, 0, 0, 0, 2055, 0, 0, 0, 2151, 0, 0, 0, 0, 0, 0, 0]
def po_312 : List Nat := [0, 0, 1681, 0, 0, 1982, 0, 1931, 0, 0, 0, 0, 0, 0, 0, 0, 0, 1682, 0, 0, 0, 0, 0, 0, 0, 0, 0, 0, 0, 2324, 0, 0, 0, 0, 0, 0, 0, 0, 2324, 0, 0, 0, 0, 0, 0, 0, 0, 0, 0, 0, 0]
def po_313 : List Nat := [0, 1682, 0, 0, 0, 0, 0, 0, 0, 0, 0]
def po_314 : List Nat := [0, 0, 1681, 0, 0, 0, 0, 1947, 0, 0, 0, 0, 0, 1931, 0, 0, 0, 0, 0, 0, 1682, 0, 0, 0, 0, 1947, 0, 0, 0, 0, 2324, 0, 0, 0, 0, 0]
def po_315 : List Nat := [0, 0, 1681, 0, 1682, 0, 0, 0, 0, 1682, 0, 0, 0, 0, 0]
def po_316 : List Nat := [0, 0, 1681, 0, 0, 0, 0, 1682, 0, 0, 0, 0, 0, 1682, 0, 0, 0, 0, 0, 0, 0, 0, 0, 2312, 0, 0, 0, 2340, 0, 0, 0, 1682, 0, 0, 0, 0, 0, 1688, 0, 0, 0, 0, 1947, 0, 0, 1682, 0, 0, 0, 0, 0, 0, 0]
def po_317 : List Nat := [0, 0, 0, 0, 0, 0, 0, 1865, 0, 0, 0, 0, 2091, 0, 0, 0, 0, 0, 0, 0, 0, 0, 0, 0, 0, 0, 0, 0]
def po_318 : List Nat := [0, 2367, 0, 0, 675, 0, 0]
def po_319 : List Nat := [679, 0, 0, 2368, 0, 0, 0, 0, 0]
def po_320 : List Nat := [0, 685, 0, 0, 2367, 0, 689, 0, 0, 2367, 0, 700, 0]
def po_321 : List Nat := [679, 0, 0, 2368, 0, 0, 0, 0, 0, 0, 0]
def po_322 : List Nat := [0, 0, 695, 697, 0, 0]
def po_323 : List Nat := [0, 0, 0, 692, 0, 0, 0, 0, 0, 0, 0]
def po_324 : List Nat := [0, 0, 0, 0, 0, 0, 0, 0, 0, 0, 0, 0, 0]
def po_325 : List Nat := [0, 0, 0, 0, 1076, 0, 0, 0, 0, 1077, 0, 0, 0, 0, 1077, 0, 0, 0, 0, 0, 0, 0, 0, 1078, 0, 0, 0, 0, 0, 0, 0, 0, 0, 0, 0, 0, 0, 0, 0, 0, 0, 0]
def po_326 : List Nat := [0, 0, 0, 0, 0, 0, 0, 0]
def po_327 : List Nat := [0, 0, 0, 0, 0, 0, 0, 0, 0]
def po_328 : List Nat := [0, 0, 0, 0, 0, 0, 0, 0, 0]
def po_329 : List Nat := [0, 0, 0, 646, 0, 0, 0, 0, 0, 0, 0, 0, 0, 0, 0, 0]
def po_330 : List Nat := [0, 0, 0, 901, 0, 0, 0, 0, 0, 0, 0, 0, 0]
def po_331 : List Nat := [0, 0, 0, 0, 0, 995, 0, 0, 0, 0, 0, 0, 0, 0, 0, 0, 0, 0]
def po_332 : List Nat := [0, 0, 0, 0, 0, 1038, 0, 0, 0, 0, 0, 0, 0, 0, 0, 0, 0, 0]
def po_333 : List Nat := [0, 0, 0, 0, 0, 1119, 0, 0, 0, 0, 0, 0, 0, 0, 0, 0, 0, 0]
def po_334 : List Nat := [0, 0, 0, 0, 0, 1132, 0, 0, 0, 0, 0, 0, 0, 0, 0]
def po_335 : List Nat := [0, 0, 0, 0, 0, 0, 1144, 0, 0, 0, 0, 0, 0, 0, 0, 0, 0, 0, 0]
def po_336 : List Nat := [0, 0, 0, 0, 0, 1164, 0, 0, 0, 0, 0, 0, 0, 0, 0, 0, 0, 0]
def po_337 : List Nat := [0, 0, 0, 0, 0, 1191, 0, 0, 0, 0, 0, 0, 0, 0, 0, 0, 0, 0, 0, 0, 0]
def po_338 : List Nat := [0, 0, 0, 0, 0, 1208, 0, 0, 0, 0, 0, 0, 0, 0, 0, 0, 0, 0]
def po_339 : List Nat := [0, 0, 0, 0, 0, 1223, 0, 0, 0, 0, 0, 0, 0, 0, 0, 0, 0, 0]
def po_340 : List Nat := [0, 0, 0, 0, 1231, 0, 0, 0, 0, 0, 0, 0, 0, 0]
def po_341 : List Nat := [0, 0, 0, 0, 1238, 0, 0, 0, 0, 0, 0, 0, 0, 0, 0, 0, 0]
def po_342 : List Nat := [0, 0, 0, 0, 1246, 0, 0, 0, 0, 0, 0, 0, 0, 0]
def po_343 : List Nat := [0, 0, 0, 0, 1281, 0, 0, 0, 0, 0, 0, 0, 0, 0]
def po_344 : List Nat := [0, 0, 0, 0, 1288, 0, 0, 0, 0, 0, 0, 0, 0, 0]
def po_345 : List Nat := [0, 0, 0, 0, 0, 1295, 0, 0, 0, 0, 0, 0, 0, 0, 0, 0, 0, 0]
def po_346 : List Nat := [0, 0, 0, 0, 0, 1303, 0, 0, 0, 0, 0, 0, 0, 0, 0, 0, 0, 0, 0, 0, 0, 0, 0]
def po_347 : List Nat := [0, 0, 0, 0, 0, 1311, 0, 0, 0, 0, 0, 0, 0, 0, 0, 0, 0, 0]
def po_348 : List Nat := [0, 0, 0, 0, 0, 1319, 0, 0, 0, 0, 0, 0, 0, 0, 0, 0, 0, 0]
def po_349 : List Nat := [0, 0, 0, 0, 0, 0, 1331, 0, 0, 0, 0, 0, 0, 0, 0, 0, 0, 0, 0]
def po_350 : List Nat := [0, 0, 0, 0, 0, 1342, 0, 0, 0, 0, 0, 0, 0, 0, 0]
def po_351 : List Nat := [0, 0, 0, 0, 0, 1361, 0, 0, 0, 0, 0, 0, 0, 0, 0, 0, 0, 0]
def po_352 : List Nat := [0, 0, 0, 0, 0, 0, 1372, 0, 0, 0, 0, 0, 0, 0, 0, 0, 0, 0, 0]
def po_353 : List Nat := [0, 0, 0, 0, 0, 1389, 0, 0, 0, 0, 0, 0, 0, 0, 0, 0, 0, 0]
def po_354 : List Nat := [0, 0, 0, 0, 1404, 0, 0, 0, 0, 0, 0, 0, 0, 0]
def po_355 : List Nat := [0, 0, 0, 0, 0, 1416, 0, 0, 0, 0, 0, 0, 0, 0, 0]
def po_356 : List Nat := [0, 0, 0, 0, 0, 1430, 0, 0, 0, 0, 0, 0, 0, 0, 0]
def po_357 : List Nat := [0, 0, 0, 0, 0, 1453, 0, 0, 0, 0, 0, 0, 0, 0, 0, 0, 0, 0]
def po_358 : List Nat := [0, 0, 0, 0, 1473, 0, 0, 0, 0, 0, 0, 0, 0, 0, 0, 0, 0]
def po_359 : List Nat := [0, 0, 0, 0, 1506, 0, 0, 0, 0, 0, 0, 0, 0, 0]
def po_360 : List Nat := [0, 0, 0, 0, 0, 1517, 0, 0, 0, 0, 0, 0, 0, 0, 0]
def po_361 : List Nat := [0, 0, 0, 0, 1549, 0, 0, 0, 0, 0, 0, 0, 0, 0]
def po_362 : List Nat := [0, 0, 0, 0, 1568, 0, 0, 0, 0, 0, 0, 0, 0, 0]
def po_363 : List Nat := [0, 0, 0, 0, 0, 0, 0, 1579, 0, 0, 0, 0, 0, 0, 0, 0, 0, 0, 0, 0]
def po_364 : List Nat := [0, 0, 0, 0, 0, 0, 0, 1590, 0, 0, 0, 0, 0, 0, 0, 0, 0, 0, 0, 0]
def po_365 : List Nat := [0, 0, 0, 0, 0, 0, 1610, 0, 0, 0, 0, 0, 0, 0, 0, 0]
def po_366 : List Nat := [0, 0, 0, 0, 0, 1621, 0, 0, 0, 0, 0, 0, 0, 0, 0, 0, 0, 0]
def po_367 : List Nat := [0, 0, 0, 0, 0, 1628, 0, 0, 0, 0, 0, 0, 0, 0, 0]
def po_368 : List Nat := [0, 0, 0, 0, 0, 1639, 0, 0, 0, 0, 0, 0, 0, 0, 0]
def po_369 : List Nat := [0, 0, 0, 0, 0, 1646, 0, 0, 0, 0, 0, 0, 0, 0, 0]
def po_370 : List Nat := [0, 0, 0, 0, 0, 1665, 0, 0, 0, 0, 0, 0, 0, 0, 0]
def po_371_0 : List Nat := [148, 0, 150, 0, 1675, 0, 1677, 0, 0, 0, 0, 0, 0, 0, 0, 0, 0, 0, 0, 0, 0, 0, 0, 0, 0, 0, 0, 0, 0, 0, 0, 0, 0, 0, 0, 0, 0, 0, 0, 0, 0, 0, 0, 0, 0, 0, 0, 0, 0, 0]
def po_371_1 : List Nat := [0, 0, 0, 0, 539, 0, 0, 0, 0, 0, 0, 0, 0, 0, 0, 0, 0, 0, 0, 0, 0, 0, 0, 0, 0, 0, 0, 0, 0, 0, 0, 1766, 0, 0, 0, 0, 0, 0, 0, 0, 0, 0, 547, 0, 0, 0, 0, 0, 0, 1770]
def po_371_2 : List Nat := [0, 0, 0, 0, 0, 0, 641, 0, 0, 1778, 0, 0, 1671, 0, 0, 0, 0, 0, 0, 0, 0, 0, 0, 0, 0, 0, 0, 0, 0, 0, 0, 0, 0, 898, 0, 0, 1935, 0, 0, 1671, 0, 0, 0, 0, 0, 0, 0, 0, 0, 0]
def po_371_3 : List Nat := [0, 0, 0, 0, 0, 0, 0, 0, 0, 551, 0, 1774, 0, 0, 0, 0, 0, 0, 0, 0, 0, 0, 0, 0, 0, 0, 0, 0, 990, 0, 0, 0, 0, 0, 0, 0, 0, 0, 0, 0, 0, 1939, 0, 0, 1671, 0, 0, 0, 0, 0]
def po_371_4 : List Nat := [0, 0, 0, 0, 0, 0, 0, 0, 0, 0, 0, 0, 0, 0, 0, 0, 0, 0, 0, 0, 0, 0, 0, 0, 0, 1035, 0, 0, 0, 0, 0, 0, 0, 0, 0, 0, 0, 0, 2058, 0, 0, 1671, 0, 0, 0, 0, 0, 0, 0, 0]
def po_371_5 : List Nat := [0, 0, 0, 0, 0, 0, 0, 0, 0, 0, 0, 0, 0, 0, 0, 0, 0, 0, 0, 0, 0, 0, 1116, 0, 0, 0, 0, 0, 0, 0, 0, 0, 0, 0, 0, 2111, 0, 0, 1671, 0, 0, 0, 0, 0, 0, 0, 0, 0, 0, 0]
def po_371_6 : List Nat := [0, 0, 0, 0, 0, 0, 0, 0, 0, 0, 0, 0, 0, 0, 0, 0, 0, 0, 0, 1129, 0, 0, 0, 0, 0, 0, 0, 0, 0, 0, 0, 0, 2119, 0, 0, 1671, 0, 0, 0, 0, 0, 0, 0, 0, 0, 0, 0, 0, 0, 0]
def po_371_7 : List Nat := [0, 0, 0, 0, 0, 0, 0, 0, 0, 0, 0, 0, 0, 0, 0, 0, 0, 0, 0, 0, 0, 1141, 0, 0, 0, 0, 0, 0, 0, 0, 0, 0, 0, 0, 0, 0, 0, 0, 0, 2127, 0, 0, 1671, 0, 0, 0, 0, 0, 0, 0]
def po_371_8 : List Nat := [0, 0, 0, 0, 0, 0, 0, 0, 0, 0, 0, 0, 0, 0, 0, 0, 0, 0, 0, 0, 0, 0, 0, 1160, 0, 0, 0, 0, 0, 0, 0, 0, 0, 0, 0, 0, 2135, 0, 0, 1671, 0, 0, 0, 0, 0, 0, 0, 0, 0, 0]
def po_371_9 : List Nat := [0, 0, 0, 0, 0, 0, 0, 0, 0, 0, 0, 0, 0, 0, 0, 0, 0, 0, 0, 0, 1188, 0, 0, 0, 0, 0, 0, 0, 0, 0, 0, 0, 0, 2143, 0, 0, 1671, 0, 0, 0, 0, 0, 0, 0, 0, 0, 0, 0, 0, 0]
def po_371_10 : List Nat := [0, 0, 0, 0, 0, 0, 0, 0, 0, 0, 0, 0, 0, 0, 0, 0, 0, 1205, 0, 0, 0, 0, 0, 0, 0, 0, 0, 0, 0, 0, 2154, 0, 0, 1671, 0, 0, 0, 0, 0, 0, 0, 0, 0, 0, 0, 0, 0, 0, 0, 0]
def po_371_11 : List Nat := [0, 0, 0, 0, 0, 0, 0, 0, 0, 0, 0, 0, 0, 0, 1220, 0, 0, 0, 0, 0, 0, 0, 0, 0, 0, 0, 0, 2158, 0, 0, 1671, 0, 0, 0, 0, 0, 0, 0, 0, 0, 0, 0, 0, 0, 0, 0, 0, 0, 0, 0]
def po_371_12 : List Nat := [0, 0, 0, 0, 0, 0, 1228, 0, 0, 0, 0, 0, 0, 0, 2162, 0, 0, 1671, 0, 0, 0, 0, 0, 0, 0, 0, 0, 0, 0, 0, 0, 0, 0, 0, 0, 0, 0, 0, 0, 0, 0, 0, 0, 1235, 0, 0, 0, 0, 0, 0]
def po_371_13 : List Nat := [0, 2166, 0, 0, 1671, 0, 0, 0, 0, 0, 0, 0, 0, 0, 0, 0, 0, 0, 0, 0, 0, 0, 0, 0, 0, 0, 0, 0, 0, 0, 1243, 0, 0, 0, 0, 0, 0, 0, 2170, 0, 0, 1671, 0, 0, 0, 0, 0, 0, 0, 0]
def po_371_14 : List Nat := [0, 0, 0, 0, 0, 0, 0, 0, 0, 0, 0, 0, 0, 0, 0, 0, 0, 1278, 0, 0, 0, 0, 0, 0, 0, 1954, 0, 0, 1671, 0, 0, 0, 0, 0, 0, 0, 0, 0, 0, 0, 0, 0, 0, 0, 0, 0, 0, 0, 0, 0]
def po_371_15 : List Nat := [0, 0, 0, 0, 1285, 0, 0, 0, 0, 0, 0, 0, 1967, 0, 0, 1671, 0, 0, 0, 0, 0, 0, 0, 0, 0, 0, 0, 0, 0, 0, 0, 0, 0, 0, 0, 0, 0, 0, 0, 0, 0, 0, 0, 0, 0, 0, 1292, 0, 0, 0]
def po_371_16 : List Nat := [0, 0, 0, 0, 0, 0, 0, 0, 0, 1974, 0, 0, 1671, 0, 0, 0, 0, 0, 0, 0, 0, 0, 0, 0, 0, 0, 0, 0, 0, 0, 0, 0, 0, 0, 0, 0, 0, 0, 0, 0, 0, 0, 0, 1300, 0, 0, 0, 0, 0, 0]
def po_371_17 : List Nat := [0, 0, 0, 0, 0, 0, 1988, 0, 0, 1671, 0, 0, 0, 0, 0, 0, 0, 0, 0, 0, 0, 0, 0, 0, 0, 0, 0, 0, 0, 0, 0, 0, 0, 0, 0, 0, 0, 0, 0, 0, 0, 0, 0, 0, 0, 1308, 0, 0, 0, 0]
def po_371_18 : List Nat := [0, 0, 0, 0, 0, 0, 0, 0, 2004, 0, 0, 1671, 0, 0, 0, 0, 0, 0, 0, 0, 0, 0, 0, 0, 0, 0, 0, 0, 0, 0, 0, 0, 0, 0, 0, 0, 0, 0, 0, 0, 0, 0, 1316, 0, 0, 0, 0, 0, 0, 0]
def po_371_19 : List Nat := [0, 0, 0, 0, 0, 2008, 0, 0, 1671, 0, 0, 0, 0, 0, 0, 0, 0, 0, 0, 0, 0, 0, 0, 0, 0, 0, 0, 0, 0, 0, 0, 0, 0, 0, 0, 0, 0, 0, 0, 0, 0, 0, 0, 0, 1328, 0, 0, 0, 0, 0]
def po_371_20 : List Nat := [0, 0, 0, 0, 0, 0, 0, 0, 0, 0, 0, 0, 2016, 0, 0, 1671, 0, 0, 0, 0, 0, 0, 0, 0, 0, 0, 0, 0, 0, 0, 0, 0, 0, 0, 0, 0, 0, 0, 0, 0, 0, 0, 0, 0, 0, 0, 1339, 0, 0, 0]
def po_371_21 : List Nat := [0, 0, 0, 0, 0, 0, 0, 0, 0, 2027, 0, 0, 1671, 0, 0, 0, 0, 0, 0, 0, 0, 0, 0, 0, 0, 0, 0, 0, 0, 0, 0, 0, 0, 0, 0, 0, 0, 0, 0, 0, 0, 0, 0, 1358, 0, 0, 0, 0, 0, 0]
def po_371_22 : List Nat := [0, 0, 0, 0, 0, 0, 2031, 0, 0, 1671, 0, 0, 0, 0, 0, 0, 0, 0, 0, 0, 0, 0, 0, 0, 0, 0, 0, 0, 0, 0, 0, 0, 0, 0, 0, 0, 0, 0, 0, 0, 0, 0, 0, 0, 0, 1369, 0, 0, 0, 0]
def po_371_23 : List Nat := [0, 0, 0, 0, 0, 0, 0, 0, 0, 0, 0, 0, 0, 2035, 0, 0, 1671, 0, 0, 0, 0, 0, 0, 0, 0, 0, 0, 0, 0, 0, 0, 0, 0, 0, 0, 0, 0, 0, 0, 0, 0, 0, 0, 0, 0, 0, 0, 1386, 0, 0]
def po_371_24 : List Nat := [0, 0, 0, 0, 0, 0, 0, 0, 0, 0, 2207, 0, 0, 1671, 0, 0, 0, 0, 0, 0, 0, 0, 0, 0, 0, 0, 0, 0, 0, 0, 0, 0, 0, 0, 0, 0, 0, 0, 0, 1401, 0, 0, 0, 0, 0, 0, 0, 2217, 0, 0]
def po_371_25 : List Nat := [1671, 0, 0, 0, 0, 0, 0, 0, 0, 0, 0, 0, 0, 0, 0, 0, 0, 0, 0, 0, 0, 0, 0, 0, 0, 0, 0, 0, 0, 0, 0, 1413, 0, 0, 0, 0, 0, 0, 0, 0, 0, 0, 0, 0, 2225, 0, 0, 1671, 0, 0]
def po_371_26 : List Nat := [0, 0, 0, 0, 0, 0, 0, 0, 0, 0, 0, 0, 0, 0, 0, 0, 0, 0, 0, 0, 0, 0, 0, 0, 0, 0, 0, 0, 0, 0, 0, 0, 0, 0, 1427, 0, 0, 0, 0, 0, 0, 0, 0, 0, 0, 0, 0, 0, 0, 0]
def po_371_27 : List Nat := [0, 0, 0, 2233, 0, 0, 1671, 0, 0, 0, 0, 0, 0, 0, 0, 0, 0, 0, 0, 0, 0, 0, 0, 0, 0, 0, 0, 0, 0, 0, 0, 0, 0, 0, 0, 0, 0, 1450, 0, 0, 0, 0, 0, 0, 0, 0, 0, 0, 0, 0]
def po_371_28 : List Nat := [2251, 0, 0, 1671, 0, 0, 0, 0, 0, 0, 0, 0, 0, 0, 0, 0, 0, 0, 0, 0, 0, 0, 0, 0, 0, 0, 0, 0, 0, 1470, 0, 0, 0, 0, 0, 0, 0, 2263, 0, 0, 1671, 0, 0, 0, 0, 0, 0, 0, 0, 0]
def po_371_29 : List Nat := [0, 0, 0, 0, 0, 0, 0, 0, 0, 0, 0, 0, 0, 0, 0, 0, 1503, 0, 0, 0, 0, 0, 0, 0, 2259, 0, 0, 1671, 0, 0, 0, 0, 0, 0, 0, 0, 0, 0, 0, 0, 0, 0, 0, 0, 0, 0, 0, 0, 0, 0]
def po_371_30 : List Nat := [0, 0, 0, 0, 0, 0, 0, 0, 0, 0, 0, 0, 0, 0, 1514, 0, 0, 0, 0, 0, 0, 0, 0, 0, 0, 0, 0, 0, 0, 0, 0, 0, 0, 2280, 0, 0, 1671, 0, 0, 0, 0, 0, 0, 0, 0, 0, 0, 0, 0, 0]
def po_371_31 : List Nat := [0, 0, 0, 0, 0, 0, 0, 0, 0, 0, 0, 0, 1546, 0, 0, 0, 0, 0, 0, 0, 2296, 0, 0, 1671, 0, 0, 0, 0, 0, 0, 0, 0, 0, 0, 0, 0, 0, 0, 0, 0, 0, 0, 0, 0, 0, 0, 0, 0, 0, 1565]
def po_371_32 : List Nat := [0, 0, 0, 0, 0, 0, 0, 2039, 0, 0, 1671, 0, 0, 0, 0, 0, 0, 0, 0, 0, 0, 0, 0, 0, 0, 0, 0, 0, 0, 0, 0, 0, 0, 0, 0, 0, 0, 0, 0, 0, 0, 0, 0, 0, 0, 0, 0, 0, 0, 0]
def po_371_33 : List Nat := [0, 1576, 0, 0, 0, 0, 0, 0, 0, 0, 0, 0, 0, 0, 0, 0, 0, 0, 0, 0, 0, 0, 0, 0, 2043, 0, 0, 1671, 0, 0, 0, 0, 0, 0, 0, 0, 0, 0, 0, 0, 0, 0, 0, 0, 0, 0, 0, 0, 0, 0]
def po_371_34 : List Nat := [0, 0, 0, 0, 0, 0, 0, 0, 0, 0, 0, 0, 0, 0, 0, 0, 0, 0, 1587, 0, 0, 0, 0, 0, 0, 0, 0, 0, 0, 0, 0, 0, 0, 0, 0, 0, 0, 0, 0, 0, 0, 2243, 0, 0, 1671, 0, 0, 0, 0, 0]
def po_371_35 : List Nat := [0, 0, 0, 0, 0, 0, 0, 0, 0, 0, 0, 0, 0, 0, 0, 0, 0, 0, 0, 0, 0, 0, 0, 0, 0, 0, 0, 0, 0, 0, 1607, 0, 0, 0, 0, 0, 0, 0, 0, 0, 0, 0, 0, 0, 0, 0, 0, 0, 2047, 0]
def po_371_36 : List Nat := [0, 1671, 0, 0, 0, 0, 0, 0, 0, 0, 0, 0, 0, 0, 0, 0, 0, 0, 0, 0, 0, 555, 0, 2051, 0, 0, 0, 0, 0, 563, 0, 2300, 0, 0, 0, 0, 0, 575, 0, 2304, 0, 0, 0, 0, 0, 0, 0, 0, 0, 0]
def po_371_37 : List Nat := [0, 0, 0, 0, 0, 0, 1618, 0, 0, 0, 0, 0, 0, 0, 0, 0, 0, 0, 0, 2195, 0, 0, 1671, 0, 0, 0, 0, 0, 0, 0, 0, 0, 0, 0, 0, 0, 0, 0, 0, 0, 0, 0, 0, 0, 0, 0, 0, 0, 0, 0]
def po_371_38 : List Nat := [0, 0, 0, 0, 0, 0, 0, 0, 0, 1625, 0, 0, 0, 0, 0, 0, 0, 0, 0, 0, 0, 0, 0, 0, 0, 0, 0, 0, 2308, 0, 0, 1671, 0, 0, 0, 0, 0, 0, 0, 0, 0, 0, 0, 0, 0, 0, 0, 0, 0, 0]
def po_371_39 : List Nat := [0, 0, 0, 0, 0, 0, 0, 0, 0, 0, 0, 0, 0, 0, 0, 0, 0, 0, 1636, 0, 0, 0, 0, 0, 0, 0, 0, 0, 0, 0, 0, 0, 0, 0, 0, 0, 0, 2316, 0, 0, 1671, 0, 0, 0, 0, 0, 0, 0, 0, 0]
def po_371_40 : List Nat := [0, 0, 0, 0, 0, 0, 0, 0, 0, 0, 0, 0, 0, 0, 0, 0, 0, 0, 0, 0, 0, 0, 0, 0, 0, 0, 0, 1643, 0, 0, 0, 0, 0, 0, 0, 0, 0, 0, 0, 0, 0, 0, 0, 0, 0, 0, 2320, 0, 0, 1671]
def po_371_41 : List Nat := [0, 0, 0, 0, 0, 0, 0, 0, 0, 0, 0, 0, 0, 0, 0, 0, 0, 0, 0, 0, 0, 0, 0, 0, 0, 0, 0, 0, 0, 0, 1662, 0, 0, 0, 0, 0, 0, 0, 0, 0, 0, 0, 0, 2328, 0, 0, 1671, 0, 0, 0]
def po_371_42 : List Nat := [0, 0, 0, 0, 0, 0, 0, 0, 0, 0, 0, 0, 0, 0, 0, 0, 0, 0, 0, 0, 0, 586, 0, 0, 0, 0, 0, 0, 2332, 0, 0, 0, 0, 0, 590, 0, 1762, 0, 0, 0, 0, 0, 617, 0, 1754, 0, 0, 0, 621, 0]
def po_371_43 : List Nat := [1758, 0, 0, 0, 0, 0, 0, 0, 0, 0, 0, 629, 0, 0, 0, 0, 0, 0, 2336, 0, 0, 0, 0, 0, 0, 0, 0, 0]
def po_371 : List Nat := po_371_0 ++ (po_371_1 ++ (po_371_2 ++ (po_371_3 ++ (po_371_4 ++ (po_371_5 ++ (po_371_6 ++ (po_371_7 ++ (po_371_8 ++ (po_371_9 ++ (po_371_10 ++ (po_371_11 ++ (po_371_12 ++ (po_371_13 ++ (po_371_14 ++ (po_371_15 ++ (po_371_16 ++ (po_371_17 ++ (po_371_18 ++ (po_371_19 ++ (po_371_20 ++ (po_371_21 ++ (po_371_22 ++ (po_371_23 ++ (po_371_24 ++ (po_371_25 ++ (po_371_26 ++ (po_371_27 ++ (po_371_28 ++ (po_371_29 ++ (po_371_30 ++ (po_371_31 ++ (po_371_32 ++ (po_371_33 ++ (po_371_34 ++ (po_371_35 ++ (po_371_36 ++ (po_371_37 ++ (po_371_38 ++ (po_371_39 ++ (po_371_40 ++ (po_371_41 ++ (po_371_42 ++ (po_371_43)))))))))))))))))))))))))))))))))))))))))))
def poTab : List (List Nat) := [po_0, po_1, po_2, po_3, po_4, po_5, po_6, po_7, po_8, po_9, po_10, po_11, po_12, po_13, po_14, po_15, po_16, po_17, po_18, po_19, po_20, po_21, po_22, po_23, po_24, po_25, po_26, po_27, po_28, po_29, po_30, po_31, po_32, po_33, po_34, po_35, po_36, po_37, po_38, po_39, po_40, po_41, po_42, po_43, po_44, po_45, po_46, po_47, po_48, po_49, po_50, po_51, po_52, po_53, po_54, po_55, po_56, po_57, po_58, po_59, po_60, po_61, po_62, po_63, po_64, po_65, po_66, po_67, po_68, po_69, po_70, po_71, po_72, po_73, po_74, po_75, po_76, po_77, po_78, po_79, po_80, po_81, po_82, po_83, po_84, po_85, po_86, po_87, po_88, po_89, po_90, po_91, po_92, po_93, po_94, po_95, po_96, po_97, po_98, po_99, po_100, po_101, po_102, po_103, po_104, po_105, po_106, po_107, po_108, po_109, po_110, po_111, po_112, po_113, po_114, po_115, po_116, po_117, po_118, po_119, po_120, po_121, po_122, po_123, po_124, po_125, po_126, po_127, po_128, po_129, po_130, po_131, po_132, po_133, po_134, po_135, po_136, po_137, po_138, po_139, po_140, po_141, po_142, po_143, po_144, po_145, po_146, po_147, po_148, po_149, po_150, po_151, po_152, po_153, po_154, po_155, po_156, po_157, po_158, po_159, po_160, po_161, po_162, po_163, po_164, po_165, po_166, po_167, po_168, po_169, po_170, po_171, po_172, po_173, po_174, po_175, po_176, po_177, po_178, po_179, po_180, po_181, po_182, po_183, po_184, po_185, po_186, po_187, po_188, po_189, po_190, po_191, po_192, po_193, po_194, po_195, po_196, po_197, po_198, po_199, po_200, po_201, po_202, po_203, po_204, po_205, po_206, po_207, po_208, po_209, po_210, po_211, po_212, po_213, po_214, po_215, po_216, po_217, po_218, po_219, po_220, po_221, po_222, po_223, po_224, po_225, po_226, po_227, po_228, po_229, po_230, po_231, po_232, po_233, po_234, po_235, po_236, po_237, po_238, po_239, po_240, po_241, po_242, po_243, po_244, po_245, po_246, po_247, po_248, po_249, po_250, po_251, po_252, po_253, po_254, po_255, po_256, po_257, po_258, po_259, po_260, po_261, po_262, po_263, po_264, po_265, po_266, po_267, po_268, po_269, po_270, po_271, po_272, po_273, po_274, po_275, po_276, po_277, po_278, po_279, po_280, po_281, po_282, po_283, po_284, po_285, po_286, po_287, po_288, po_289, po_290, po_291, po_292, po_293, po_294, po_295, po_296, po_297, po_298, po_299, po_300, po_301, po_302, po_303, po_304, po_305, po_306, po_307, po_308, po_309, po_310, po_311, po_312, po_313, po_314, po_315, po_316, po_317, po_318, po_319, po_320, po_321, po_322, po_323, po_324, po_325, po_326, po_327, po_328, po_329, po_330, po_331, po_332, po_333, po_334, po_335, po_336, po_337, po_338, po_339, po_340, po_341, po_342, po_343, po_344, po_345, po_346, po_347, po_348, po_349, po_350, po_351, po_352, po_353, po_354, po_355, po_356, po_357, po_358, po_359, po_360, po_361, po_362, po_363, po_364, po_365, po_366, po_367, po_368, po_369, po_370, po_371]
def cNs : List String := ["ArchEnds$Broker", "ArchEnds$County", "ArchEnds$Deed", "ArchEnds$Forecast", "ArchEnds$Law", "ArchEnds$LogBook", "ArchEnds$Market", "ArchEnds$Reader", "ArchEnds$Shower", "ArchEnds$Sign", "ArchEnds$Tape", "ArchEnds", "ArchEndsModel", "java/lang/String"]
def fTab : List (List (String × String × String × Bool)) := [[("ArchEnds$Broker", "purse", "I", false), ("ArchEnds$Broker", "acre", "I", false), ("ArchEnds$Broker", "pace", "I", false)], [("ArchEnds$County", "showers", "[LArchEnds$Shower;", true), ("ArchEnds$County", "brokers", "[LArchEnds$Broker;", true), ("ArchEnds$County", "deeds", "[LArchEnds$Deed;", true), ("ArchEnds$County", "log", "LArchEnds$LogBook;", true), ("ArchEnds$County", "showerCount", "I", false), ("ArchEnds$County", "brokerCount", "I", false), ("ArchEnds$County", "deedCount", "I", false), ("ArchEnds$County", "texts", "I", false), ("ArchEnds$County", "road", "I", false), ("ArchEnds$County", "wage", "I", false), ("ArchEnds$County", "minute", "I", false), ("ArchEnds$County", "seed", "I", false), ("ArchEnds$County", "law", "LArchEnds$Law;", false), ("ArchEnds$County", "facts", "[I", true)], [("ArchEnds$Deed", "acre", "I", false), ("ArchEnds$Deed", "firstMinute", "I", false), ("ArchEnds$Deed", "lastMinute", "I", false), ("ArchEnds$Deed", "price", "I", false), ("ArchEnds$Deed", "owner", "I", false), ("ArchEnds$Deed", "wet", "I", false), ("ArchEnds$Deed", "insured", "Z", false)], [("ArchEnds$Forecast", "county", "LArchEnds$County;", true), ("ArchEnds$Forecast", "stood", "[I", true), ("ArchEnds$Forecast", "toldWet", "I", false), ("ArchEnds$Forecast", "toldDry", "I", false)], [("ArchEnds$Law", "lines", "I", true), ("ArchEnds$Law", "heads", "[LArchEnds$Sign;", true), ("ArchEnds$Law", "amounts", "[I", true), ("ArchEnds$Law", "ends", "[I", true), ("ArchEnds$Law", "steps", "[I", true), ("ArchEnds$Law", "stack", "[I", true)], [("ArchEnds$LogBook", "size", "I", false), ("ArchEnds$LogBook", "next", "I", false), ("ArchEnds$LogBook", "rows", "[I", true)], [("ArchEnds$Market", "county", "LArchEnds$County;", true), ("ArchEnds$Market", "forecast", "LArchEnds$Forecast;", true), ("ArchEnds$Market", "costs", "[I", true), ("ArchEnds$Market", "gains", "[I", true), ("ArchEnds$Market", "hopes", "[I", true), ("ArchEnds$Market", "prices", "[I", true), ("ArchEnds$Market", "places", "[I", true), ("ArchEnds$Market", "fewest", "[I", true)], [("ArchEnds$Reader", "tape", "LArchEnds$Tape;", true), ("ArchEnds$Reader", "heads", "[LArchEnds$Sign;", true), ("ArchEnds$Reader", "amounts", "[I", true), ("ArchEnds$Reader", "ends", "[I", true), ("ArchEnds$Reader", "steps", "[I", true), ("ArchEnds$Reader", "size", "I", false)], [("ArchEnds$Shower", "lowAcre", "I", false), ("ArchEnds$Shower", "highAcre", "I", false), ("ArchEnds$Shower", "firstMinute", "I", false), ("ArchEnds$Shower", "lastMinute", "I", false), ("ArchEnds$Shower", "drift", "I", false), ("ArchEnds$Shower", "chance", "I", false), ("ArchEnds$Shower", "state", "I", false)], [("ArchEnds$Sign", "text", "Ljava/lang/String;", true), ("ArchEnds$Sign", "code", "I", true)], [("ArchEnds$Tape", "bytes", "[I", true), ("ArchEnds$Tape", "length", "I", false), ("ArchEnds$Tape", "signs", "[LArchEnds$Sign;", true), ("ArchEnds$Tape", "begins", "[I", true), ("ArchEnds$Tape", "sizes", "[I", true), ("ArchEnds$Tape", "things", "I", false), ("ArchEnds$Tape", "at", "I", false), ("ArchEnds$Tape", "number", "I", false)], [("ArchEnds", "tape", "LArchEnds$Tape;", true), ("ArchEnds", "reader", "LArchEnds$Reader;", true), ("ArchEnds", "now", "LArchEnds$County;", true), ("ArchEnds", "spare", "LArchEnds$County;", true), ("ArchEnds", "kept", "LArchEnds$County;", true), ("ArchEnds", "past", "[LArchEnds$County;", true), ("ArchEnds", "forecast", "LArchEnds$Forecast;", true), ("ArchEnds", "market", "LArchEnds$Market;", true), ("ArchEnds", "hasImage", "Z", false), ("ArchEnds", "oldest", "I", false), ("ArchEnds", "remembered", "I", false), ("ArchEnds", "fault", "I", false)], [("ArchEndsModel", "thrown", "I", false), ("ArchEndsModel", "world", "[I", true), ("ArchEndsModel", "image", "[I", true), ("ArchEndsModel", "before", "[I", true), ("ArchEndsModel", "trial", "[I", true), ("ArchEndsModel", "acts", "[I", true), ("ArchEndsModel", "hasImage", "Z", false), ("ArchEndsModel", "remembered", "I", false), ("ArchEndsModel", "tape", "[B", true), ("ArchEndsModel", "taped", "I", false), ("ArchEndsModel", "point", "I", false), ("ArchEndsModel", "end", "I", false), ("ArchEndsModel", "begin", "I", false), ("ArchEndsModel", "deep", "I", false), ("ArchEndsModel", "faultAt", "I", false), ("ArchEndsModel", "five", "[I", true), ("ArchEndsModel", "steps", "I", false), ("ArchEndsModel", "value", "[I", true), ("ArchEndsModel", "itsAcre", "I", false), ("ArchEndsModel", "itsMinute", "I", false), ("ArchEndsModel", "itsWho", "I", false), ("ArchEndsModel", "cost", "[I", true), ("ArchEndsModel", "gains", "[I", true), ("ArchEndsModel", "least", "[I", true)], [("java/lang/String", "value", "[B", true), ("java/lang/String", "coder", "B", true)]]
def rfTab : List (List Bool) := [[false, false, false], [true, true, true, true, false, false, false, false, false, false, false, false, true, true], [false, false, false, false, false, false, false], [true, true, false, false], [false, true, true, true, true, true], [false, false, true], [true, true, true, true, true, true, true, true], [true, true, true, true, true, false], [false, false, false, false, false, false, false], [true, false], [true, false, true, true, true, false, false, false], [true, true, true, true, true, true, true, true, false, false, false, false], [false, true, true, true, true, true, false, false, true, false, false, false, false, false, false, true, false, true, false, false, false, true, true, true], [true, false]]
def fyTab : List (List FieldType) := [[.int, .int, .int], [.array (.object "ArchEnds$Shower"), .array (.object "ArchEnds$Broker"), .array (.object "ArchEnds$Deed"), .object "ArchEnds$LogBook", .int, .int, .int, .int, .int, .int, .int, .int, .object "ArchEnds$Law", .array (.int)], [.int, .int, .int, .int, .int, .int, .boolean], [.object "ArchEnds$County", .array (.int), .int, .int], [.int, .array (.object "ArchEnds$Sign"), .array (.int), .array (.int), .array (.int), .array (.int)], [.int, .int, .array (.int)], [.object "ArchEnds$County", .object "ArchEnds$Forecast", .array (.int), .array (.int), .array (.int), .array (.int), .array (.int), .array (.int)], [.object "ArchEnds$Tape", .array (.object "ArchEnds$Sign"), .array (.int), .array (.int), .array (.int), .int], [.int, .int, .int, .int, .int, .int, .int], [.object "java/lang/String", .int], [.array (.int), .int, .array (.object "ArchEnds$Sign"), .array (.int), .array (.int), .int, .int, .int], [.object "ArchEnds$Tape", .object "ArchEnds$Reader", .object "ArchEnds$County", .object "ArchEnds$County", .object "ArchEnds$County", .array (.object "ArchEnds$County"), .object "ArchEnds$Forecast", .object "ArchEnds$Market", .boolean, .int, .int, .int], [.int, .array (.int), .array (.int), .array (.int), .array (.int), .array (.int), .boolean, .int, .array (.byte), .int, .int, .int, .int, .int, .int, .array (.int), .int, .array (.int), .int, .int, .int, .array (.int), .array (.int), .array (.int)], [.array (.byte), .byte]]
def eNs : List String := ["java/lang/IllegalArgumentException", "java/lang/UnsupportedOperationException", "java/lang/IndexOutOfBoundsException", "java/util/NoSuchElementException", "java/lang/IllegalStateException"]
/-- places of instantiable, of initialized, by class -/
def ipTab : List (Nat × Nat) := [(298, 125), (223, 122), (323, 126), (453, 127), (910, 142), (235, 123), (472, 128), (197, 121), (251, 124), (0, 132), (157, 120), (149, 119), (1676, 129), (0, 133)]
def stTab : List (String × String × String) := [("ArchEnds$Sign", "SHOWER", "LArchEnds$Sign;"), ("ArchEnds$Sign", "BROKER", "LArchEnds$Sign;"), ("ArchEnds$Sign", "DEED", "LArchEnds$Sign;"), ("ArchEnds$Sign", "ROAD", "LArchEnds$Sign;"), ("ArchEnds$Sign", "WAGE", "LArchEnds$Sign;"), ("ArchEnds$Sign", "MINUTE", "LArchEnds$Sign;"), ("ArchEnds$Sign", "TO", "LArchEnds$Sign;"), ("ArchEnds$Sign", "FROM", "LArchEnds$Sign;"), ("ArchEnds$Sign", "EAST", "LArchEnds$Sign;"), ("ArchEnds$Sign", "WEST", "LArchEnds$Sign;"), ("ArchEnds$Sign", "CHANCE", "LArchEnds$Sign;"), ("ArchEnds$Sign", "AT", "LArchEnds$Sign;"), ("ArchEnds$Sign", "PACE", "LArchEnds$Sign;"), ("ArchEnds$Sign", "PRICE", "LArchEnds$Sign;"), ("ArchEnds$Sign", "COST", "LArchEnds$Sign;"), ("ArchEnds$Sign", "BRING", "LArchEnds$Sign;"), ("ArchEnds$Sign", "SLOW", "LArchEnds$Sign;"), ("ArchEnds$Sign", "IF", "LArchEnds$Sign;"), ("ArchEnds$Sign", "ACRE", "LArchEnds$Sign;"), ("ArchEnds$Sign", "SUN", "LArchEnds$Sign;"), ("ArchEnds$Sign", "REACH", "LArchEnds$Sign;"), ("ArchEnds$Sign", "HOUR", "LArchEnds$Sign;"), ("ArchEnds$Sign", "MANY", "LArchEnds$Sign;"), ("ArchEnds$Sign", "WHO", "LArchEnds$Sign;"), ("ArchEnds$Sign", "WET", "LArchEnds$Sign;"), ("ArchEnds$Sign", "OWNED", "LArchEnds$Sign;"), ("ArchEnds$Sign", "NOT", "LArchEnds$Sign;"), ("ArchEnds$Sign", "PLUS", "LArchEnds$Sign;"), ("ArchEnds$Sign", "LESS", "LArchEnds$Sign;"), ("ArchEnds$Sign", "MORE", "LArchEnds$Sign;"), ("ArchEnds$Sign", "AND", "LArchEnds$Sign;"), ("ArchEnds$Sign", "OR", "LArchEnds$Sign;"), ("ArchEnds$Sign", "OPEN", "LArchEnds$Sign;"), ("ArchEnds$Sign", "CLOSE", "LArchEnds$Sign;"), ("ArchEnds$Sign", "SEMICOLON", "LArchEnds$Sign;"), ("ArchEnds$Sign", "NUMBER", "LArchEnds$Sign;"), ("ArchEnds$Sign", "WRONG", "LArchEnds$Sign;"), ("ArchEnds$Sign", "END", "LArchEnds$Sign;"), ("ArchEnds", "SIGNS", "[LArchEnds$Sign;"), ("jdk/internal/util/Preconditions", "SIOOBE_FORMATTER", "Ljava/util/function/BiFunction;")]
/-- String constants of the reference: SM's number, entry, text -/
def srTab : List (Nat × Nat × String) := [(120, 155, "shower"), (121, 129, "to"), (122, 138, "from"), (123, 140, "east"), (124, 145, "west"), (125, 147, "chance"), (126, 161, "broker"), (127, 149, "at"), (128, 151, "pace"), (129, 166, "deed"), (130, 153, "price"), (131, 171, "road"), (132, 176, "wage"), (133, 178, "minute"), (134, 234, "cost"), (135, 235, "bring"), (136, 237, "slow"), (137, 239, "if"), (138, 216, "not"), (139, 206, "wet"), (140, 208, "owned"), (141, 187, "acre"), (142, 189, "sun"), (143, 191, "reach"), (144, 193, "hour"), (145, 195, "many"), (146, 197, "who"), (147, 227, "and"), (148, 232, "or")]
def dfY : MethodName := ⟨"", "", ""⟩
def yOf (k : Nat) : MethodName := nthD yTab k dfY
def bsOf (k : Nat) : ByteArray := nthD bsTab k ⟨#[]⟩
def rtOf (k : Nat) : Option FieldType := nthD rtTab k none
def kdOf (k : Nat) : Nat := nthD kdTab k 9
def pzOf (k : Nat) : Nat × Nat × Nat × Nat := nthD pzTab k (0, 0, 0, 0)
def hhOf (k : Nat) : List (Nat × Nat × Nat × Nat) := if k < 329 then [] else nthD hhTab (k - 329) []
def poOf (k : Nat) : List Nat := nthD poTab k []
def mxOf (k : Nat) : Nat := nthD mxTab k 0
def cN (c : Nat) : String := nthD cNs c ""
def fT (c : Nat) : u_T := fun k => nthD (nthD fTab c []) k ("", "", "", false)
def nf (c : Nat) : Nat := (nthD fTab c []).length
def eN (x : Nat) : String := nthD eNs x ""
/-- a field that holds a reference -/
def isRf (c k : Nat) : Bool := nthD (nthD rfTab c []) k false
/-- a field's type -/
def fy (c k : Nat) : FieldType := nthD (nthD fyTab c []) k .int
end
section
/-! The check that SM's rows are the class files' instructions -/
def wAt (i : Nat) (w : Cond) : Bool := decide (lw_tbl[i]? = some w) && goodWord w
def wAtN (i : Nat) (w : Cond) : Bool := decide (lw_tbl[i]? = some w)
def nxIs (nx : Option Nat) (pc : Nat) : Bool := decide (nx = some pc)
/-- the words of one 'throw new E(text)' -/
def throwOk (own : String) (y z x : Nat) : Bool := lw_tbl.contains (.methodLink own z (Bundle.initS (eN x))) && lw_tbl.any (fun w => match w with
  | .stringRef o k _ => decide (o = own) && decide (k = y)
  | _ => false)
def okI (mi pc : Nat) (nx : Option Nat) (pos : Nat) (i : Instr) : Bool := match i with
  | .goto_w t => decide (jmp t = pc)
  | .jsr _ => nxIs nx pc
  | .ret _ => true
  | .iconst n => (match decode (bsOf mi) pc with
    | .ok (.iconst k, 1) => decide (Int32.ofInt k = Int32.ofInt n) && nxIs nx (pc + 1)
    | .ok (.bipush k, 2) => decide ((Int8.ofInt k).toInt32 = Int32.ofInt n) && nxIs nx (pc + 2)
    | .ok (.sipush k, 3) => decide ((Int16.ofInt k).toInt32 = Int32.ofInt n) && nxIs nx (pc + 3)
    | .ok (.ldc x, 2) => wAt pos (.constant (yOf mi).cls x (Int32.ofInt n)) && nxIs nx (pc + 2)
    | .ok (.ldc_w x, 3) => wAt pos (.constant (yOf mi).cls x (Int32.ofInt n)) && nxIs nx (pc + 3)
    | _ => false)
  | .ldc2_w n => (match decode (bsOf mi) pc with
    | .ok (.ldc2_w x, 3) => wAt pos (.constantLong (yOf mi).cls x (Int64.ofNat n)) && nxIs nx (pc + 3)
    | _ => false)
  | .ldc n => (match decode (bsOf mi) pc with
    | .ok (.ldc x, 2) => decide ((yOf mi).cls = "ArchEndsModel") && decide (n ≠ 39) && srTab.any (fun q => decide (q.1 = n) && decide (q.2.1 = x)) && nxIs nx (pc + 2)
    | _ => false)
  | .getstatic n => (match decode (bsOf mi) pc with
    | .ok (.getstatic x, 3) => nxIs nx (pc + 3) && (if n < 1000 then decide (n < 40) && (wAt pos (.fieldLink (yOf mi).cls x (nthD stTab n ("", "", "")).1 (nthD stTab n ("", "", "")).2.1 (nthD stTab n ("", "", "")).2.2) || wAtN pos (.fieldLinkNest (yOf mi).cls x (nthD stTab n ("", "", "")).1 (nthD stTab n ("", "", "")).2.1 (nthD stTab n ("", "", "")).2.2 "ArchEnds")) else decide (n = 1001) && wAt pos (.fieldLink (yOf mi).cls x "java/lang/String" "COMPACT_STRINGS" "Z"))
    | _ => false)
  | .iload n => (match decode (bsOf mi) pc with
    | .ok (.iload k, 2) => decide (k = n) && nxIs nx (pc + 2)
    | .ok (.iload_n k, 1) => decide (k.val = n) && nxIs nx (pc + 1)
    | _ => false)
  | .lload n => (match decode (bsOf mi) pc with
    | .ok (.lload k, 2) => decide (k = n) && nxIs nx (pc + 2)
    | .ok (.lload_n k, 1) => decide (k.val = n) && nxIs nx (pc + 1)
    | _ => false)
  | .aload n => (match decode (bsOf mi) pc with
    | .ok (.aload k, 2) => decide (k = n) && nxIs nx (pc + 2)
    | .ok (.aload_n k, 1) => decide (k.val = n) && nxIs nx (pc + 1)
    | _ => false)
  | .istore n => (match decode (bsOf mi) pc with
    | .ok (.istore k, 2) => decide (k = n) && nxIs nx (pc + 2)
    | .ok (.istore_n k, 1) => decide (k.val = n) && nxIs nx (pc + 1)
    | _ => false)
  | .lstore n => (match decode (bsOf mi) pc with
    | .ok (.lstore k, 2) => decide (k = n) && nxIs nx (pc + 2)
    | .ok (.lstore_n k, 1) => decide (k.val = n) && nxIs nx (pc + 1)
    | _ => false)
  | .astore n => (match decode (bsOf mi) pc with
    | .ok (.astore k, 2) => decide (k = n) && nxIs nx (pc + 2)
    | .ok (.astore_n k, 1) => decide (k.val = n) && nxIs nx (pc + 1)
    | _ => false)
  | .iinc n k => decide (decode (bsOf mi) pc = .ok (.iinc n k, 3)) && nxIs nx (pc + 3)
  | .goto t => (match decode (bsOf mi) pc with
    | .ok (.goto o, 3) => decide ((pc : Int) + o = (jmp t : Int)) && decide (jmp t < 100000)
    | _ => false)
  | .if_icmp cd t => (match decode (bsOf mi) pc with
    | .ok (.if_icmp c2 o, 3) => decide (c2 = cd) && decide ((pc : Int) + o = (jmp t : Int)) && decide (jmp t < 100000) && nxIs nx (pc + 3)
    | _ => false)
  | .ifCond cd t => (match decode (bsOf mi) pc with
    | .ok (.ifCond c2 o, 3) => decide (c2 = cd) && decide ((pc : Int) + o = (jmp t : Int)) && decide (jmp t < 100000) && nxIs nx (pc + 3)
    | _ => false)
  | .if_acmp cd t => (match decode (bsOf mi) pc with
    | .ok (.if_acmp c2 o, 3) => decide (c2 = cd) && decide ((pc : Int) + o = (jmp t : Int)) && decide (jmp t < 100000) && nxIs nx (pc + 3)
    | _ => false)
  | .ifnull t => (match decode (bsOf mi) pc with
    | .ok (.ifnull o, 3) => decide ((pc : Int) + o = (jmp t : Int)) && decide (jmp t < 100000) && nxIs nx (pc + 3)
    | _ => false)
  | .ifnonnull t => (match decode (bsOf mi) pc with
    | .ok (.ifnonnull o, 3) => decide ((pc : Int) + o = (jmp t : Int)) && decide (jmp t < 100000) && nxIs nx (pc + 3)
    | _ => false)
  | .tableswitch d lo hi ts => (match decode (bsOf mi) pc with
    | .ok (.tableswitch d2 lo2 hi2 os, _) => decide (lo2 = lo) && decide (hi2 = hi) && decide ((pc : Int) + d2 = (jmp d : Int)) && decide (jmp d < 100000) && ts.toList.all (fun t => decide (jmp t < 100000)) && decide ((os.toList.map fun o => (pc : Int) + o) = ts.toList.map fun t => (jmp t : Int)) && decide (hi + 1 - lo = os.size) && decide (0 ≤ lo) && decide (hi < 100000)
    | _ => false)
  | .getfield n => (match decode (bsOf mi) pc with
    | .ok (.getfield x, 3) => nxIs nx (pc + 3) && decide (n / 1000 < 14) && decide (n / 10 % 100 < nf (n / 1000)) && (if n % 10 = 0 then !isRf (n / 1000) (n / 10 % 100) else isRf (n / 1000) (n / 10 % 100)) && wAt pos (.fieldLink (yOf mi).cls x (fT (n / 1000) (n / 10 % 100)).1 (fT (n / 1000) (n / 10 % 100)).2.1 (fT (n / 1000) (n / 10 % 100)).2.2.1)
    | _ => false)
  | .putfield n => (match decode (bsOf mi) pc with
    | .ok (.putfield x, 3) => nxIs nx (pc + 3) && decide (n / 1000 < 13) && decide (n / 1000 ≠ 9) && decide (n / 10 % 100 < nf (n / 1000)) && (if n % 10 = 0 then decide (fy (n / 1000) (n / 10 % 100) = .int) else if n % 10 = 2 then decide (fy (n / 1000) (n / 10 % 100) = .boolean) else isRf (n / 1000) (n / 10 % 100)) && (!(fT (n / 1000) (n / 10 % 100)).2.2.2 || (decide ((yOf mi).name = "<init>") && decide ((yOf mi).cls = (fT (n / 1000) (n / 10 % 100)).1))) && wAt pos (.fieldLink (yOf mi).cls x (fT (n / 1000) (n / 10 % 100)).1 (fT (n / 1000) (n / 10 % 100)).2.1 (fT (n / 1000) (n / 10 % 100)).2.2.1)
    | _ => false)
  | .caload => decide (decode (bsOf mi) pc = .ok (.iaload, 1)) && nxIs nx (pc + 1)
  | .saload => decide (decode (bsOf mi) pc = .ok (.baload, 1)) && nxIs nx (pc + 1)
  | .daload => decide (decode (bsOf mi) pc = .ok (.aaload, 1)) && nxIs nx (pc + 1)
  | .new k => if k < 100 then (match decode (bsOf mi) pc with
    | .ok (.new x, 3) => nxIs nx (pc + 3) && decide (k < 13) && decide (k ≠ 9) && wAt pos (.classLink (yOf mi).cls x (cN k))
    | _ => false) else (match decode (bsOf mi) pc, decode (bsOf mi) (pc + 3), decode (bsOf mi) (pc + 4) with
    | .ok (.new x, 3), .ok (.dup, 1), .ok (.ldc y, 2) => (match decode (bsOf mi) (pc + 6), decode (bsOf mi) (pc + 9) with
      | .ok (.invokespecial z, 3), .ok (.athrow, 1) => decide (k < 105) && wAt pos (.classLink (yOf mi).cls x (eN (k - 100))) && decide ((hhOf mi) = []) && throwOk (yOf mi).cls y z (k - 100)
      | _, _ => false)
    | .ok (.new x, 3), .ok (.dup, 1), .ok (.ldc_w y, 3) => (match decode (bsOf mi) (pc + 7), decode (bsOf mi) (pc + 10) with
      | .ok (.invokespecial z, 3), .ok (.athrow, 1) => decide (k < 105) && wAt pos (.classLink (yOf mi).cls x (eN (k - 100))) && decide ((hhOf mi) = []) && throwOk (yOf mi).cls y z (k - 100)
      | _, _ => false)
    | _, _, _ => false)
  | .newarray t => decide (decode (bsOf mi) pc = .ok (.newarray t, 2)) && nxIs nx (pc + 2)
  | .anewarray k => (match decode (bsOf mi) pc with
    | .ok (.anewarray x, 3) => nxIs nx (pc + 3) && decide (k < 13) && wAt pos (.classLink (yOf mi).cls x (cN k)) && lw_tbl.contains (.arrayOver (.object (cN k)))
    | _ => false)
  | .monitorexit => (match decode (bsOf mi) pc with
    | .ok (.invokespecial x, 3) => nxIs nx (pc + 3) && wAt pos (.methodLink (yOf mi).cls x Lib.objectInit)
    | _ => false)
  | .monitorenter => (match decode (bsOf mi) pc with
    | .ok (.invokestatic x, 3) => nxIs nx (pc + 3) && wAt pos (.methodLink (yOf mi).cls x arraycopyName)
    | _ => false)
  | .invokestatic n => (match decode (bsOf mi) pc with
    | .ok (.invokestatic x, 3) => nxIs nx (pc + 3) && decide (n / 10000 < 371) && decide (kdOf (n / 10000) = 0) && wAt pos (.methodLink (yOf mi).cls x (yOf (n / 10000))) && decide ((parseMethodDescriptor (yOf (n / 10000)).desc).map (fun q => q.parameters.length) = some (n / 10 % 10)) && (hhOf mi).all (fun q => !(decide (q.1 ≤ pc) && decide (pc < q.2.1)))
    | _ => false)
  | .invokedynamic n => (match decode (bsOf mi) pc with
    | .ok (.invokestatic x, 3) => nxIs nx (pc + 3) && decide (n / 10000 < 371) && decide (kdOf (n / 10000) = 0) && decide (hhOf (n / 10000) = []) && wAtN pos (.methodLinkNest (yOf mi).cls x (yOf (n / 10000)) "ArchEnds") && decide ((parseMethodDescriptor (yOf (n / 10000)).desc).map (fun q => q.parameters.length) = some (n / 10 % 10))
    | _ => false)
  | .invokespecial n => (match decode (bsOf mi) pc with
    | .ok (.invokespecial x, 3) => nxIs nx (pc + 3) && decide (n / 10000 < 371) && decide (kdOf (n / 10000) = 2) && decide (hhOf (n / 10000) = []) && decide (n % 10 = 0) && (wAt pos (.methodLink (yOf mi).cls x (yOf (n / 10000))) || wAtN pos (.methodLinkNest (yOf mi).cls x (yOf (n / 10000)) "ArchEnds")) && decide ((parseMethodDescriptor (yOf (n / 10000)).desc).map (fun q => q.parameters.length + 1) = some (n / 10 % 10))
    | _ => false)
  | .invokevirtual n => (match decode (bsOf mi) pc with
    | .ok (.invokevirtual x, 3) => nxIs nx (pc + 3) && decide (n / 10000 < 371) && decide (kdOf (n / 10000) = 1) && decide (hhOf (n / 10000) = []) && decide (n / 100 % 100 < 14) && decide ((yOf (n / 10000)).cls = cN (n / 100 % 100)) && wAt pos (.methodLink (yOf mi).cls x (yOf (n / 10000))) && decide ((parseMethodDescriptor (yOf (n / 10000)).desc).map (fun q => q.parameters.length + 1) = some (n / 10 % 10))
    | _ => false)
  | .ireturn => decide (decode (bsOf mi) pc = .ok (.ireturn, 1)) && decide (rtOf mi = some .int)
  | .freturn => decide (decode (bsOf mi) pc = .ok (.ireturn, 1)) && decide (rtOf mi = some .boolean)
  | .dreturn => decide (decode (bsOf mi) pc = .ok (.ireturn, 1)) && decide (rtOf mi = some .char)
  | .lreturn => decide (decode (bsOf mi) pc = .ok (.ireturn, 1)) && decide (rtOf mi = some .byte)
  | .areturn => decide (decode (bsOf mi) pc = .ok (.areturn, 1)) && (match rtOf mi with
    | some (.object _) => true
    | _ => false)
  | .return_ => decide (decode (bsOf mi) pc = .ok (.return_, 1)) && decide (rtOf mi = none)
  | i => decide (decode (bsOf mi) pc = .ok (i, 1)) && nxIs nx (pc + 1)
def okRs (mi : Nat) (nx : Option Nat) : List (Nat × Instr) → List Nat → Bool
  | [], _ => true
  | r :: is, ps => okI mi (r.1 % 100000) (match is with
    | [] => nx
    | q :: _ => some (q.1 % 100000)) (ps.headD 0) r.2 && okRs mi nx is ps.tail
noncomputable def okMs (k : Nat) : Bool := okRs k none (nthD cdTab k []) (poOf k)
theorem okRs_app (mi : Nat) (nx : Option Nat) (q : Nat × Instr) (b : List (Nat × Instr)) (pb : List Nat) (hb : okRs mi nx (q :: b) pb = true) : ∀ (a : List (Nat × Instr)) (pa : List Nat), pa.length = a.length → okRs mi (some (q.1 % 100000)) a pa = true → okRs mi nx (a ++ (q :: b)) (pa ++ pb) = true
  | [], [], _, _ => hb
  | [], _ :: _, h, _ => by cases h
  | _ :: _, [], h, _ => by cases h
  | r :: is, x :: ps, h, ha => by
    unfold okRs at ha
    rw [Bool.and_eq_true] at ha
    show okRs mi nx (r :: (is ++ (q :: b))) (x :: (ps ++ pb)) = true
    unfold okRs
    rw [Bool.and_eq_true]
    refine ⟨?_, okRs_app mi nx q b pb hb is ps (by simpa using h) ha.2⟩
    cases is with
    | nil => exact ha.1
    | cons z zs => exact ha.1
end
section
theorem okq_0 : okMs 0 = true := by decide +kernel
theorem okq_1 : okMs 1 = true := by decide +kernel
theorem okq_2 : okMs 2 = true := by decide +kernel
theorem okq_3 : okMs 3 = true := by decide +kernel
theorem okq_4 : okMs 4 = true := by decide +kernel
theorem okq_5 : okMs 5 = true := by decide +kernel
theorem okq_6 : okMs 6 = true := by decide +kernel
theorem okq_7 : okMs 7 = true := by decide +kernel
theorem okq_8 : okMs 8 = true := by decide +kernel
theorem okq_9 : okMs 9 = true := by decide +kernel
theorem okq_10 : okMs 10 = true := by decide +kernel
theorem okq_11 : okMs 11 = true := by decide +kernel
theorem okq_12 : okMs 12 = true := by decide +kernel
theorem okq_13 : okMs 13 = true := by decide +kernel
theorem okq_14 : okMs 14 = true := by decide +kernel
theorem okq_15 : okMs 15 = true := by decide +kernel
theorem okq_16 : okMs 16 = true := by decide +kernel
theorem okq_17 : okMs 17 = true := by decide +kernel
theorem okq_18 : okMs 18 = true := by decide +kernel
theorem okq_19 : okMs 19 = true := by decide +kernel
theorem okq_20 : okMs 20 = true := by decide +kernel
theorem okq_21 : okMs 21 = true := by decide +kernel
theorem okq_22 : okMs 22 = true := by decide +kernel
theorem okq_23 : okMs 23 = true := by decide +kernel
theorem okq_24 : okMs 24 = true := by decide +kernel
theorem okq_25 : okMs 25 = true := by decide +kernel
theorem okq_26 : okMs 26 = true := by decide +kernel
theorem okq_27 : okMs 27 = true := by decide +kernel
theorem okq_28 : okMs 28 = true := by decide +kernel
theorem okq_29 : okMs 29 = true := by decide +kernel
theorem okq_30 : okMs 30 = true := by decide +kernel
theorem okq_31 : okMs 31 = true := by decide +kernel
theorem okq_32 : okMs 32 = true := by decide +kernel
theorem okq_33 : okMs 33 = true := by decide +kernel
theorem okq_34 : okMs 34 = true := by decide +kernel
theorem okq_35 : okMs 35 = true := by decide +kernel
theorem okq_36 : okMs 36 = true := by decide +kernel
theorem okq_37 : okMs 37 = true := by decide +kernel
theorem okq_38 : okMs 38 = true := by decide +kernel
theorem okq_39 : okMs 39 = true := by decide +kernel
theorem okq_40 : okMs 40 = true := by decide +kernel
theorem okq_41 : okMs 41 = true := by decide +kernel
theorem okq_42 : okMs 42 = true := by decide +kernel
theorem okq_43 : okMs 43 = true := by decide +kernel
theorem okq_44 : okMs 44 = true := by decide +kernel
theorem okq_45 : okMs 45 = true := by decide +kernel
theorem okq_46 : okMs 46 = true := by decide +kernel
theorem okq_47 : okMs 47 = true := by decide +kernel
theorem okq_48 : okMs 48 = true := by decide +kernel
theorem okq_49 : okMs 49 = true := by decide +kernel
theorem okq_50 : okMs 50 = true := by decide +kernel
theorem okq_51 : okMs 51 = true := by decide +kernel
theorem okq_52 : okMs 52 = true := by decide +kernel
theorem okq_53 : okMs 53 = true := by decide +kernel
theorem okq_54 : okMs 54 = true := by decide +kernel
theorem okq_55 : okMs 55 = true := by decide +kernel
theorem okq_56 : okMs 56 = true := by decide +kernel
theorem okq_57 : okMs 57 = true := by decide +kernel
theorem okq_58 : okMs 58 = true := by decide +kernel
theorem okq_59 : okMs 59 = true := by decide +kernel
theorem okq_60 : okMs 60 = true := by decide +kernel
theorem okq_61 : okMs 61 = true := by decide +kernel
theorem okq_62 : okMs 62 = true := by decide +kernel
theorem okq_63 : okMs 63 = true := by decide +kernel
theorem okq_64 : okMs 64 = true := by decide +kernel
theorem okq_65 : okMs 65 = true := by decide +kernel
theorem okq_66 : okMs 66 = true := by decide +kernel
theorem okq_67 : okMs 67 = true := by decide +kernel
theorem okq_68 : okMs 68 = true := by decide +kernel
theorem okq_69 : okMs 69 = true := by decide +kernel
theorem okq_70 : okMs 70 = true := by decide +kernel
theorem okq_71 : okMs 71 = true := by decide +kernel
theorem okq_72 : okMs 72 = true := by decide +kernel
theorem okq_73 : okMs 73 = true := by decide +kernel
theorem okq_74 : okMs 74 = true := by decide +kernel
theorem okq_75 : okMs 75 = true := by decide +kernel
theorem okq_76 : okMs 76 = true := by decide +kernel
theorem okq_77 : okMs 77 = true := by decide +kernel
theorem okq_78 : okMs 78 = true := by decide +kernel
theorem okq_79 : okMs 79 = true := by decide +kernel
theorem okq_80 : okMs 80 = true := by decide +kernel
theorem okq_81 : okMs 81 = true := by decide +kernel
theorem okq_82 : okMs 82 = true := by decide +kernel
theorem okq_83 : okMs 83 = true := by decide +kernel
theorem okq_84 : okMs 84 = true := by decide +kernel
theorem okq_85 : okMs 85 = true := by decide +kernel
theorem okq_86 : okMs 86 = true := by decide +kernel
theorem okq_87 : okMs 87 = true := by decide +kernel
theorem okq_88 : okMs 88 = true := by decide +kernel
theorem okq_89 : okMs 89 = true := by decide +kernel
theorem okq_90 : okMs 90 = true := by decide +kernel
theorem okq_91 : okMs 91 = true := by decide +kernel
theorem okq_92 : okMs 92 = true := by decide +kernel
theorem okq_93 : okMs 93 = true := by decide +kernel
theorem okq_94 : okMs 94 = true := by decide +kernel
theorem okq_95 : okMs 95 = true := by decide +kernel
theorem okq_96 : okMs 96 = true := by decide +kernel
theorem okq_97 : okMs 97 = true := by decide +kernel
theorem okq_98 : okMs 98 = true := by decide +kernel
end
section
theorem okq_99 : okMs 99 = true := by decide +kernel
theorem okq_100 : okMs 100 = true := by decide +kernel
theorem okq_101 : okMs 101 = true := by decide +kernel
theorem okq_102 : okMs 102 = true := by decide +kernel
theorem okq_103 : okMs 103 = true := by decide +kernel
theorem okq_104 : okMs 104 = true := by decide +kernel
theorem okq_105 : okMs 105 = true := by decide +kernel
theorem okq_106 : okMs 106 = true := by decide +kernel
theorem okq_107 : okMs 107 = true := by decide +kernel
theorem okq_108 : okMs 108 = true := by decide +kernel
theorem okq_109 : okMs 109 = true := by decide +kernel
theorem okq_110 : okMs 110 = true := by decide +kernel
theorem okq_111 : okMs 111 = true := by decide +kernel
theorem okq_112 : okMs 112 = true := by decide +kernel
theorem okq_113 : okMs 113 = true := by decide +kernel
theorem okq_114 : okMs 114 = true := by decide +kernel
theorem okq_115 : okMs 115 = true := by decide +kernel
theorem okq_116 : okMs 116 = true := by decide +kernel
theorem okq_117 : okMs 117 = true := by decide +kernel
theorem okq_118 : okMs 118 = true := by decide +kernel
theorem okq_119 : okMs 119 = true := by decide +kernel
theorem okq_120 : okMs 120 = true := by decide +kernel
theorem okq_121 : okMs 121 = true := by decide +kernel
theorem okq_122 : okMs 122 = true := by decide +kernel
theorem okq_123 : okMs 123 = true := by decide +kernel
theorem okq_124 : okMs 124 = true := by decide +kernel
theorem okq_125 : okMs 125 = true := by decide +kernel
theorem okq_126 : okMs 126 = true := by decide +kernel
theorem okq_127 : okMs 127 = true := by decide +kernel
theorem okq_128 : okMs 128 = true := by decide +kernel
theorem okq_129 : okMs 129 = true := by decide +kernel
theorem okq_130 : okMs 130 = true := by decide +kernel
theorem okq_131 : okMs 131 = true := by decide +kernel
theorem okq_132 : okMs 132 = true := by decide +kernel
theorem okq_133 : okMs 133 = true := by decide +kernel
theorem okq_134 : okMs 134 = true := by decide +kernel
theorem okq_135 : okMs 135 = true := by decide +kernel
theorem okq_136 : okMs 136 = true := by decide +kernel
theorem okq_137 : okMs 137 = true := by decide +kernel
theorem okq_138 : okMs 138 = true := by decide +kernel
theorem okq_139 : okMs 139 = true := by decide +kernel
theorem okq_140 : okMs 140 = true := by decide +kernel
theorem okq_141 : okMs 141 = true := by decide +kernel
theorem okq_142 : okMs 142 = true := by decide +kernel
theorem okq_143 : okMs 143 = true := by decide +kernel
theorem okq_144 : okMs 144 = true := by decide +kernel
theorem okq_145 : okMs 145 = true := by decide +kernel
theorem okq_146 : okMs 146 = true := by decide +kernel
theorem okq_147 : okMs 147 = true := by decide +kernel
theorem okq_148 : okMs 148 = true := by decide +kernel
theorem okq_149 : okMs 149 = true := by decide +kernel
theorem okq_150 : okMs 150 = true := by decide +kernel
theorem okq_151 : okMs 151 = true := by decide +kernel
theorem okq_152 : okMs 152 = true := by decide +kernel
theorem okq_153 : okMs 153 = true := by decide +kernel
theorem okq_154 : okMs 154 = true := by decide +kernel
theorem okq_155 : okMs 155 = true := by decide +kernel
theorem okq_156 : okMs 156 = true := by decide +kernel
theorem okq_157 : okMs 157 = true := by decide +kernel
theorem okq_158 : okMs 158 = true := by decide +kernel
theorem okq_159 : okMs 159 = true := by decide +kernel
theorem okq_160 : okMs 160 = true := by decide +kernel
theorem okq_161 : okMs 161 = true := by decide +kernel
theorem okq_162 : okMs 162 = true := by decide +kernel
theorem okq_163 : okMs 163 = true := by decide +kernel
theorem okq_164 : okMs 164 = true := by decide +kernel
theorem okq_165 : okMs 165 = true := by decide +kernel
theorem okq_166 : okMs 166 = true := by decide +kernel
theorem okq_167 : okMs 167 = true := by decide +kernel
theorem okq_168 : okMs 168 = true := by decide +kernel
theorem okq_169 : okMs 169 = true := by decide +kernel
theorem okq_170 : okMs 170 = true := by decide +kernel
theorem okq_171 : okMs 171 = true := by decide +kernel
theorem okq_172 : okMs 172 = true := by decide +kernel
theorem okq_173 : okMs 173 = true := by decide +kernel
theorem okq_174 : okMs 174 = true := by decide +kernel
theorem okq_175 : okMs 175 = true := by decide +kernel
theorem okq_176 : okMs 176 = true := by decide +kernel
theorem okq_177 : okMs 177 = true := by decide +kernel
theorem okq_178 : okMs 178 = true := by decide +kernel
theorem okq_179 : okMs 179 = true := by decide +kernel
theorem okq_180 : okMs 180 = true := by decide +kernel
theorem okq_181 : okMs 181 = true := by decide +kernel
theorem okq_182 : okMs 182 = true := by decide +kernel
theorem okq_183 : okMs 183 = true := by decide +kernel
theorem okq_184 : okMs 184 = true := by decide +kernel
theorem okq_185 : okMs 185 = true := by decide +kernel
theorem okq_186 : okMs 186 = true := by decide +kernel
theorem okq_187 : okMs 187 = true := by decide +kernel
theorem okq_188 : okMs 188 = true := by decide +kernel
theorem okq_189 : okMs 189 = true := by decide +kernel
theorem okq_190 : okMs 190 = true := by decide +kernel
theorem okq_191 : okMs 191 = true := by decide +kernel
theorem okq_192 : okMs 192 = true := by decide +kernel
theorem okq_193 : okMs 193 = true := by decide +kernel
theorem okq_194 : okMs 194 = true := by decide +kernel
theorem okq_195 : okMs 195 = true := by decide +kernel
theorem okq_196 : okMs 196 = true := by decide +kernel
theorem okq_197 : okMs 197 = true := by decide +kernel
theorem okq_198 : okMs 198 = true := by decide +kernel
theorem okq_199 : okMs 199 = true := by decide +kernel
theorem okq_200 : okMs 200 = true := by decide +kernel
theorem okq_201 : okMs 201 = true := by decide +kernel
theorem okq_202 : okMs 202 = true := by decide +kernel
theorem okq_203 : okMs 203 = true := by decide +kernel
theorem okq_204 : okMs 204 = true := by decide +kernel
theorem okq_205 : okMs 205 = true := by decide +kernel
theorem okq_206 : okMs 206 = true := by decide +kernel
theorem okq_207 : okMs 207 = true := by decide +kernel
theorem okq_208 : okMs 208 = true := by decide +kernel
theorem okq_209 : okMs 209 = true := by decide +kernel
theorem okq_210 : okMs 210 = true := by decide +kernel
theorem okq_211 : okMs 211 = true := by decide +kernel
theorem okq_212 : okMs 212 = true := by decide +kernel
theorem okq_213 : okMs 213 = true := by decide +kernel
theorem okq_214 : okMs 214 = true := by decide +kernel
theorem okq_215 : okMs 215 = true := by decide +kernel
theorem okq_216 : okMs 216 = true := by decide +kernel
theorem okq_217 : okMs 217 = true := by decide +kernel
theorem okq_218 : okMs 218 = true := by decide +kernel
theorem okq_219 : okMs 219 = true := by decide +kernel
theorem okq_220 : okMs 220 = true := by decide +kernel
theorem okq_221 : okMs 221 = true := by decide +kernel
theorem okq_222 : okMs 222 = true := by decide +kernel
theorem okq_223 : okMs 223 = true := by decide +kernel
theorem okq_224 : okMs 224 = true := by decide +kernel
theorem okq_225 : okMs 225 = true := by decide +kernel
theorem okq_226 : okMs 226 = true := by decide +kernel
theorem okq_227 : okMs 227 = true := by decide +kernel
theorem okq_228 : okMs 228 = true := by decide +kernel
theorem okq_229 : okMs 229 = true := by decide +kernel
theorem okq_230 : okMs 230 = true := by decide +kernel
theorem okq_231 : okMs 231 = true := by decide +kernel
theorem okq_232 : okMs 232 = true := by decide +kernel
theorem okq_233 : okMs 233 = true := by decide +kernel
theorem okq_234 : okMs 234 = true := by decide +kernel
theorem okq_235 : okMs 235 = true := by decide +kernel
theorem okq_236 : okMs 236 = true := by decide +kernel
theorem okq_237 : okMs 237 = true := by decide +kernel
theorem okq_238 : okMs 238 = true := by decide +kernel
theorem okq_239 : okMs 239 = true := by decide +kernel
theorem okq_240 : okMs 240 = true := by decide +kernel
theorem okq_241 : okMs 241 = true := by decide +kernel
theorem okq_242 : okMs 242 = true := by decide +kernel
theorem okq_243 : okMs 243 = true := by decide +kernel
theorem okq_244 : okMs 244 = true := by decide +kernel
theorem okq_245 : okMs 245 = true := by decide +kernel
theorem okq_246 : okMs 246 = true := by decide +kernel
end
section
theorem okq_247 : okMs 247 = true := by decide +kernel
theorem okq_248 : okMs 248 = true := by decide +kernel
theorem okq_249 : okMs 249 = true := by decide +kernel
theorem okq_250 : okMs 250 = true := by decide +kernel
theorem okq_251 : okMs 251 = true := by decide +kernel
theorem okq_252 : okMs 252 = true := by decide +kernel
theorem okq_253 : okMs 253 = true := by decide +kernel
theorem okq_254 : okMs 254 = true := by decide +kernel
theorem okq_255 : okMs 255 = true := by decide +kernel
theorem okq_256 : okMs 256 = true := by decide +kernel
theorem okq_257 : okMs 257 = true := by decide +kernel
theorem okq_258 : okMs 258 = true := by decide +kernel
theorem okq_259 : okMs 259 = true := by decide +kernel
theorem okq_260 : okMs 260 = true := by decide +kernel
theorem okq_261 : okMs 261 = true := by decide +kernel
theorem okq_262 : okMs 262 = true := by decide +kernel
theorem okq_263 : okMs 263 = true := by decide +kernel
theorem okq_264 : okMs 264 = true := by decide +kernel
theorem okq_265 : okMs 265 = true := by decide +kernel
theorem okq_266 : okMs 266 = true := by decide +kernel
theorem okq_267 : okMs 267 = true := by decide +kernel
theorem okq_268 : okMs 268 = true := by decide +kernel
theorem okq_269 : okMs 269 = true := by decide +kernel
theorem okq_270 : okMs 270 = true := by decide +kernel
theorem okq_271 : okMs 271 = true := by decide +kernel
theorem okq_272 : okMs 272 = true := by decide +kernel
theorem okq_273 : okMs 273 = true := by decide +kernel
theorem okq_274 : okMs 274 = true := by decide +kernel
theorem okq_275 : okMs 275 = true := by decide +kernel
theorem okq_276 : okMs 276 = true := by decide +kernel
theorem okq_277 : okMs 277 = true := by decide +kernel
theorem okq_278 : okMs 278 = true := by decide +kernel
theorem okq_279 : okMs 279 = true := by decide +kernel
theorem okq_280 : okMs 280 = true := by decide +kernel
theorem okq_281 : okMs 281 = true := by decide +kernel
theorem okq_282 : okMs 282 = true := by decide +kernel
theorem okq_283 : okMs 283 = true := by decide +kernel
theorem okq_284 : okMs 284 = true := by decide +kernel
theorem okq_285 : okMs 285 = true := by decide +kernel
theorem okq_286 : okMs 286 = true := by decide +kernel
theorem okq_287 : okMs 287 = true := by decide +kernel
theorem okq_288 : okMs 288 = true := by decide +kernel
theorem okq_289 : okMs 289 = true := by decide +kernel
theorem okq_290 : okMs 290 = true := by decide +kernel
theorem okq_291 : okMs 291 = true := by decide +kernel
theorem okq_292 : okMs 292 = true := by decide +kernel
theorem okq_293 : okMs 293 = true := by decide +kernel
theorem okq_294 : okMs 294 = true := by decide +kernel
theorem okq_295 : okMs 295 = true := by decide +kernel
theorem okq_296 : okMs 296 = true := by decide +kernel
theorem okq_297 : okMs 297 = true := by decide +kernel
theorem okq_298 : okMs 298 = true := by decide +kernel
theorem okq_299 : okMs 299 = true := by decide +kernel
theorem okq_300 : okMs 300 = true := by decide +kernel
theorem okq_301 : okMs 301 = true := by decide +kernel
theorem okq_302 : okMs 302 = true := by decide +kernel
theorem okq_303 : okMs 303 = true := by decide +kernel
theorem okq_304 : okMs 304 = true := by decide +kernel
theorem okq_305 : okMs 305 = true := by decide +kernel
theorem okq_306 : okMs 306 = true := by decide +kernel
theorem okq_307 : okMs 307 = true := by decide +kernel
theorem okq_308 : okMs 308 = true := by decide +kernel
theorem okq_309 : okMs 309 = true := by decide +kernel
theorem okq_310 : okMs 310 = true := by decide +kernel
theorem okq_311 : okMs 311 = true := by decide +kernel
theorem okq_312 : okMs 312 = true := by decide +kernel
theorem okq_313 : okMs 313 = true := by decide +kernel
theorem okq_314 : okMs 314 = true := by decide +kernel
theorem okq_315 : okMs 315 = true := by decide +kernel
theorem okq_316 : okMs 316 = true := by decide +kernel
theorem okq_317 : okMs 317 = true := by decide +kernel
theorem okq_318 : okMs 318 = true := by decide +kernel
theorem okq_319 : okMs 319 = true := by decide +kernel
theorem okq_320 : okMs 320 = true := by decide +kernel
theorem okq_321 : okMs 321 = true := by decide +kernel
theorem okq_322 : okMs 322 = true := by decide +kernel
theorem okq_323 : okMs 323 = true := by decide +kernel
theorem okq_324 : okMs 324 = true := by decide +kernel
theorem okq_325 : okMs 325 = true := by decide +kernel
theorem okq_326 : okMs 326 = true := by decide +kernel
theorem okq_327 : okMs 327 = true := by decide +kernel
theorem okq_328 : okMs 328 = true := by decide +kernel
theorem okq_329 : okMs 329 = true := by decide +kernel
theorem okq_330 : okMs 330 = true := by decide +kernel
theorem okq_331 : okMs 331 = true := by decide +kernel
theorem okq_332 : okMs 332 = true := by decide +kernel
theorem okq_333 : okMs 333 = true := by decide +kernel
theorem okq_334 : okMs 334 = true := by decide +kernel
theorem okq_335 : okMs 335 = true := by decide +kernel
theorem okq_336 : okMs 336 = true := by decide +kernel
theorem okq_337 : okMs 337 = true := by decide +kernel
theorem okq_338 : okMs 338 = true := by decide +kernel
theorem okq_339 : okMs 339 = true := by decide +kernel
theorem okq_340 : okMs 340 = true := by decide +kernel
theorem okq_341 : okMs 341 = true := by decide +kernel
theorem okq_342 : okMs 342 = true := by decide +kernel
theorem okq_343 : okMs 343 = true := by decide +kernel
theorem okq_344 : okMs 344 = true := by decide +kernel
theorem okq_345 : okMs 345 = true := by decide +kernel
theorem okq_346 : okMs 346 = true := by decide +kernel
theorem okq_347 : okMs 347 = true := by decide +kernel
theorem okq_348 : okMs 348 = true := by decide +kernel
theorem okq_349 : okMs 349 = true := by decide +kernel
theorem okq_350 : okMs 350 = true := by decide +kernel
theorem okq_351 : okMs 351 = true := by decide +kernel
theorem okq_352 : okMs 352 = true := by decide +kernel
theorem okq_353 : okMs 353 = true := by decide +kernel
theorem okq_354 : okMs 354 = true := by decide +kernel
theorem okq_355 : okMs 355 = true := by decide +kernel
theorem okq_356 : okMs 356 = true := by decide +kernel
theorem okq_357 : okMs 357 = true := by decide +kernel
theorem okq_358 : okMs 358 = true := by decide +kernel
theorem okq_359 : okMs 359 = true := by decide +kernel
theorem okq_360 : okMs 360 = true := by decide +kernel
theorem okq_361 : okMs 361 = true := by decide +kernel
theorem okq_362 : okMs 362 = true := by decide +kernel
theorem okq_363 : okMs 363 = true := by decide +kernel
theorem okq_364 : okMs 364 = true := by decide +kernel
theorem okq_365 : okMs 365 = true := by decide +kernel
theorem okq_366 : okMs 366 = true := by decide +kernel
theorem okq_367 : okMs 367 = true := by decide +kernel
theorem okq_368 : okMs 368 = true := by decide +kernel
theorem okq_369 : okMs 369 = true := by decide +kernel
theorem okq_370 : okMs 370 = true := by decide +kernel
end
section
set_option maxRecDepth 100000 in
theorem okl_0 : okRs 371 (some 294) cd_371_0 po_371_0 = true := by decide +kernel
set_option maxRecDepth 100000 in
theorem okl_1 : okRs 371 (some 361) cd_371_1 po_371_1 = true := by decide +kernel
set_option maxRecDepth 100000 in
theorem okl_2 : okRs 371 (some 444) cd_371_2 po_371_2 = true := by decide +kernel
set_option maxRecDepth 100000 in
theorem okl_3 : okRs 371 (some 517) cd_371_3 po_371_3 = true := by decide +kernel
set_option maxRecDepth 100000 in
theorem okl_4 : okRs 371 (some 590) cd_371_4 po_371_4 = true := by decide +kernel
set_option maxRecDepth 100000 in
theorem okl_5 : okRs 371 (some 662) cd_371_5 po_371_5 = true := by decide +kernel
set_option maxRecDepth 100000 in
theorem okl_6 : okRs 371 (some 735) cd_371_6 po_371_6 = true := by decide +kernel
set_option maxRecDepth 100000 in
theorem okl_7 : okRs 371 (some 805) cd_371_7 po_371_7 = true := by decide +kernel
set_option maxRecDepth 100000 in
theorem okl_8 : okRs 371 (some 877) cd_371_8 po_371_8 = true := by decide +kernel
set_option maxRecDepth 100000 in
theorem okl_9 : okRs 371 (some 950) cd_371_9 po_371_9 = true := by decide +kernel
set_option maxRecDepth 100000 in
theorem okl_10 : okRs 371 (some 1020) cd_371_10 po_371_10 = true := by decide +kernel
set_option maxRecDepth 100000 in
theorem okl_11 : okRs 371 (some 1092) cd_371_11 po_371_11 = true := by decide +kernel
set_option maxRecDepth 100000 in
theorem okl_12 : okRs 371 (some 1166) cd_371_12 po_371_12 = true := by decide +kernel
set_option maxRecDepth 100000 in
theorem okl_13 : okRs 371 (some 1246) cd_371_13 po_371_13 = true := by decide +kernel
set_option maxRecDepth 100000 in
theorem okl_14 : okRs 371 (some 1319) cd_371_14 po_371_14 = true := by decide +kernel
set_option maxRecDepth 100000 in
theorem okl_15 : okRs 371 (some 1392) cd_371_15 po_371_15 = true := by decide +kernel
set_option maxRecDepth 100000 in
theorem okl_16 : okRs 371 (some 1464) cd_371_16 po_371_16 = true := by decide +kernel
set_option maxRecDepth 100000 in
theorem okl_17 : okRs 371 (some 1537) cd_371_17 po_371_17 = true := by decide +kernel
set_option maxRecDepth 100000 in
theorem okl_18 : okRs 371 (some 1608) cd_371_18 po_371_18 = true := by decide +kernel
set_option maxRecDepth 100000 in
theorem okl_19 : okRs 371 (some 1680) cd_371_19 po_371_19 = true := by decide +kernel
set_option maxRecDepth 100000 in
theorem okl_20 : okRs 371 (some 1751) cd_371_20 po_371_20 = true := by decide +kernel
set_option maxRecDepth 100000 in
theorem okl_21 : okRs 371 (some 1823) cd_371_21 po_371_21 = true := by decide +kernel
end
section
set_option maxRecDepth 100000 in
theorem okl_22 : okRs 371 (some 1895) cd_371_22 po_371_22 = true := by decide +kernel
set_option maxRecDepth 100000 in
theorem okl_23 : okRs 371 (some 1966) cd_371_23 po_371_23 = true := by decide +kernel
set_option maxRecDepth 100000 in
theorem okl_24 : okRs 371 (some 2040) cd_371_24 po_371_24 = true := by decide +kernel
set_option maxRecDepth 100000 in
theorem okl_25 : okRs 371 (some 2116) cd_371_25 po_371_25 = true := by decide +kernel
set_option maxRecDepth 100000 in
theorem okl_26 : okRs 371 (some 2185) cd_371_26 po_371_26 = true := by decide +kernel
set_option maxRecDepth 100000 in
theorem okl_27 : okRs 371 (some 2254) cd_371_27 po_371_27 = true := by decide +kernel
set_option maxRecDepth 100000 in
theorem okl_28 : okRs 371 (some 2334) cd_371_28 po_371_28 = true := by decide +kernel
set_option maxRecDepth 100000 in
theorem okl_29 : okRs 371 (some 2407) cd_371_29 po_371_29 = true := by decide +kernel
set_option maxRecDepth 100000 in
theorem okl_30 : okRs 371 (some 2481) cd_371_30 po_371_30 = true := by decide +kernel
set_option maxRecDepth 100000 in
theorem okl_31 : okRs 371 (some 2553) cd_371_31 po_371_31 = true := by decide +kernel
set_option maxRecDepth 100000 in
theorem okl_32 : okRs 371 (some 2623) cd_371_32 po_371_32 = true := by decide +kernel
set_option maxRecDepth 100000 in
theorem okl_33 : okRs 371 (some 2695) cd_371_33 po_371_33 = true := by decide +kernel
set_option maxRecDepth 100000 in
theorem okl_34 : okRs 371 (some 2764) cd_371_34 po_371_34 = true := by decide +kernel
set_option maxRecDepth 100000 in
theorem okl_35 : okRs 371 (some 2831) cd_371_35 po_371_35 = true := by decide +kernel
set_option maxRecDepth 100000 in
theorem okl_36 : okRs 371 (some 2908) cd_371_36 po_371_36 = true := by decide +kernel
set_option maxRecDepth 100000 in
theorem okl_37 : okRs 371 (some 2980) cd_371_37 po_371_37 = true := by decide +kernel
set_option maxRecDepth 100000 in
theorem okl_38 : okRs 371 (some 3053) cd_371_38 po_371_38 = true := by decide +kernel
set_option maxRecDepth 100000 in
theorem okl_39 : okRs 371 (some 3125) cd_371_39 po_371_39 = true := by decide +kernel
set_option maxRecDepth 100000 in
theorem okl_40 : okRs 371 (some 3194) cd_371_40 po_371_40 = true := by decide +kernel
set_option maxRecDepth 100000 in
theorem okl_41 : okRs 371 (some 3268) cd_371_41 po_371_41 = true := by decide +kernel
set_option maxRecDepth 100000 in
theorem okl_42 : okRs 371 (some 3343) cd_371_42 po_371_42 = true := by decide +kernel
set_option maxRecDepth 100000 in
theorem okl_43 : okRs 371 (none) cd_371_43 po_371_43 = true := by decide +kernel
end
section
/-! SM: a small machine over a flat heap. Its rows are the class files' instructions, linked ahead: numbers of fields, calls and targets are its own. -/
abbrev SH : Type := (Nat → Nat → Int32) × (Nat → Nat → Value) × (Nat → Nat → Int64) × (Nat → Nat) × (Nat → Nat) × Nat × Nat
abbrev SL : Type := List (Option Value)
abbrev SR : Type := Option ((Option Value ⊕ Nat) × SH)
/-- ints of a cell -/
def sI (σ : SH) (a k : Nat) : Int32 := σ.1 a k
/-- references of a cell -/
def sV (σ : SH) (a k : Nat) : Value := σ.2.1 a k
/-- longs of a cell -/
def sJ (σ : SH) (a k : Nat) : Int64 := σ.2.2.1 a k
/-- what a cell is: 1, 2, 3 rows of int, byte, long; 4, 5, 6 the script, a constant's bytes, the enum's constants; 10 + c a row of references to class c; 100 + c an object of class c -/
def sT (σ : SH) (a : Nat) : Nat := σ.2.2.2.1 a
/-- the length of a row -/
def sN (σ : SH) (a : Nat) : Nat := σ.2.2.2.2.1 a
/-- the next address -/
def sZ (σ : SH) : Nat := σ.2.2.2.2.2.1
/-- slots made so far -/
def sS (σ : SH) : Nat := σ.2.2.2.2.2.2
def wI (σ : SH) (a k : Nat) (x : Int32) : SH := (fun a' k' => if a' = a ∧ k' = k then x else σ.1 a' k', σ.2)
def wV (σ : SH) (a k : Nat) (x : Value) : SH := (σ.1, fun a' k' => if a' = a ∧ k' = k then x else σ.2.1 a' k', σ.2.2)
def wJ (σ : SH) (a k : Nat) (x : Int64) : SH := (σ.1, σ.2.1, fun a' k' => if a' = a ∧ k' = k then x else σ.2.2.1 a' k', σ.2.2.2)
/-- a new cell: its kind, its length, its slots -/
def mkC (σ : SH) (t n s : Nat) : SH :=
  (fun a k => if a = sZ σ then 0 else sI σ a k, fun a k => if a = sZ σ then .null else sV σ a k, fun a k => if a = sZ σ then 0 else sJ σ a k,
    fun a => if a = sZ σ then t else sT σ a, fun a => if a = sZ σ then n else sN σ a, sZ σ + 1, sS σ + s)
/-- n ints copied from place p of row a to place q of row b -/
def cpI (σ : SH) (a p b q n : Nat) : SH := (fun a' k' => if a' = b ∧ q ≤ k' ∧ k' < q + n then σ.1 a (p + (k' - q)) else σ.1 a' k', σ.2)
def irm (x y : Int32) : Int32 := x - x / y * y
def shl (x y : Int32) : Int32 := x <<< (y &&& 31)
def shr (x y : Int32) : Int32 := x >>> (y &&& 31)
def ush (x y : Int32) : Int32 := (x.toUInt32 >>> (y.toUInt32 &&& Int32.toUInt32 31)).toInt32
def i2b (x : Int32) : Int32 := x.toInt8.toInt32
def i2c (x : Int32) : Int32 := (x.toUInt32 % 65536).toInt32
def lcm (x y : Int64) : Int32 := lg_cmp x y
def bIn (i : Int32) (n : Nat) : Bool := !(decide (i < 0) || decide (n ≤ i.toNatClampNeg))
def aRef (v : Value) (k : Nat → SR) : SR := match v with
  | .ref a => k a
  | _ => none
def rd2 (v : Value) (kn : SR) (kr : Nat → SR) : SR := match v with
  | .null => kn
  | .ref a => kr a
  | _ => none
/-- what comes of a call: a value, nothing, a throw -/
def onI (r : SR) (k : Int32 → SH → SR) (kx : Nat → SH → SR) : SR := match r with
  | some (.inl (some (.int x)), σ) => k x σ
  | some (.inr e, σ) => kx e σ
  | _ => none
def onV (r : SR) (k : SH → SR) (kx : Nat → SH → SR) : SR := match r with
  | some (.inl none, σ) => k σ
  | some (.inr e, σ) => kx e σ
  | _ => none
def onR (r : SR) (k : Nat → SH → SR) (kx : Nat → SH → SR) : SR := match r with
  | some (.inl (some (.ref a)), σ) => k a σ
  | some (.inr e, σ) => kx e σ
  | _ => none
def onQ (r : SR) (kn : SH → SR) (k : Nat → SH → SR) (kx : Nat → SH → SR) : SR := match r with
  | some (.inl (some .null), σ) => kn σ
  | some (.inl (some (.ref a)), σ) => k a σ
  | some (.inr e, σ) => kx e σ
  | _ => none
def gI (σ : SH) (t f : Nat) (v : Value) (k : Int32 → SR) : SR := aRef v fun a => if sT σ a = t then k (sI σ a f) else none
def gR (σ : SH) (t f : Nat) (v : Value) (k : Nat → SR) : SR := aRef v fun a => if sT σ a = t then aRef (sV σ a f) k else none
def gQ (σ : SH) (t f : Nat) (v : Value) (kn : SR) (k : Nat → SR) : SR := aRef v fun a => if sT σ a = t then rd2 (sV σ a f) kn k else none
def pI (σ : SH) (t f : Nat) (v : Value) (x : Int32) (k : SH → SR) : SR := aRef v fun a => if sT σ a = t then k (wI σ a f x) else none
def pB (σ : SH) (t f : Nat) (v : Value) (x : Int32) (k : SH → SR) : SR := aRef v fun a => if sT σ a = t ∧ (x = 0 ∨ x = 1) then k (wI σ a f x) else none
def pV (σ : SH) (t f : Nat) (v w : Value) (k : SH → SR) : SR := aRef v fun a => if sT σ a = t then rd2 w (k (wV σ a f .null)) (fun b => k (wV σ a f (.ref b))) else none
def aI (σ : SH) (t : Nat) (v : Value) (i : Int32) (k : Int32 → SR) : SR := aRef v fun a => if sT σ a = t ∧ bIn i (sN σ a) = true then k (sI σ a i.toNatClampNeg) else none
def aJ (σ : SH) (v : Value) (i : Int32) (k : Int64 → SR) : SR := aRef v fun a => if sT σ a = 3 ∧ bIn i (sN σ a) = true then k (sJ σ a i.toNatClampNeg) else none
def aR (σ : SH) (v : Value) (i : Int32) (k : Nat → SR) : SR := aRef v fun a => if (10 ≤ sT σ a ∧ sT σ a < 100) ∧ bIn i (sN σ a) = true then aRef (sV σ a i.toNatClampNeg) k else none
/-- the row of the enum's constants -/
def aS (σ : SH) (v : Value) (i : Int32) (k : Nat → SR) : SR := aRef v fun a => if sT σ a = 6 ∧ bIn i (sN σ a) = true then aRef (sV σ a i.toNatClampNeg) k else none
def uI (σ : SH) (v : Value) (i x : Int32) (k : SH → SR) : SR := aRef v fun a => if sT σ a = 1 ∧ bIn i (sN σ a) = true then k (wI σ a i.toNatClampNeg x) else none
def uB (σ : SH) (v : Value) (i x : Int32) (k : SH → SR) : SR := aRef v fun a => if sT σ a = 2 ∧ bIn i (sN σ a) = true then k (wI σ a i.toNatClampNeg (i2b x)) else none
def uJ (σ : SH) (v : Value) (i : Int32) (x : Int64) (k : SH → SR) : SR := aRef v fun a => if sT σ a = 3 ∧ bIn i (sN σ a) = true then k (wJ σ a i.toNatClampNeg x) else none
def uR (σ : SH) (v : Value) (i : Int32) (w : Value) (k : SH → SR) : SR := aRef v fun a => aRef w fun b => if (10 ≤ sT σ a ∧ sT σ a < 24) ∧ sT σ b = sT σ a + 90 ∧ bIn i (sN σ a) = true then k (wV σ a i.toNatClampNeg (.ref b)) else none
def aN (σ : SH) (v : Value) (k : Int32 → SR) : SR := aRef v fun a => if (1 ≤ sT σ a ∧ sT σ a ≤ 6) ∨ (10 ≤ sT σ a ∧ sT σ a < 100) then k (Int32.ofNat (sN σ a)) else none
def nwA (σ : SH) (t : Nat) (n : Int32) (k : Nat → SH → SR) : SR := if n < 0 ∨ 60000 < n.toNatClampNeg then none else k (sZ σ) (mkC σ t n.toNatClampNeg n.toNatClampNeg)
def acp (σ : SH) (v : Value) (p : Int32) (w : Value) (q n : Int32) (k : SH → SR) : SR := aRef v fun a => aRef w fun b =>
  if sT σ a = 1 ∧ sT σ b = 1 ∧ a ≠ b ∧ ¬ p < 0 ∧ ¬ q < 0 ∧ ¬ n < 0 ∧ p.toNatClampNeg + n.toNatClampNeg ≤ sN σ a ∧ q.toNatClampNeg + n.toNatClampNeg ≤ sN σ b then k (cpI σ a p.toNatClampNeg b q.toNatClampNeg n.toNatClampNeg) else none
/-- no wide value begins there -/
def ok1 : Option (Option Value) → Bool
  | some (some (.long _)) => false
  | some (some (.double _)) => false
  | _ => true
/-- a store into a local -/
def stL (L : SL) (i : Nat) (v : Value) : Option SL := if i < L.length then (if i = 0 then some (L.set i (some v)) else if ok1 L[i - 1]? = true then some (L.set i (some v)) else none) else none
def stL2 (L : SL) (i : Nat) (v : Value) : Option SL := if i + 1 < L.length then (if i = 0 then some ((L.set i (some v)).set (i + 1) none) else if ok1 L[i - 1]? = true then some ((L.set i (some v)).set (i + 1) none) else none) else none
/-- locals that nobody reads any more are forgotten -/
def kilL : Nat → SL → SL
  | _, [] => []
  | m, v :: r => (if m % 2 = 1 then none else v) :: kilL (m / 2) r
def cat2 : Value → Nat
  | .long _ => 2
  | .double _ => 2
  | _ => 1
/-- how many words lie on a stack -/
def wds (st : List Value) : Nat := (st.map cat2).sum
/-- slots of an object of a class -/
def nsl (c : Nat) : Nat := nthD [3, 14, 7, 4, 6, 3, 8, 6, 7, 0, 8, 12, 24] c 0
/-- a conditional jump -/
def cnd (c : ClassFile.Cond) (x y : Int32) (kt kf : SR) : SR := match c with
  | .eq => if x = y then kt else kf
  | .ne => if x = y then kf else kt
  | .lt => if x < y then kt else kf
  | .ge => if x < y then kf else kt
  | .gt => if y < x then kt else kf
  | .le => if y < x then kf else kt
end
section
/-- a switch over successive numbers -/
def tsw (x : Int32) (i : Int) (ts : List Int) (d : SR) (E : Nat → SR) : SR := match ts with
  | [] => d
  | t :: r => if x = Int32.ofInt i then E (jmp t) else tsw x (i + 1) r d E
/-- what goes on behind a call -/
def doC (r : Nat) (res : SR) (L : SL) (st : List Value) (k : SL → List Value → SH → SR) (kx : Nat → SH → SR) : SR := match r with
  | 0 => onV res (fun σ => k L st σ) kx
  | 1 => onI res (fun x σ => k L (.int x :: st) σ) kx
  | 2 => onR res (fun a σ => k L (.ref a :: st) σ) kx
  | _ => onQ res (fun σ => k L (.null :: st) σ) (fun a σ => k L (.ref a :: st) σ) kx
/-- a throw that came out of a call -/
def kxc (h : Option Int32) (e : Nat) (σ : SH) : SR := match h with
  | some c => if c = 0 then none else some (.inl (some (.int c)), σ)
  | none => some (.inr e, σ)
def step1 (C : Nat → List Value → SH → SR) (X : Nat → Nat → Option Int32) (E : Nat → SL → List Value → SH → SR) (pc : Nat) (i : Instr) (L : SL) (st : List Value) (σ : SH) (k : SL → List Value → SH → SR) : SR :=
  match i with
  | .iconst n => k L (.int (Int32.ofInt n) :: st) σ
  | .lconst n => k L (.long (Int64.ofNat n.val) :: st) σ
  | .ldc2_w n => k L (.long (Int64.ofNat n) :: st) σ
  | .aconst_null => k L (.null :: st) σ
  | .ldc n => k L (.ref n :: st) σ
  | .getstatic n => if n < 1000 then k L (.ref n :: st) σ else k L (.int (Int32.ofNat (n - 1000)) :: st) σ
  | .iload n => (match L[n]? with
    | some (some (.int x)) => k L (.int x :: st) σ
    | _ => none)
  | .lload n => (match L[n]? with
    | some (some (.long x)) => k L (.long x :: st) σ
    | _ => none)
  | .aload n => (match L[n]? with
    | some (some (.ref x)) => k L (.ref x :: st) σ
    | some (some .null) => k L (.null :: st) σ
    | _ => none)
  | .istore n => (match st with
    | .int x :: st => (match stL L n (.int x) with
      | some L' => k L' st σ
      | none => none)
    | _ => none)
  | .lstore n => (match st with
    | .long x :: st => (match stL2 L n (.long x) with
      | some L' => k L' st σ
      | none => none)
    | _ => none)
  | .astore n => (match st with
    | .ref x :: st => (match stL L n (.ref x) with
      | some L' => k L' st σ
      | none => none)
    | .null :: st => (match stL L n .null with
      | some L' => k L' st σ
      | none => none)
    | _ => none)
  | .iinc n c => (match L[n]? with
    | some (some (.int x)) => (match stL L n (.int (x + Int32.ofInt c)) with
      | some L' => k L' st σ
      | none => none)
    | _ => none)
  | .iadd => (match st with
    | .int y :: .int x :: st => k L (.int (x + y) :: st) σ
    | _ => none)
  | .isub => (match st with
    | .int y :: .int x :: st => k L (.int (x - y) :: st) σ
    | _ => none)
  | .imul => (match st with
    | .int y :: .int x :: st => k L (.int (x * y) :: st) σ
    | _ => none)
  | .iand => (match st with
    | .int y :: .int x :: st => k L (.int (x &&& y) :: st) σ
    | _ => none)
  | .ior => (match st with
    | .int y :: .int x :: st => k L (.int (x ||| y) :: st) σ
    | _ => none)
  | .ixor => (match st with
    | .int y :: .int x :: st => k L (.int (x ^^^ y) :: st) σ
    | _ => none)
  | .idiv => (match st with
    | .int y :: .int x :: st => if y = 0 then none else k L (.int (x / y) :: st) σ
    | _ => none)
  | .irem => (match st with
    | .int y :: .int x :: st => if y = 0 then none else k L (.int (irm x y) :: st) σ
    | _ => none)
  | .ishl => (match st with
    | .int y :: .int x :: st => k L (.int (shl x y) :: st) σ
    | _ => none)
  | .ishr => (match st with
    | .int y :: .int x :: st => k L (.int (shr x y) :: st) σ
    | _ => none)
  | .iushr => (match st with
    | .int y :: .int x :: st => k L (.int (ush x y) :: st) σ
    | _ => none)
  | .ineg => (match st with
    | .int x :: st => k L (.int (-x) :: st) σ
    | _ => none)
  | .i2l => (match st with
    | .int x :: st => k L (.long x.toInt64 :: st) σ
    | _ => none)
  | .l2i => (match st with
    | .long x :: st => k L (.int x.toInt32 :: st) σ
    | _ => none)
  | .i2b => (match st with
    | .int x :: st => k L (.int (i2b x) :: st) σ
    | _ => none)
  | .i2c => (match st with
    | .int x :: st => k L (.int (i2c x) :: st) σ
    | _ => none)
  | .lmul => (match st with
    | .long y :: .long x :: st => k L (.long (x * y) :: st) σ
    | _ => none)
  | .lsub => (match st with
    | .long y :: .long x :: st => k L (.long (x - y) :: st) σ
    | _ => none)
  | .ldiv => (match st with
    | .long y :: .long x :: st => if y = 0 then none else k L (.long (x / y) :: st) σ
    | _ => none)
  | .lcmp => (match st with
    | .long y :: .long x :: st => k L (.int (lcm x y) :: st) σ
    | _ => none)
  | .pop => (match st with
    | v :: st => if cat2 v = 1 then k L st σ else none
    | _ => none)
  | .dup => (match st with
    | v :: st => if cat2 v = 1 then k L (v :: v :: st) σ else none
    | _ => none)
  | .dup2 => (match st with
    | v :: w :: st => if cat2 v = 1 ∧ cat2 w = 1 then k L (v :: w :: v :: w :: st) σ else none
    | _ => none)
  | .goto t => E (jmp t) L st σ
  | .goto_w t => E (jmp t) L st σ
  | .jsr m => k (kilL m.toNat L) st σ
  | .if_icmp c t => (match st with
    | .int y :: .int x :: st => cnd c x y (E (jmp t) L st σ) (k L st σ)
    | _ => none)
  | .ifCond c t => (match st with
    | .int x :: st => cnd c x 0 (E (jmp t) L st σ) (k L st σ)
    | _ => none)
  | .if_acmp c t => (match st with
    | .ref y :: .ref x :: st => if x < 38 ∧ y < 38 then (match c with
      | .eq => if x = y then E (jmp t) L st σ else k L st σ
      | .ne => if x = y then k L st σ else E (jmp t) L st σ) else none
    | _ => none)
  | .ifnull t => (match st with
    | .null :: st => E (jmp t) L st σ
    | .ref a :: st => if a = 39 then none else k L st σ
    | _ => none)
  | .ifnonnull t => (match st with
    | .null :: st => k L st σ
    | .ref a :: st => if a = 39 then none else E (jmp t) L st σ
    | _ => none)
  | .tableswitch d lo _ ts => (match st with
    | .int x :: st => tsw x lo ts.toList (E (jmp d) L st σ) (fun t => E t L st σ)
    | _ => none)
  | .getfield n => (match st with
    | v :: st => (match n % 10 with
      | 0 => gI σ (100 + n / 1000) (n / 10 % 100) v (fun x => k L (.int x :: st) σ)
      | 1 => gR σ (100 + n / 1000) (n / 10 % 100) v (fun a => k L (.ref a :: st) σ)
      | _ => gQ σ (100 + n / 1000) (n / 10 % 100) v (k L (.null :: st) σ) (fun a => k L (.ref a :: st) σ))
    | _ => none)
  | .putfield n => (match st with
    | w :: v :: st => (match n % 10, w with
      | 0, .int x => pI σ (100 + n / 1000) (n / 10 % 100) v x (fun σ => k L st σ)
      | 2, .int x => pB σ (100 + n / 1000) (n / 10 % 100) v x (fun σ => k L st σ)
      | 1, w => pV σ (100 + n / 1000) (n / 10 % 100) v w (fun σ => k L st σ)
      | _, _ => none)
    | _ => none)
  | .iaload => (match st with
    | .int i :: v :: st => aI σ 1 v i (fun x => k L (.int x :: st) σ)
    | _ => none)
  | .baload => (match st with
    | .int i :: v :: st => aI σ 2 v i (fun x => k L (.int x :: st) σ)
    | _ => none)
  | .caload => (match st with
    | .int i :: v :: st => aI σ 4 v i (fun x => k L (.int x :: st) σ)
    | _ => none)
  | .saload => (match st with
    | .int i :: v :: st => aI σ 5 v i (fun x => k L (.int x :: st) σ)
    | _ => none)
  | .daload => (match st with
    | .int i :: v :: st => aS σ v i (fun a => k L (.ref a :: st) σ)
    | _ => none)
  | .laload => (match st with
    | .int i :: v :: st => aJ σ v i (fun x => k L (.long x :: st) σ)
    | _ => none)
  | .aaload => (match st with
    | .int i :: v :: st => aR σ v i (fun a => k L (.ref a :: st) σ)
    | _ => none)
  | .iastore => (match st with
    | .int x :: .int i :: v :: st => uI σ v i x (fun σ => k L st σ)
    | _ => none)
  | .bastore => (match st with
    | .int x :: .int i :: v :: st => uB σ v i x (fun σ => k L st σ)
    | _ => none)
  | .lastore => (match st with
    | .long x :: .int i :: v :: st => uJ σ v i x (fun σ => k L st σ)
    | _ => none)
  | .aastore => (match st with
    | w :: .int i :: v :: st => uR σ v i w (fun σ => k L st σ)
    | _ => none)
  | .arraylength => (match st with
    | v :: st => aN σ v (fun x => k L (.int x :: st) σ)
    | _ => none)
  | .new c => if c < 100 then k L (.ref (sZ σ) :: st) (mkC σ (100 + c) 0 (nsl c)) else (match st with
    | [] => some (.inr (c - 100), mkC σ 0 0 6)
    | _ => none)
  | .newarray t => (match st with
    | .int n :: st => (match t with
      | .int => nwA σ 1 n (fun a σ => k L (.ref a :: st) σ)
      | .byte => nwA σ 2 n (fun a σ => k L (.ref a :: st) σ)
      | .long => nwA σ 3 n (fun a σ => k L (.ref a :: st) σ)
      | _ => none)
    | _ => none)
  | .anewarray c => (match st with
    | .int n :: st => nwA σ (10 + c) n (fun a σ => k L (.ref a :: st) σ)
    | _ => none)
  | .monitorexit => (match st with
    | .ref a :: st => if a ≠ 39 ∧ wds st ≤ 8 then k L st σ else none
    | _ => none)
  | .monitorenter => (match st with
    | .int n :: .int q :: w :: .int p :: v :: st => if wds st ≤ 8 then acp σ v p w q n (fun σ => k L st σ) else none
    | _ => none)
  | .invokestatic n => if n / 10 % 10 ≤ st.length ∧ wds (st.drop (n / 10 % 10)) ≤ 8 ∧ wds (st.take (n / 10 % 10)) = n / 10 % 10 then doC (n % 10) (C (n / 10000) (st.take (n / 10 % 10)).reverse σ) L (st.drop (n / 10 % 10)) k (fun e σ => kxc (X pc e) e σ) else none
  | .invokedynamic n => if n / 10 % 10 ≤ st.length ∧ wds (st.drop (n / 10 % 10)) ≤ 8 ∧ wds (st.take (n / 10 % 10)) = n / 10 % 10 then doC (n % 10) (C (n / 10000) (st.take (n / 10 % 10)).reverse σ) L (st.drop (n / 10 % 10)) k (fun _ _ => none) else none
  | .invokespecial n => if n / 10 % 10 ≤ st.length ∧ wds (st.drop (n / 10 % 10)) ≤ 8 ∧ wds (st.take (n / 10 % 10)) = n / 10 % 10 then (match (st.take (n / 10 % 10)).reverse with
    | .ref a :: as => if a = 39 then none else doC (n % 10) (C (n / 10000) (.ref a :: as) σ) L (st.drop (n / 10 % 10)) k (fun _ _ => none)
    | _ => none) else none
  | .invokevirtual n => if n / 10 % 10 ≤ st.length ∧ wds (st.drop (n / 10 % 10)) ≤ 8 ∧ wds (st.take (n / 10 % 10)) = n / 10 % 10 then (match (st.take (n / 10 % 10)).reverse with
    | .ref a :: as => if sT σ a = 100 + n / 100 % 100 then doC (n % 10) (C (n / 10000) (.ref a :: as) σ) L (st.drop (n / 10 % 10)) k (fun e σ => kxc (X pc e) e σ) else none
    | _ => none) else none
  | .ireturn => (match st with
    | [.int x] => some (.inl (some (.int x)), σ)
    | _ => none)
  | .freturn => (match st with
    | [.int x] => if x = 0 ∨ x = 1 then some (.inl (some (.int x)), σ) else none
    | _ => none)
  | .dreturn => (match st with
    | [.int x] => if i2c x = x then some (.inl (some (.int x)), σ) else none
    | _ => none)
  | .lreturn => (match st with
    | [.int x] => if i2b x = x then some (.inl (some (.int x)), σ) else none
    | _ => none)
  | .areturn => (match st with
    | [.ref x] => some (.inl (some (.ref x)), σ)
    | [.null] => some (.inl (some .null), σ)
    | _ => none)
  | .return_ => (match st with
    | [] => some (.inl none, σ)
    | _ => none)
  | _ => none
def runL (C : Nat → List Value → SH → SR) (X : Nat → Nat → Option Int32) (E : Nat → SL → List Value → SH → SR) : List (Nat × Instr) → SL → List Value → SH → SR
  | [], _, _, _ => none
  | r :: is, L, st, σ => step1 C X E r.1 r.2 L st σ (fun L st σ => runL C X E is L st σ)
def seek (pc : Nat) : List (Nat × Instr) → List (Nat × Instr)
  | [] => []
  | r :: is => if r.1 = pc then r :: is else seek pc is
/-- a program: rows, places of locals, handlers, budgets; the recursive ones -/
abbrev SP : Type := (Nat → List (Nat × Instr)) × (Nat → Nat) × (Nat → Nat → Nat → Option Int32) × (Nat → Nat) × (Nat → Bool)
def calD (P : SP) (d id : Nat) : Option Nat := if P.2.2.2.2 id = true then (match d with
  | 0 => none
  | d + 1 => some d) else (if P.2.2.2.1 id < d then some (P.2.2.2.1 id) else none)
def lcl (P : SP) (id : Nat) (args : List Value) : SL := args.map some ++ List.replicate (P.2.1 id - args.length) none
def execN (P : SP) : Nat → Nat → Nat → Nat → SL → List Value → SH → SR
  | 0, _, _, _, _, _, _ => none
  | n + 1, d, m, pc, L, st, σ => runL (fun id args σ => match calD P d id with
    | some d' => execN P n d' id 0 (lcl P id args) [] σ
    | none => none) (P.2.2.1 m) (fun pc L st σ => execN P n d m pc L st σ) (seek pc (P.1 m)) L st σ
end
section
def Le (a b : SR) : Prop := ∀ y, a = some y → b = some y
theorem Le.rf (a : SR) : Le a a := fun _ h => h
theorem Le.nn (b : SR) : Le none b := fun _ h => nomatch h
theorem Le.ite {c : Prop} [Decidable c] {a b a' b' : SR} (h1 : c → Le a a') (h2 : ¬ c → Le b b') : Le (if c then a else b) (if c then a' else b') := by
  by_cases h : c
  · rw [if_pos h, if_pos h]; exact h1 h
  · rw [if_neg h, if_neg h]; exact h2 h
theorem Le.aRef {v : Value} {k k' : Nat → SR} (h : ∀ a, Le (k a) (k' a)) : Le (aRef v k) (aRef v k') := by
  cases v <;> first | exact h _ | exact Le.nn _
theorem Le.rd2 {v : Value} {n n' : SR} {k k' : Nat → SR} (hn : Le n n') (h : ∀ a, Le (k a) (k' a)) : Le (rd2 v n k) (rd2 v n' k') := by
  cases v <;> first | exact h _ | exact hn | exact Le.nn _
theorem Le.onV {r r' : SR} {k k' : SH → SR} {kx kx' : Nat → SH → SR} (hr : Le r r') (h : ∀ σ, Le (k σ) (k' σ)) (hx : ∀ e σ, Le (kx e σ) (kx' e σ)) : Le (onV r k kx) (onV r' k' kx') := by
  rcases r with _ | ⟨⟨_ | v⟩ | e, σ⟩
  · exact Le.nn _
  · rw [hr _ rfl]; exact h σ
  · exact Le.nn _
  · rw [hr _ rfl]; exact hx e σ
theorem Le.onI {r r' : SR} {k k' : Int32 → SH → SR} {kx kx' : Nat → SH → SR} (hr : Le r r') (h : ∀ x σ, Le (k x σ) (k' x σ)) (hx : ∀ e σ, Le (kx e σ) (kx' e σ)) : Le (onI r k kx) (onI r' k' kx') := by
  rcases r with _ | ⟨⟨_ | v⟩ | e, σ⟩
  · exact Le.nn _
  · exact Le.nn _
  · cases v <;> first | exact Le.nn _ | (rw [hr _ rfl]; exact h _ σ)
  · rw [hr _ rfl]; exact hx e σ
theorem Le.onR {r r' : SR} {k k' : Nat → SH → SR} {kx kx' : Nat → SH → SR} (hr : Le r r') (h : ∀ x σ, Le (k x σ) (k' x σ)) (hx : ∀ e σ, Le (kx e σ) (kx' e σ)) : Le (onR r k kx) (onR r' k' kx') := by
  rcases r with _ | ⟨⟨_ | v⟩ | e, σ⟩
  · exact Le.nn _
  · exact Le.nn _
  · cases v <;> first | exact Le.nn _ | (rw [hr _ rfl]; exact h _ σ)
  · rw [hr _ rfl]; exact hx e σ
theorem Le.onQ {r r' : SR} {kn kn' : SH → SR} {k k' : Nat → SH → SR} {kx kx' : Nat → SH → SR} (hr : Le r r') (hn : ∀ σ, Le (kn σ) (kn' σ)) (h : ∀ x σ, Le (k x σ) (k' x σ)) (hx : ∀ e σ, Le (kx e σ) (kx' e σ)) : Le (onQ r kn k kx) (onQ r' kn' k' kx') := by
  rcases r with _ | ⟨⟨_ | v⟩ | e, σ⟩
  · exact Le.nn _
  · exact Le.nn _
  · cases v <;> first | exact Le.nn _ | (rw [hr _ rfl]; first | exact h _ σ | exact hn σ)
  · rw [hr _ rfl]; exact hx e σ
theorem Le.doC {r : Nat} {a a' : SR} {L : SL} {st : List Value} {k k' : SL → List Value → SH → SR} {kx kx' : Nat → SH → SR} (hr : Le a a') (h : ∀ L st σ, Le (k L st σ) (k' L st σ)) (hx : ∀ e σ, Le (kx e σ) (kx' e σ)) : Le (doC r a L st k kx) (doC r a' L st k' kx') := by
  match r with
  | 0 => exact Le.onV hr (fun _ => h _ _ _) hx
  | 1 => exact Le.onI hr (fun _ _ => h _ _ _) hx
  | 2 => exact Le.onR hr (fun _ _ => h _ _ _) hx
  | n + 3 => exact Le.onQ hr (fun _ => h _ _ _) (fun _ _ => h _ _ _) hx
theorem Le.tsw {x : Int32} {d d' : SR} {E E' : Nat → SR} (hd : Le d d') (hE : ∀ t, Le (E t) (E' t)) : ∀ (ts : List Int) (i : Int), Le (tsw x i ts d E) (tsw x i ts d' E')
  | [], _ => hd
  | t :: r, i => Le.ite (fun _ => hE _) (fun _ => Le.tsw hd hE r (i + 1))
theorem Le.cnd {c : ClassFile.Cond} {x y : Int32} {a b a' b' : SR} (ha : Le a a') (hb : Le b b') : Le (cnd c x y a b) (cnd c x y a' b') := by
  cases c <;> exact Le.ite (fun _ => by assumption) (fun _ => by assumption)
set_option maxHeartbeats 4000000 in
theorem step1_mono {C C' : Nat → List Value → SH → SR} {X : Nat → Nat → Option Int32} {E E' : Nat → SL → List Value → SH → SR} {pc : Nat} {i : Instr} {L : SL} {st : List Value} {σ : SH} {k k' : SL → List Value → SH → SR}
    (hC : ∀ id a σ, Le (C id a σ) (C' id a σ)) (hE : ∀ p L st σ, Le (E p L st σ) (E' p L st σ)) (hk : ∀ L st σ, Le (k L st σ) (k' L st σ)) : Le (step1 C X E pc i L st σ k) (step1 C' X E' pc i L st σ k') := by
  unfold step1
  cases i
  all_goals dsimp only
  all_goals repeat' first
    | exact hk _ _ _
    | exact hE _ _ _ _
    | exact Le.nn _
    | exact Le.rf _
    | exact hC _ _ _
    | exact Le.doC (hC _ _ _) hk (fun _ _ => Le.rf _)
    | exact Le.tsw (hE _ _ _ _) (fun _ => hE _ _ _ _) _ _
    | exact Le.cnd (hE _ _ _ _) (hk _ _ _)
    | exact Le.aRef (fun _ => Le.ite (fun _ => hk _ _ _) (fun _ => Le.rf _))
    | exact Le.aRef (fun _ => Le.ite (fun _ => Le.aRef (fun _ => hk _ _ _)) (fun _ => Le.rf _))
    | exact Le.aRef (fun _ => Le.ite (fun _ => Le.rd2 (hk _ _ _) (fun _ => hk _ _ _)) (fun _ => Le.rf _))
    | exact Le.aRef (fun _ => Le.aRef (fun _ => Le.ite (fun _ => hk _ _ _) (fun _ => Le.rf _)))
    | refine Le.ite (fun _ => ?_) (fun _ => ?_)
    | split
theorem runL_mono {C C' : Nat → List Value → SH → SR} {X : Nat → Nat → Option Int32} {E E' : Nat → SL → List Value → SH → SR}
    (hC : ∀ id a σ, Le (C id a σ) (C' id a σ)) (hE : ∀ p L st σ, Le (E p L st σ) (E' p L st σ)) : ∀ (is : List (Nat × Instr)) (L : SL) (st : List Value) (σ : SH), Le (runL C X E is L st σ) (runL C' X E' is L st σ)
  | [], _, _, _ => Le.nn _
  | r :: is, L, st, σ => step1_mono hC hE (fun L st σ => runL_mono hC hE is L st σ)
theorem execN_succ (P : SP) : ∀ (n d m pc : Nat) (L : SL) (st : List Value) (σ : SH), Le (execN P n d m pc L st σ) (execN P (n + 1) d m pc L st σ)
  | 0, _, _, _, _, _, _ => Le.nn _
  | n + 1, d, m, pc, L, st, σ => by
    unfold execN
    refine runL_mono (fun id a σ => ?_) (fun p L st σ => execN_succ P n d m p L st σ) _ _ _ _
    cases calD P d id with
    | none => exact Le.nn _
    | some d' => exact execN_succ P n d' id 0 _ _ _
theorem execN_mono (P : SP) {n n' : Nat} (h : n ≤ n') (d m pc : Nat) (L : SL) (st : List Value) (σ : SH) : Le (execN P n d m pc L st σ) (execN P n' d m pc L st σ) := by
  induction h with
  | refl => exact Le.rf _
  | step _ ih => exact fun y h => execN_succ P _ d m pc L st σ y (ih y h)
/-- the machine's answer with whatever fuel it needs -/
noncomputable def exec (P : SP) (d m pc : Nat) (L : SL) (st : List Value) (σ : SH) : SR := @dite SR (∃ n y, execN P n d m pc L st σ = some y) (Classical.propDecidable _) (fun h => some (Classical.choose (Classical.choose_spec h))) (fun _ => none)
theorem exec_of {P : SP} {n d m pc : Nat} {L : SL} {st : List Value} {σ : SH} {y : (Option Value ⊕ Nat) × SH} (h : execN P n d m pc L st σ = some y) : exec P d m pc L st σ = some y := by
  have hx : ∃ n y, execN P n d m pc L st σ = some y := ⟨n, y, h⟩
  unfold exec
  rw [dif_pos hx]
  have h2 := Classical.choose_spec (Classical.choose_spec hx)
  have h3 := execN_mono P (Nat.le_max_left n (Classical.choose hx)) d m pc L st σ _ h
  have h4 := execN_mono P (Nat.le_max_right n (Classical.choose hx)) d m pc L st σ _ h2
  exact h4.symm.trans h3
theorem exec_to {P : SP} {d m pc : Nat} {L : SL} {st : List Value} {σ : SH} {y : (Option Value ⊕ Nat) × SH} (h : exec P d m pc L st σ = some y) : ∃ n, execN P n d m pc L st σ = some y := by
  unfold exec at h
  by_cases hx : ∃ n y, execN P n d m pc L st σ = some y
  · rw [dif_pos hx] at h
    exact ⟨_, h ▸ Classical.choose_spec (Classical.choose_spec hx)⟩
  · rw [dif_neg hx] at h
    cases h
/-- a call -/
noncomputable def callE (P : SP) (d : Nat) (id : Nat) (args : List Value) (σ : SH) : SR := match calD P d id with
  | some d' => exec P d' id 0 (lcl P id args) [] σ
  | none => none
theorem Le.eq {a b : SR} (h1 : Le a b) (h2 : Le b a) : a = b := by
  cases a with
  | some y => exact (h1 y rfl).symm
  | none =>
    cases b with
    | none => rfl
    | some y => exact h2 y rfl
end
section
/-- a chain and its limit -/
def Lim (f : Nat → SR) (g : SR) : Prop := (∀ n n', n ≤ n' → Le (f n) (f n')) ∧ ∀ y, g = some y → ∃ n, f n = some y
theorem Lim.rf (a : SR) : Lim (fun _ => a) a := ⟨fun _ _ _ => Le.rf _, fun _ h => ⟨0, h⟩⟩
theorem Lim.ite {c : Prop} [Decidable c] {a b : Nat → SR} {a' b' : SR} (h1 : c → Lim a a') (h2 : ¬ c → Lim b b') : Lim (fun n => if c then a n else b n) (if c then a' else b') := by
  by_cases h : c
  · simp only [if_pos h]; exact h1 h
  · simp only [if_neg h]; exact h2 h
theorem Lim.aRef {v : Value} {k : Nat → Nat → SR} {k' : Nat → SR} (h : ∀ a, Lim (fun n => k n a) (k' a)) : Lim (fun n => aRef v (k n)) (aRef v k') := by
  cases v <;> first | exact h _ | exact Lim.rf _
theorem Lim.rd2 {v : Value} {n : Nat → SR} {n' : SR} {k : Nat → Nat → SR} {k' : Nat → SR} (hn : Lim n n') (h : ∀ a, Lim (fun n => k n a) (k' a)) : Lim (fun i => rd2 v (n i) (k i)) (rd2 v n' k') := by
  cases v <;> first | exact h _ | exact hn | exact Lim.rf _
theorem Lim.two {f g : Nat → SR} {f' : SR} {y z : (Option Value ⊕ Nat) × SH} (hf : Lim f f') (e : f' = some y) (hg : ∀ n n', n ≤ n' → Le (g n) (g n')) (e2 : ∃ n, g n = some z) : ∃ n, f n = some y ∧ g n = some z := by
  obtain ⟨n1, h1⟩ := hf.2 y e
  obtain ⟨n2, h2⟩ := e2
  exact ⟨max n1 n2, hf.1 _ _ (Nat.le_max_left _ _) _ h1, hg _ _ (Nat.le_max_right _ _) _ h2⟩
theorem Lim.onV {r : Nat → SR} {r' : SR} {k : Nat → SH → SR} {k' : SH → SR} {kx : Nat → SH → SR} (hr : Lim r r') (h : ∀ σ, Lim (fun n => k n σ) (k' σ)) : Lim (fun n => onV (r n) (k n) kx) (onV r' k' kx) := by
  refine ⟨fun n n' hn => Le.onV (hr.1 n n' hn) (fun σ => (h σ).1 n n' hn) (fun _ _ => Le.rf _), fun y hy => ?_⟩
  rcases hr' : r' with _ | ⟨⟨_ | v⟩ | e, σ⟩
  · rw [hr'] at hy; cases hy
  · rw [hr'] at hy
    obtain ⟨n, a, b⟩ := hr.two hr' (h σ).1 ((h σ).2 y hy)
    exact ⟨n, by dsimp only; rw [a]; exact b⟩
  · rw [hr'] at hy; cases hy
  · rw [hr'] at hy
    obtain ⟨n, a⟩ := hr.2 _ hr'
    exact ⟨n, by dsimp only; rw [a]; exact hy⟩
theorem Lim.onI {r : Nat → SR} {r' : SR} {k : Nat → Int32 → SH → SR} {k' : Int32 → SH → SR} {kx : Nat → SH → SR} (hr : Lim r r') (h : ∀ x σ, Lim (fun n => k n x σ) (k' x σ)) : Lim (fun n => onI (r n) (k n) kx) (onI r' k' kx) := by
  refine ⟨fun n n' hn => Le.onI (hr.1 n n' hn) (fun x σ => (h x σ).1 n n' hn) (fun _ _ => Le.rf _), fun y hy => ?_⟩
  rcases hr' : r' with _ | ⟨⟨_ | v⟩ | e, σ⟩
  · rw [hr'] at hy; cases hy
  · rw [hr'] at hy; cases hy
  · rw [hr'] at hy
    cases v with
    | int x =>
      obtain ⟨n, a, b⟩ := hr.two hr' (h x σ).1 ((h x σ).2 y hy)
      exact ⟨n, by dsimp only; rw [a]; exact b⟩
    | _ => cases hy
  · rw [hr'] at hy
    obtain ⟨n, a⟩ := hr.2 _ hr'
    exact ⟨n, by dsimp only; rw [a]; exact hy⟩
theorem Lim.onR {r : Nat → SR} {r' : SR} {k : Nat → Nat → SH → SR} {k' : Nat → SH → SR} {kx : Nat → SH → SR} (hr : Lim r r') (h : ∀ x σ, Lim (fun n => k n x σ) (k' x σ)) : Lim (fun n => onR (r n) (k n) kx) (onR r' k' kx) := by
  refine ⟨fun n n' hn => Le.onR (hr.1 n n' hn) (fun x σ => (h x σ).1 n n' hn) (fun _ _ => Le.rf _), fun y hy => ?_⟩
  rcases hr' : r' with _ | ⟨⟨_ | v⟩ | e, σ⟩
  · rw [hr'] at hy; cases hy
  · rw [hr'] at hy; cases hy
  · rw [hr'] at hy
    cases v with
    | ref x =>
      obtain ⟨n, a, b⟩ := hr.two hr' (h x σ).1 ((h x σ).2 y hy)
      exact ⟨n, by dsimp only; rw [a]; exact b⟩
    | _ => cases hy
  · rw [hr'] at hy
    obtain ⟨n, a⟩ := hr.2 _ hr'
    exact ⟨n, by dsimp only; rw [a]; exact hy⟩
theorem Lim.onQ {r : Nat → SR} {r' : SR} {m : Nat → SH → SR} {m' : SH → SR} {k : Nat → Nat → SH → SR} {k' : Nat → SH → SR} {kx : Nat → SH → SR} (hr : Lim r r') (hm : ∀ σ, Lim (fun n => m n σ) (m' σ)) (h : ∀ x σ, Lim (fun n => k n x σ) (k' x σ)) : Lim (fun n => onQ (r n) (m n) (k n) kx) (onQ r' m' k' kx) := by
  refine ⟨fun n n' hn => Le.onQ (hr.1 n n' hn) (fun σ => (hm σ).1 n n' hn) (fun x σ => (h x σ).1 n n' hn) (fun _ _ => Le.rf _), fun y hy => ?_⟩
  rcases hr' : r' with _ | ⟨⟨_ | v⟩ | e, σ⟩
  · rw [hr'] at hy; cases hy
  · rw [hr'] at hy; cases hy
  · rw [hr'] at hy
    cases v with
    | ref x =>
      obtain ⟨n, a, b⟩ := hr.two hr' (h x σ).1 ((h x σ).2 y hy)
      exact ⟨n, by dsimp only; rw [a]; exact b⟩
    | null =>
      obtain ⟨n, a, b⟩ := hr.two hr' (hm σ).1 ((hm σ).2 y hy)
      exact ⟨n, by dsimp only; rw [a]; exact b⟩
    | _ => cases hy
  · rw [hr'] at hy
    obtain ⟨n, a⟩ := hr.2 _ hr'
    exact ⟨n, by dsimp only; rw [a]; exact hy⟩
theorem Lim.doC {r : Nat} {a : Nat → SR} {a' : SR} {L : SL} {st : List Value} {k : Nat → SL → List Value → SH → SR} {k' : SL → List Value → SH → SR} {kx : Nat → SH → SR} (hr : Lim a a') (h : ∀ L st σ, Lim (fun n => k n L st σ) (k' L st σ)) : Lim (fun n => doC r (a n) L st (k n) kx) (doC r a' L st k' kx) := by
  match r with
  | 0 => exact Lim.onV hr (fun _ => h _ _ _)
  | 1 => exact Lim.onI hr (fun _ _ => h _ _ _)
  | 2 => exact Lim.onR hr (fun _ _ => h _ _ _)
  | n + 3 => exact Lim.onQ hr (fun _ => h _ _ _) (fun _ _ => h _ _ _)
theorem Lim.tsw {x : Int32} {d : Nat → SR} {d' : SR} {E : Nat → Nat → SR} {E' : Nat → SR} (hd : Lim d d') (hE : ∀ t, Lim (fun n => E n t) (E' t)) : ∀ (ts : List Int) (i : Int), Lim (fun n => tsw x i ts (d n) (E n)) (tsw x i ts d' E')
  | [], _ => hd
  | t :: r, i => Lim.ite (fun _ => hE _) (fun _ => Lim.tsw hd hE r (i + 1))
theorem Lim.cnd {c : ClassFile.Cond} {x y : Int32} {a b : Nat → SR} {a' b' : SR} (ha : Lim a a') (hb : Lim b b') : Lim (fun n => cnd c x y (a n) (b n)) (cnd c x y a' b') := by
  cases c <;> exact Lim.ite (fun _ => by assumption) (fun _ => by assumption)
set_option maxHeartbeats 4000000 in
theorem step1_lim {C : Nat → Nat → List Value → SH → SR} {C' : Nat → List Value → SH → SR} {X : Nat → Nat → Option Int32} {E : Nat → Nat → SL → List Value → SH → SR} {E' : Nat → SL → List Value → SH → SR} {pc : Nat} {i : Instr} {L : SL} {st : List Value} {σ : SH} {k : Nat → SL → List Value → SH → SR} {k' : SL → List Value → SH → SR}
    (hC : ∀ id a σ, Lim (fun n => C n id a σ) (C' id a σ)) (hE : ∀ p L st σ, Lim (fun n => E n p L st σ) (E' p L st σ)) (hk : ∀ L st σ, Lim (fun n => k n L st σ) (k' L st σ)) : Lim (fun n => step1 (C n) X (E n) pc i L st σ (k n)) (step1 C' X E' pc i L st σ k') := by
  unfold step1
  cases i
  all_goals dsimp only
  all_goals repeat' first
    | exact hk _ _ _
    | exact hE _ _ _ _
    | exact Lim.rf _
    | exact hC _ _ _
    | exact Lim.doC (hC _ _ _) hk
    | exact Lim.tsw (hE _ _ _ _) (fun _ => hE _ _ _ _) _ _
    | exact Lim.cnd (hE _ _ _ _) (hk _ _ _)
    | exact Lim.aRef (fun _ => Lim.ite (fun _ => hk _ _ _) (fun _ => Lim.rf _))
    | exact Lim.aRef (fun _ => Lim.ite (fun _ => Lim.aRef (fun _ => hk _ _ _)) (fun _ => Lim.rf _))
    | exact Lim.aRef (fun _ => Lim.ite (fun _ => Lim.rd2 (hk _ _ _) (fun _ => hk _ _ _)) (fun _ => Lim.rf _))
    | exact Lim.aRef (fun _ => Lim.aRef (fun _ => Lim.ite (fun _ => hk _ _ _) (fun _ => Lim.rf _)))
    | refine Lim.ite (fun _ => ?_) (fun _ => ?_)
    | split
theorem runL_lim {C : Nat → Nat → List Value → SH → SR} {C' : Nat → List Value → SH → SR} {X : Nat → Nat → Option Int32} {E : Nat → Nat → SL → List Value → SH → SR} {E' : Nat → SL → List Value → SH → SR}
    (hC : ∀ id a σ, Lim (fun n => C n id a σ) (C' id a σ)) (hE : ∀ p L st σ, Lim (fun n => E n p L st σ) (E' p L st σ)) : ∀ (is : List (Nat × Instr)) (L : SL) (st : List Value) (σ : SH), Lim (fun n => runL (C n) X (E n) is L st σ) (runL C' X E' is L st σ)
  | [], _, _, _ => Lim.rf _
  | r :: is, L, st, σ => step1_lim hC hE (fun L st σ => runL_lim hC hE is L st σ)
/-- THE MACHINE'S EQUATION -/
theorem exec_eq (P : SP) (d m pc : Nat) (L : SL) (st : List Value) (σ : SH) : exec P d m pc L st σ = runL (callE P d) (P.2.2.1 m) (exec P d m) (seek pc (P.1 m)) L st σ := by
  refine Le.eq (fun y h => ?_) (fun y h => ?_)
  · obtain ⟨n, hn⟩ := exec_to h
    cases n with
    | zero => cases hn
    | succ n =>
      unfold execN at hn
      refine runL_mono (fun id a σ => ?_) (fun p L st σ y h => exec_of h) _ _ _ _ y hn
      unfold callE
      cases calD P d id with
      | none => exact Le.nn _
      | some d' => exact fun y h => exec_of h
  · have hl := runL_lim (C := fun n id args σ => match calD P d id with
      | some d' => execN P n d' id 0 (lcl P id args) [] σ
      | none => none) (C' := callE P d) (X := P.2.2.1 m) (E := fun n pc L st σ => execN P n d m pc L st σ) (E' := exec P d m) (fun id a σ => by
        unfold callE
        cases calD P d id with
        | none => exact Lim.rf _
        | some d' => exact ⟨fun _ _ hn => execN_mono P hn _ _ _ _ _ _, fun _ h => exec_to h⟩) (fun p L st σ => ⟨fun _ _ hn => execN_mono P hn _ _ _ _ _ _, fun _ h => exec_to h⟩) (seek pc (P.1 m)) L st σ
    obtain ⟨n, hn⟩ := hl.2 y h
    exact exec_of (n := n + 1) (by unfold execN; exact hn)
end
section
def lkH : List (Nat × Int32) → Nat → Option Int32
  | [], _ => none
  | q :: r, e => if q.1 = e then some q.2 else lkH r e
def hndOf (m _pc e : Nat) : Option Int32 := if m < 329 then none else some ((lkH (nthD hdTab (m - 329) []) e).getD 0)
def isRec (m : Nat) : Bool := m == 88 || m == 89 || m == 90 || m == 208 || m == 209 || m == 210
noncomputable def PP : SP := (fun m => nthD cdTab m [], fun m => nthD mxTab m 0, hndOf, fun m => nthD bdTab m 0, isRec)
/-- a method's run -/
noncomputable def rn (id : Nat) (args : List Value) (σ : SH) : SR := exec PP (nthD bdTab id 0) id 0 (lcl PP id args) [] σ
end
section
/-! What SM's heap says of the machine's heap. D: the state and arguments at the law's entry, real addresses, the formatter, classes, slots -/
abbrev SD : Type := State × Array Value × (Nat → Nat) × Value × (Nat → ClassId) × (Nat → Nat → Nat)
def tr (D : SD) : Value → Value
  | .ref n => if n = 39 then D.2.2.2.1 else .ref (D.2.2.1 n)
  | v => v
def fv (D : SD) (σ : SH) (a c k : Nat) : Value := if isRf c k = true then tr D (sV σ a k) else .int (sI σ a k)
def okInt (D : SD) (σ : SH) (H : Heap) (a : Nat) : Prop := ∃ cell : Cell, H[D.2.2.1 a]? = some cell ∧ D.1.isArrayOf cell .int ∧ cell.vm ≠ .unknown ∧ cell.slots.size = sN σ a ∧ ∀ i, i < sN σ a → cell.slots[i]? = some (.int (sI σ a i))
def okByt (D : SD) (σ : SH) (H : Heap) (a : Nat) : Prop := ∃ cell : Cell, H[D.2.2.1 a]? = some cell ∧ D.1.isArrayOf cell .byte ∧ cell.vm ≠ .unknown ∧ cell.slots.size = sN σ a ∧ ∀ i, i < sN σ a → cell.slots[i]? = some (.int (sI σ a i))
def okLng (D : SD) (σ : SH) (H : Heap) (a : Nat) : Prop := ∃ cell : Cell, H[D.2.2.1 a]? = some cell ∧ D.1.isArrayOf cell .long ∧ cell.vm ≠ .unknown ∧ cell.slots.size = sN σ a ∧ ∀ i, i < sN σ a → cell.slots[i]? = some (.long (sJ σ a i))
def okRow (D : SD) (σ : SH) (H : Heap) (a c : Nat) : Prop := ∃ (cell : Cell) (kA : Class) (comp : ClassId), H[D.2.2.1 a]? = some cell ∧ (∀ q, cell.vm ≠ .statics q) ∧ cell.vm ≠ .unknown ∧ D.1.vm.classes[cell.cls]? = some kA ∧ kA.kind = .array comp (.object (cN c)) ∧ D.1.vm.findClass (cN c) = some comp ∧ cell.slots.size = sN σ a ∧ ∀ i, i < sN σ a → cell.slots[i]? = some (tr D (sV σ a i))
def okObj (D : SD) (σ : SH) (H : Heap) (a c : Nat) : Prop := ∃ cell : Cell, H[D.2.2.1 a]? = some cell ∧ cell.cls = D.2.2.2.2.1 c ∧ cell.vm.isStatics = false ∧ cell.vm ≠ .unknown ∧ (200 ≤ a → cell.vm = .none) ∧ ∀ k, k < nf c → cell.slots[D.2.2.2.2.2 c k]? = some (fv D σ a c k)
def okC (D : SD) (σ : SH) (H : Heap) (a : Nat) : Prop :=
  ((sT σ a = 1 ∨ sT σ a = 4) → okInt D σ H a) ∧ ((sT σ a = 2 ∨ sT σ a = 5) → okByt D σ H a) ∧ (sT σ a = 3 → okLng D σ H a) ∧
  (∀ c, (sT σ a = 10 + c ∧ c < 90) ∨ (sT σ a = 6 ∧ c = 9) → okRow D σ H a c) ∧ (∀ c, sT σ a = 100 + c → c < 14 → okObj D σ H a c)
def Rep (D : SD) (σ : SH) (H : Heap) : Prop := 200 ≤ sZ σ ∧ H.size = D.1.heap.size + (sZ σ - 200) ∧ (∀ q, q < D.1.heap.size → H[q]? = D.1.heap[q]?) ∧
  (∀ a, a < 200 → sT σ a = 0 ∨ sT σ a = 4 ∨ sT σ a = 5 ∨ sT σ a = 6 ∨ sT σ a = 109 ∨ sT σ a = 113) ∧ (∀ a, sZ σ ≤ a → sT σ a = 0) ∧ sT σ 39 = 0 ∧ ∀ a, okC D σ H a
/-- a static's value -/
def stOk (D : SD) (n : Nat) : Prop := va_Z (nthD stTab n ("", "", "")).1 (nthD stTab n ("", "", "")).2.1 (nthD stTab n ("", "", "")).2.2 (tr D (.ref n)) (fun q => D.1.heap.size ≤ q) D.1 D.1.heap
/-- a field as the tables have it -/
def FF (s : State) (D : SD) (c k : Nat) : Prop := ∃ cf kf fi fd, s.fieldFound? (fT c k).1 (fT c k).2.1 (fT c k).2.2.1 = some (cf, kf, fi, fd) ∧ fd.isStatic = false ∧ fd.slot = D.2.2.2.2.2 c k
def Wld (l : Launch) (D : SD) : Prop := l.stackTraces = false ∧ (∀ w ∈ lw_tbl, w.before D.2.1 D.1 = true) ∧ (∀ a, 200 ≤ a → D.2.2.1 a = D.1.heap.size + (a - 200)) ∧ (∀ a, a < 200 → D.2.2.1 a < D.1.heap.size) ∧ (D.2.2.2.1 = .null ∨ ∃ q, D.2.2.2.1 = .ref q) ∧
  (∀ c, c < 14 → ClassAt D.1 (cN c) (D.2.2.2.2.1 c) ∧ ∀ k, k < nf c → FF D.1 D c k) ∧ (∀ a b, a < 38 → b < 38 → D.2.2.1 a = D.2.2.1 b → a = b) ∧ (∀ n, n < 40 → stOk D n) ∧
  va_Z "java/lang/String" "COMPACT_STRINGS" "Z" (.int 1) (fun q => D.1.heap.size ≤ q) D.1 D.1.heap ∧ (∀ q ∈ srTab, vk_R "ArchEndsModel" q.2.1 q.2.2 (D.2.2.1 q.1) D.1) ∧
  vx_Zq Bundle.tN "UNASSIGNED_STACK" Bundle.steD (fun q => D.1.heap.size ≤ q) D.1 D.1.heap ∧ vx_Zq Bundle.tN "SUPPRESSED_SENTINEL" Bundle.listD (fun q => D.1.heap.size ≤ q) D.1 D.1.heap ∧
  (∀ c, c < 13 → c ≠ 9 → ∀ j k, j < nf c → k < nf c → j ≠ k → D.2.2.2.2.2 c j ≠ D.2.2.2.2.2 c k) ∧
  (∀ x y, x < 5 → y < 5 → x ≠ y → va_Nc (eN x) (eN y) D.1)
/-- the pairs of set locals -/
def prs (D : SD) (L : SL) : List (Nat × Value) := (List.range L.length).filterMap fun i => match L[i]? with
  | some (some v) => some (i, tr D v)
  | _ => none
def lR (D : SD) (ls : Array Slot) (n : Nat) (L : SL) : Prop := L.length ≤ n ∧ lv_has ls n (prs D L)
theorem prs_mem {D : SD} {L : SL} {q : Nat × Value} : q ∈ prs D L ↔ ∃ v, L[q.1]? = some (some v) ∧ q.2 = tr D v := by
  unfold prs
  rw [List.mem_filterMap]
  constructor
  · rintro ⟨i, _, h⟩
    split at h
    · rename_i v hv
      cases h
      exact ⟨v, hv, rfl⟩
    · cases h
  · rintro ⟨v, h1, h2⟩
    refine ⟨q.1, List.mem_range.mpr (List.getElem?_eq_some_iff.mp h1).1, ?_⟩
    rw [h1]
    dsimp only
    rw [← h2]
theorem lR_get {D : SD} {ls : Array Slot} {n i : Nat} {L : SL} {v : Value} (h : lR D ls n L) (hv : L[i]? = some (some v)) : ls[i]? = some (.val (tr D v)) := h.2.2.2 (i, tr D v) (prs_mem.mpr ⟨v, hv, rfl⟩)
theorem lR_of {D : SD} {ls : Array Slot} {n : Nat} {L : SL} {l : List (Nat × Value)} (hn : L.length ≤ n) (h : lv_has ls n l) (hl : ∀ i v, L[i]? = some (some v) → (i, tr D v) ∈ l) : lR D ls n L := by
  refine ⟨hn, h.1, h.2.1, fun q hq => ?_⟩
  obtain ⟨v, h1, h2⟩ := prs_mem.mp hq
  have := h.2.2 _ (hl q.1 v h1)
  rw [h2]
  exact this
theorem tr_ref {D : SD} (hfm : D.2.2.2.1 = .null ∨ ∃ q, D.2.2.2.1 = .ref q) (a : Nat) : tr D (.ref a) = .null ∨ ∃ q, tr D (.ref a) = .ref q := by
  unfold tr
  dsimp only
  split
  · exact hfm
  · exact Or.inr ⟨_, rfl⟩
theorem tr_at {D : SD} {a : Nat} (h : a ≠ 39) : tr D (.ref a) = .ref (D.2.2.1 a) := if_neg h
theorem tr_cat {D : SD} (hfm : D.2.2.2.1 = .null ∨ ∃ q, D.2.2.2.1 = .ref q) (v : Value) : (tr D v).category = cat2 v := by
  cases v
  case ref a => rcases tr_ref hfm a with q | ⟨b, q⟩ <;> rw [q] <;> rfl
  all_goals rfl
theorem ok1_tr {D : SD} {w : Value} (hfm : D.2.2.2.1 = .null ∨ ∃ q, D.2.2.2.1 = .ref q) (h : ok1 (some (some w)) = true) : ¬ (tr D w).category = 2 := by
  rw [tr_cat hfm]
  cases w <;> simp [ok1, cat2] at h ⊢
theorem stL_len {L L' : SL} {i : Nat} {v : Value} (h : stL L i v = some L') : i < L.length ∧ L' = L.set i (some v) ∧ (i = 0 ∨ ok1 L[i - 1]? = true) := by
  unfold stL at h
  split at h
  · rename_i hi
    split at h
    · rename_i h0
      cases h
      exact ⟨hi, rfl, Or.inl h0⟩
    · split at h
      · rename_i h1
        cases h
        exact ⟨hi, rfl, Or.inr h1⟩
      · cases h
  · cases h
/-- behind a store of one word -/
theorem lR_st {D : SD} {ls ls' : Array Slot} {n i : Nat} {L L' : SL} {v : Value} (hfm : D.2.2.2.1 = .null ∨ ∃ q, D.2.2.2.1 = .ref q) (h : lR D ls n L) (hs : stL L i v = some L')
    (hl : lv_has ls' n ((i, tr D v) :: (prs D L).filter (fun q => !(q.1 == i) && !(q.1 + 1 == i && q.2.category == 2)))) : lR D ls' n L' := by
  obtain ⟨hi, rfl, ho⟩ := stL_len hs
  refine lR_of (by rw [List.length_set]; exact h.1) hl fun j w hj => ?_
  by_cases e : j = i
  · subst e
    rw [List.getElem?_set_self hi] at hj
    cases hj
    exact List.mem_cons_self
  · rw [List.getElem?_set_ne (fun q => e q.symm)] at hj
    refine List.mem_cons_of_mem _ (List.mem_filter.mpr ⟨prs_mem.mpr ⟨w, hj, rfl⟩, ?_⟩)
    simp only [Bool.and_eq_true, Bool.not_eq_true', beq_eq_false_iff_ne, ne_eq, Bool.and_eq_false_iff]
    refine ⟨e, ?_⟩
    by_cases e2 : j + 1 = i
    · refine Or.inr ?_
      rcases ho with h0 | h1
      · omega
      · have : i - 1 = j := by omega
        rw [this, hj] at h1
        exact ok1_tr hfm h1
    · exact Or.inl e2
theorem kil_get : ∀ (L : SL) (m i : Nat) (v : Value), (kilL m L)[i]? = some (some v) → L[i]? = some (some v)
  | [], _, _, _, h => by simp [kilL] at h
  | x :: r, m, 0, v, h => by
    simp only [kilL, List.getElem?_cons_zero] at h ⊢
    split at h
    · cases h
    · exact h
  | x :: r, m, i + 1, v, h => by
    simp only [kilL, List.getElem?_cons_succ] at h ⊢
    exact kil_get r (m / 2) i v h
theorem kil_len : ∀ (L : SL) (m : Nat), (kilL m L).length = L.length
  | [], _ => rfl
  | x :: r, m => by simp [kilL, kil_len r (m / 2)]
theorem lR_kil {D : SD} {ls : Array Slot} {n m : Nat} {L : SL} (h : lR D ls n L) : lR D ls n (kilL m L) :=
  lR_of (by rw [kil_len]; exact h.1) h.2 fun i v hv => prs_mem.mpr ⟨v, kil_get L m i v hv, rfl⟩
end
section
/-! SM's heap only grows -/
def Gro (σ : SH) (r : SR) : Prop := ∀ res σ', r = some (res, σ') → sZ σ ≤ sZ σ' ∧ sS σ ≤ sS σ'
theorem Gro.nn (σ : SH) : Gro σ none := fun _ _ h => nomatch h
theorem Gro.to {σ σ2 : SH} {r : SR} (h : Gro σ2 r) (h1 : sZ σ ≤ sZ σ2) (h2 : sS σ ≤ sS σ2) : Gro σ r := fun a b e => ⟨Nat.le_trans h1 (h a b e).1, Nat.le_trans h2 (h a b e).2⟩
theorem Gro.rt (σ : SH) (v : Option Value ⊕ Nat) : Gro σ (some (v, σ)) := fun a b e => by cases e; exact ⟨Nat.le_refl _, Nat.le_refl _⟩
theorem Gro.ite {c : Prop} [Decidable c] {σ : SH} {a b : SR} (h1 : c → Gro σ a) (h2 : ¬ c → Gro σ b) : Gro σ (if c then a else b) := by
  by_cases h : c
  · rw [if_pos h]; exact h1 h
  · rw [if_neg h]; exact h2 h
theorem Gro.aRef {σ : SH} {v : Value} {k : Nat → SR} (h : ∀ a, Gro σ (k a)) : Gro σ (aRef v k) := by
  cases v <;> first | exact h _ | exact Gro.nn _
theorem Gro.rd2 {σ : SH} {v : Value} {n : SR} {k : Nat → SR} (hn : Gro σ n) (h : ∀ a, Gro σ (k a)) : Gro σ (rd2 v n k) := by
  cases v <;> first | exact h _ | exact hn | exact Gro.nn _
theorem Gro.onV {σ : SH} {r : SR} {k : SH → SR} {kx : Nat → SH → SR} (hr : Gro σ r) (h : ∀ σ, Gro σ (k σ)) (hx : ∀ e σ, Gro σ (kx e σ)) : Gro σ (onV r k kx) := by
  rcases r with _ | ⟨⟨_ | v⟩ | e, σ1⟩
  · exact Gro.nn _
  · exact (h σ1).to (hr _ _ rfl).1 (hr _ _ rfl).2
  · exact Gro.nn _
  · exact (hx e σ1).to (hr _ _ rfl).1 (hr _ _ rfl).2
theorem Gro.onI {σ : SH} {r : SR} {k : Int32 → SH → SR} {kx : Nat → SH → SR} (hr : Gro σ r) (h : ∀ x σ, Gro σ (k x σ)) (hx : ∀ e σ, Gro σ (kx e σ)) : Gro σ (onI r k kx) := by
  rcases r with _ | ⟨⟨_ | v⟩ | e, σ1⟩
  · exact Gro.nn _
  · exact Gro.nn _
  · cases v <;> first | exact Gro.nn _ | exact (h _ σ1).to (hr _ _ rfl).1 (hr _ _ rfl).2
  · exact (hx e σ1).to (hr _ _ rfl).1 (hr _ _ rfl).2
theorem Gro.onR {σ : SH} {r : SR} {k : Nat → SH → SR} {kx : Nat → SH → SR} (hr : Gro σ r) (h : ∀ x σ, Gro σ (k x σ)) (hx : ∀ e σ, Gro σ (kx e σ)) : Gro σ (onR r k kx) := by
  rcases r with _ | ⟨⟨_ | v⟩ | e, σ1⟩
  · exact Gro.nn _
  · exact Gro.nn _
  · cases v <;> first | exact Gro.nn _ | exact (h _ σ1).to (hr _ _ rfl).1 (hr _ _ rfl).2
  · exact (hx e σ1).to (hr _ _ rfl).1 (hr _ _ rfl).2
theorem Gro.onQ {σ : SH} {r : SR} {kn : SH → SR} {k : Nat → SH → SR} {kx : Nat → SH → SR} (hr : Gro σ r) (hn : ∀ σ, Gro σ (kn σ)) (h : ∀ x σ, Gro σ (k x σ)) (hx : ∀ e σ, Gro σ (kx e σ)) : Gro σ (onQ r kn k kx) := by
  rcases r with _ | ⟨⟨_ | v⟩ | e, σ1⟩
  · exact Gro.nn _
  · exact Gro.nn _
  · cases v <;> first | exact Gro.nn _ | exact (h _ σ1).to (hr _ _ rfl).1 (hr _ _ rfl).2 | exact (hn σ1).to (hr _ _ rfl).1 (hr _ _ rfl).2
  · exact (hx e σ1).to (hr _ _ rfl).1 (hr _ _ rfl).2
theorem Gro.doC {σ : SH} {r : Nat} {a : SR} {L : SL} {st : List Value} {k : SL → List Value → SH → SR} {kx : Nat → SH → SR} (hr : Gro σ a) (h : ∀ L st σ, Gro σ (k L st σ)) (hx : ∀ e σ, Gro σ (kx e σ)) : Gro σ (doC r a L st k kx) := by
  match r with
  | 0 => exact Gro.onV hr (fun _ => h _ _ _) hx
  | 1 => exact Gro.onI hr (fun _ _ => h _ _ _) hx
  | 2 => exact Gro.onR hr (fun _ _ => h _ _ _) hx
  | n + 3 => exact Gro.onQ hr (fun _ => h _ _ _) (fun _ _ => h _ _ _) hx
theorem Gro.kxc (h : Option Int32) (e : Nat) (σ : SH) : Gro σ (kxc h e σ) := by
  cases h with
  | none => exact Gro.rt _ _
  | some c => exact Gro.ite (fun _ => Gro.nn _) (fun _ => Gro.rt _ _)
theorem Gro.tsw {σ : SH} {x : Int32} {d : SR} {E : Nat → SR} (hd : Gro σ d) (hE : ∀ t, Gro σ (E t)) : ∀ (ts : List Int) (i : Int), Gro σ (tsw x i ts d E)
  | [], _ => hd
  | t :: r, i => Gro.ite (fun _ => hE _) (fun _ => Gro.tsw hd hE r (i + 1))
theorem Gro.cnd {σ : SH} {c : ClassFile.Cond} {x y : Int32} {a b : SR} (ha : Gro σ a) (hb : Gro σ b) : Gro σ (cnd c x y a b) := by
  cases c <;> exact Gro.ite (fun _ => by assumption) (fun _ => by assumption)
set_option maxHeartbeats 4000000 in
theorem step1_gro {C : Nat → List Value → SH → SR} {X : Nat → Nat → Option Int32} {E : Nat → SL → List Value → SH → SR} {pc : Nat} {i : Instr} {L : SL} {st : List Value} {σ : SH} {k : SL → List Value → SH → SR}
    (hC : ∀ id a σ, Gro σ (C id a σ)) (hE : ∀ p L st σ, Gro σ (E p L st σ)) (hk : ∀ L st σ, Gro σ (k L st σ)) : Gro σ (step1 C X E pc i L st σ k) := by
  unfold step1
  cases i
  all_goals dsimp only
  all_goals repeat' first
    | exact hk _ _ σ
    | exact hE _ _ _ σ
    | exact Gro.nn _
    | exact Gro.rt _ _
    | exact Gro.doC (hC _ _ _) hk (fun _ _ => Gro.kxc _ _ _)
    | exact Gro.doC (hC _ _ _) hk (fun _ _ => Gro.nn _)
    | exact Gro.tsw (hE _ _ _ _) (fun _ => hE _ _ _ _) _ _
    | exact Gro.cnd (hE _ _ _ _) (hk _ _ _)
    | exact Gro.aRef (fun _ => Gro.ite (fun _ => hk _ _ _) (fun _ => Gro.nn _))
    | exact Gro.aRef (fun _ => Gro.ite (fun _ => Gro.aRef (fun _ => hk _ _ _)) (fun _ => Gro.nn _))
    | exact Gro.aRef (fun _ => Gro.ite (fun _ => Gro.rd2 (hk _ _ _) (fun _ => hk _ _ _)) (fun _ => Gro.nn _))
    | exact Gro.aRef (fun _ => Gro.ite (fun _ => (hk _ _ _).to (Nat.le_refl _) (Nat.le_refl _)) (fun _ => Gro.nn _))
    | exact Gro.aRef (fun _ => Gro.ite (fun _ => Gro.rd2 ((hk _ _ _).to (Nat.le_refl _) (Nat.le_refl _)) (fun _ => (hk _ _ _).to (Nat.le_refl _) (Nat.le_refl _))) (fun _ => Gro.nn _))
    | exact Gro.aRef (fun _ => Gro.aRef (fun _ => Gro.ite (fun _ => (hk _ _ _).to (Nat.le_refl _) (Nat.le_refl _)) (fun _ => Gro.nn _)))
    | exact (hk _ _ _).to (Nat.le_succ _) (Nat.le_add_right _ _)
    | exact (Gro.rt _ _).to (Nat.le_succ _) (Nat.le_add_right _ _)
    | exact Gro.ite (fun _ => Gro.nn _) (fun _ => (hk _ _ _).to (Nat.le_succ _) (Nat.le_add_right _ _))
    | refine Gro.ite (fun _ => ?_) (fun _ => ?_)
    | split
theorem runL_gro {C : Nat → List Value → SH → SR} {X : Nat → Nat → Option Int32} {E : Nat → SL → List Value → SH → SR}
    (hC : ∀ id a σ, Gro σ (C id a σ)) (hE : ∀ p L st σ, Gro σ (E p L st σ)) : ∀ (is : List (Nat × Instr)) (L : SL) (st : List Value) (σ : SH), Gro σ (runL C X E is L st σ)
  | [], _, _, _ => Gro.nn _
  | r :: is, L, st, σ => step1_gro hC hE (fun L st σ => runL_gro hC hE is L st σ)
theorem execN_gro (P : SP) : ∀ (n d m pc : Nat) (L : SL) (st : List Value) (σ : SH), Gro σ (execN P n d m pc L st σ)
  | 0, _, _, _, _, _, _ => Gro.nn _
  | n + 1, d, m, pc, L, st, σ => by
    unfold execN
    refine runL_gro (fun id a σ => ?_) (fun p L st σ => execN_gro P n d m p L st σ) _ _ _ _
    cases calD P d id with
    | none => exact Gro.nn _
    | some d' => exact execN_gro P n d' id 0 _ _ _
end
section
theorem okC_same {D : SD} {σ σ' : SH} {H H' : Heap} {b : Nat} (hT : sT σ' b = sT σ b) (hN : sN σ' b = sN σ b) (hI : ∀ k, sI σ' b k = sI σ b k) (hV : ∀ k, sV σ' b k = sV σ b k) (hJ : ∀ k, sJ σ' b k = sJ σ b k) (hH : H'[D.2.2.1 b]? = H[D.2.2.1 b]?) (h : okC D σ H b) : okC D σ' H' b := by
  simp only [okC, okInt, okByt, okLng, okRow, okObj, fv, hT, hN, hI, hV, hJ, hH] at h ⊢
  exact h
theorem rho_ne {l : Launch} {D : SD} (hW : Wld l D) {a b : Nat} (ha : 200 ≤ a) (hb : b ≠ a) : D.2.2.1 b ≠ D.2.2.1 a := by
  have h1 := hW.2.2.1 a ha
  rcases Nat.lt_or_ge b 200 with h | h
  · have h2 := hW.2.2.2.1 b h
    omega
  · have h2 := hW.2.2.1 b h
    omega
theorem rep_write {l : Launch} {D : SD} {σ σ' : SH} {H H' : Heap} {a : Nat} (hW : Wld l D) (hR : Rep D σ H) (ha : 200 ≤ a) (hT : ∀ b, sT σ' b = sT σ b) (hN : ∀ b, sN σ' b = sN σ b) (hZ : sZ σ' = sZ σ)
    (hI : ∀ b k, b ≠ a → sI σ' b k = sI σ b k) (hV : ∀ b k, b ≠ a → sV σ' b k = sV σ b k) (hJ : ∀ b k, b ≠ a → sJ σ' b k = sJ σ b k) (hs : H'.size = H.size) (hq : ∀ q, q ≠ D.2.2.1 a → H'[q]? = H[q]?) (hc : okC D σ' H' a) : Rep D σ' H' := by
  obtain ⟨r1, r2, r3, r4, r5, r7, r6⟩ := hR
  have h1 := hW.2.2.1 a ha
  refine ⟨by rw [hZ]; exact r1, by rw [hs, hZ]; exact r2, fun q hlt => ?_, fun b hb => by rw [hT]; exact r4 b hb, fun b hb => by rw [hT]; exact r5 b (by rw [← hZ]; exact hb), by rw [hT]; exact r7, fun b => ?_⟩
  · rw [hq q (by omega)]; exact r3 q hlt
  · by_cases e : b = a
    · subst e; exact hc
    · exact okC_same (hT b) (hN b) (fun k => hI b k e) (fun k => hV b k e) (fun k => hJ b k e) (hq _ (rho_ne hW ha e)) (r6 b)
theorem rep_new {l : Launch} {D : SD} {σ : SH} {H H' : Heap} {t n k : Nat} (hW : Wld l D) (hR : Rep D σ H) (hs : H'.size = H.size + 1) (hq : ∀ q, q < H.size → H'[q]? = H[q]?) (hc : okC D (mkC σ t n k) H' (sZ σ)) : Rep D (mkC σ t n k) H' := by
  obtain ⟨r1, r2, r3, r4, r5, r7, r6⟩ := hR
  have e1 : sZ (mkC σ t n k) = sZ σ + 1 := rfl
  have hTt : ∀ b, sT (mkC σ t n k) b = if b = sZ σ then t else sT σ b := fun b => rfl
  refine ⟨by omega, by omega, fun q hlt => ?_, fun b hb => ?_, fun b hb => ?_, by rw [hTt, if_neg (by omega)]; exact r7, fun b => ?_⟩
  · rw [hq q (by omega)]; exact r3 q hlt
  · rw [hTt, if_neg (by omega)]; exact r4 b hb
  · rw [hTt, if_neg (by omega)]; exact r5 b (by omega)
  · by_cases e : b = sZ σ
    · subst e; exact hc
    · by_cases e2 : sZ σ ≤ b
      · have h0 : sT (mkC σ t n k) b = 0 := by rw [hTt, if_neg e]; exact r5 b e2
        refine ⟨fun h => ?_, fun h => ?_, fun h => ?_, fun c h => ?_, fun c h => ?_⟩ <;> rw [h0] at h <;> omega
      · refine okC_same (by rw [hTt, if_neg e]) (if_neg e) (fun k => if_neg e) (fun k => if_neg e) (fun k => if_neg e) (hq _ ?_) (r6 b)
        rcases Nat.lt_or_ge b 200 with h | h
        · have h2 := hW.2.2.2.1 b h
          omega
        · have h2 := hW.2.2.1 b h
          omega
theorem rep_at {D : SD} {σ : SH} {H : Heap} {a : Nat} (hR : Rep D σ H) (h0 : sT σ a ≠ 0) (h4 : sT σ a ≠ 4) (h5 : sT σ a ≠ 5) (h6 : sT σ a ≠ 6) (h9 : sT σ a ≠ 109) (h13 : sT σ a ≠ 113) : 200 ≤ a ∧ a < sZ σ := by
  obtain ⟨r1, r2, r3, r4, r5, r7, r6⟩ := hR
  refine ⟨?_, ?_⟩
  · rcases Nat.lt_or_ge a 200 with h | h
    · rcases r4 a h with h | h | h | h | h | h <;> contradiction
    · exact h
  · rcases Nat.lt_or_ge a (sZ σ) with h | h
    · exact h
    · exact absurd (r5 a h) h0
theorem rep_39 {D : SD} {σ : SH} {H : Heap} {a : Nat} (hR : Rep D σ H) (h0 : sT σ a ≠ 0) : a ≠ 39 := fun e => h0 (e ▸ hR.2.2.2.2.2.1)
/-! what a run of a method owes at its end -/
def Qc (D : SD) (res : Option Value ⊕ Nat) (σf : SH) : Array Value → State → Outcome → State → Prop := fun _ _ o t => (∃ v, res = .inl v ∧ o = .returned (v.map (tr D))) ∧ D.1.WarmedH t.vm ∧ Rep D σf t.heap
def Xc (D : SD) (res : Option Value ⊕ Nat) (σf : SH) : String → State → State → Prop := fun E _ t => (∃ x, res = .inr x ∧ x < 5 ∧ E = eN x) ∧ Rep D σf t.heap
def Fr0 (D : SD) : Addr → Prop := fun q => D.1.heap.size ≤ q
def EndQ (D : SD) (below : List Frame) (s : State) (args : Array Value) (res : Option Value ⊕ Nat) (σf : SH) (z0 y0 : Nat) : State → Prop := vx_MQ below (Qc D res σf) (Xc D res σf) args s (sZ σf - z0) (sS σf - y0) (Fr0 D)
def Go (p : Program) (l : Launch) (e : Env) (R : Room) (s : State) (m : MethodId) (args : Array Value) (below : List Frame) (meth : Method) (c : Code) (D : SD) (mi z0 y0 : Nat) (res : Option Value ⊕ Nat) (σf : SH) (pc : Nat) (L : SL) (st : List Value) (σ : SH) : Prop :=
  ∀ (H : Heap) (locs : List Loc) (cells slots : Nat) (ls : Array Slot), Rep D σ H → lR D ls (mxOf mi) L → (∀ z ∈ locs, D.1.heap.size ≤ z.base) → z0 + cells = sZ σ → y0 + slots = sS σ →
    W p l e R s m args below meth c H locs cells slots (EndQ D below s args res σf z0 y0) (F0 m pc ls (st.map (tr D)))
def Frm (p : Program) (R : Room) (s : State) (m : MethodId) (meth : Method) (c : Code) (D : SD) (mi d : Nat) : Prop := p.tables.exec = Jvm.exec ∧ c.code = bsOf mi ∧ c.maxLocals = mxOf mi ∧ s.vm.findClass (yOf mi).cls = some m.cls ∧ meth.locks = false ∧ meth.sig.returnType = rtOf mi ∧ meth.name = (yOf mi).name ∧
  c.exceptionTable.toList = tableOf (hhOf mi) ∧ D.1.WarmedH s.vm ∧ d + 8 ≤ R.frames ∧ (d + 1) * 200 ≤ R.locals
/-- a word of the tables, at any state that the law's entry has warmed -/
theorem wd_at {l : Launch} {D : SD} {s : State} {args : Array Value} {i : Nat} {w : Cond} (hW : Wld l D) (hs : D.1.WarmedH s.vm) (h : wAt i w = true) : w.before args s = true := by
  unfold wAt at h
  rw [Bool.and_eq_true, decide_eq_true_eq] at h
  exact word_at hs (good_of_word h.2) (hW.2.1 w (List.mem_of_getElem? h.1))
end
section
section SA
variable {p : Program} {l : Launch} {e : Env} {R : Room} {s : State} {m : MethodId} {args : Array Value} {below : List Frame} {meth : Method} {c : Code} {D : SD} {mi d z0 y0 : Nat} {res : Option Value ⊕ Nat} {σf : SH}
variable {C : Nat → List Value → SH → SR} {X : Nat → Nat → Option Int32} {E : Nat → SL → List Value → SH → SR} {pc pos : Nat} {nx : Option Nat} {L : SL} {st : List Value} {σ : SH} {k : SL → List Value → SH → SR}

theorem cat_tr {v : Value} (hfm : D.2.2.2.1 = .null ∨ ∃ q, D.2.2.2.1 = .ref q) (h : cat2 v = 1) : (tr D v).category = 1 := by
  rw [tr_cat hfm]; exact h
theorem sa_iadd (hW : Wld l D) (hF : Frm p R s m meth c D mi d) (hk : ∀ q, nx = some q → ∀ L st σ2, k L st σ2 = some (res, σf) → Go p l e R s m args below meth c D mi z0 y0 res σf q L st σ2) (hE : ∀ t, t < 100000 → ∀ L st σ2, E t L st σ2 = some (res, σf) → Go p l e R s m args below meth c D mi z0 y0 res σf t L st σ2) (hok : okI mi pc nx pos (.iadd) = true) (h : step1 C X E pc (.iadd) L st σ k = some (res, σf)) : Go p l e R s m args below meth c D mi z0 y0 res σf pc L st σ := by
  have hx := hF.1
  have hb := hF.2.1
  simp only [okI, nxIs, Bool.and_eq_true, decide_eq_true_eq] at hok
  simp only [step1] at h
  intro H locs cells slots ls r1 r2 r3 r4 r5
  split at h
  · exact lv_iadd hx hb hok.1 (hk _ hok.2 _ _ _ h H locs cells slots ls r1 r2 r3 r4 r5)
  · cases h

theorem sa_isub (hW : Wld l D) (hF : Frm p R s m meth c D mi d) (hk : ∀ q, nx = some q → ∀ L st σ2, k L st σ2 = some (res, σf) → Go p l e R s m args below meth c D mi z0 y0 res σf q L st σ2) (hE : ∀ t, t < 100000 → ∀ L st σ2, E t L st σ2 = some (res, σf) → Go p l e R s m args below meth c D mi z0 y0 res σf t L st σ2) (hok : okI mi pc nx pos (.isub) = true) (h : step1 C X E pc (.isub) L st σ k = some (res, σf)) : Go p l e R s m args below meth c D mi z0 y0 res σf pc L st σ := by
  have hx := hF.1
  have hb := hF.2.1
  simp only [okI, nxIs, Bool.and_eq_true, decide_eq_true_eq] at hok
  simp only [step1] at h
  intro H locs cells slots ls r1 r2 r3 r4 r5
  split at h
  · exact lv_isub hx hb hok.1 (hk _ hok.2 _ _ _ h H locs cells slots ls r1 r2 r3 r4 r5)
  · cases h

theorem sa_imul (hW : Wld l D) (hF : Frm p R s m meth c D mi d) (hk : ∀ q, nx = some q → ∀ L st σ2, k L st σ2 = some (res, σf) → Go p l e R s m args below meth c D mi z0 y0 res σf q L st σ2) (hE : ∀ t, t < 100000 → ∀ L st σ2, E t L st σ2 = some (res, σf) → Go p l e R s m args below meth c D mi z0 y0 res σf t L st σ2) (hok : okI mi pc nx pos (.imul) = true) (h : step1 C X E pc (.imul) L st σ k = some (res, σf)) : Go p l e R s m args below meth c D mi z0 y0 res σf pc L st σ := by
  have hx := hF.1
  have hb := hF.2.1
  simp only [okI, nxIs, Bool.and_eq_true, decide_eq_true_eq] at hok
  simp only [step1] at h
  intro H locs cells slots ls r1 r2 r3 r4 r5
  split at h
  · exact lv_imul hx hb hok.1 (hk _ hok.2 _ _ _ h H locs cells slots ls r1 r2 r3 r4 r5)
  · cases h

theorem sa_iand (hW : Wld l D) (hF : Frm p R s m meth c D mi d) (hk : ∀ q, nx = some q → ∀ L st σ2, k L st σ2 = some (res, σf) → Go p l e R s m args below meth c D mi z0 y0 res σf q L st σ2) (hE : ∀ t, t < 100000 → ∀ L st σ2, E t L st σ2 = some (res, σf) → Go p l e R s m args below meth c D mi z0 y0 res σf t L st σ2) (hok : okI mi pc nx pos (.iand) = true) (h : step1 C X E pc (.iand) L st σ k = some (res, σf)) : Go p l e R s m args below meth c D mi z0 y0 res σf pc L st σ := by
  have hx := hF.1
  have hb := hF.2.1
  simp only [okI, nxIs, Bool.and_eq_true, decide_eq_true_eq] at hok
  simp only [step1] at h
  intro H locs cells slots ls r1 r2 r3 r4 r5
  split at h
  · exact lv_iand hx hb hok.1 (hk _ hok.2 _ _ _ h H locs cells slots ls r1 r2 r3 r4 r5)
  · cases h

theorem sa_ior (hW : Wld l D) (hF : Frm p R s m meth c D mi d) (hk : ∀ q, nx = some q → ∀ L st σ2, k L st σ2 = some (res, σf) → Go p l e R s m args below meth c D mi z0 y0 res σf q L st σ2) (hE : ∀ t, t < 100000 → ∀ L st σ2, E t L st σ2 = some (res, σf) → Go p l e R s m args below meth c D mi z0 y0 res σf t L st σ2) (hok : okI mi pc nx pos (.ior) = true) (h : step1 C X E pc (.ior) L st σ k = some (res, σf)) : Go p l e R s m args below meth c D mi z0 y0 res σf pc L st σ := by
  have hx := hF.1
  have hb := hF.2.1
  simp only [okI, nxIs, Bool.and_eq_true, decide_eq_true_eq] at hok
  simp only [step1] at h
  intro H locs cells slots ls r1 r2 r3 r4 r5
  split at h
  · exact lv_ior hx hb hok.1 (hk _ hok.2 _ _ _ h H locs cells slots ls r1 r2 r3 r4 r5)
  · cases h

theorem sa_ixor (hW : Wld l D) (hF : Frm p R s m meth c D mi d) (hk : ∀ q, nx = some q → ∀ L st σ2, k L st σ2 = some (res, σf) → Go p l e R s m args below meth c D mi z0 y0 res σf q L st σ2) (hE : ∀ t, t < 100000 → ∀ L st σ2, E t L st σ2 = some (res, σf) → Go p l e R s m args below meth c D mi z0 y0 res σf t L st σ2) (hok : okI mi pc nx pos (.ixor) = true) (h : step1 C X E pc (.ixor) L st σ k = some (res, σf)) : Go p l e R s m args below meth c D mi z0 y0 res σf pc L st σ := by
  have hx := hF.1
  have hb := hF.2.1
  simp only [okI, nxIs, Bool.and_eq_true, decide_eq_true_eq] at hok
  simp only [step1] at h
  intro H locs cells slots ls r1 r2 r3 r4 r5
  split at h
  · exact lv_ixor hx hb hok.1 (hk _ hok.2 _ _ _ h H locs cells slots ls r1 r2 r3 r4 r5)
  · cases h

theorem sa_ishl (hW : Wld l D) (hF : Frm p R s m meth c D mi d) (hk : ∀ q, nx = some q → ∀ L st σ2, k L st σ2 = some (res, σf) → Go p l e R s m args below meth c D mi z0 y0 res σf q L st σ2) (hE : ∀ t, t < 100000 → ∀ L st σ2, E t L st σ2 = some (res, σf) → Go p l e R s m args below meth c D mi z0 y0 res σf t L st σ2) (hok : okI mi pc nx pos (.ishl) = true) (h : step1 C X E pc (.ishl) L st σ k = some (res, σf)) : Go p l e R s m args below meth c D mi z0 y0 res σf pc L st σ := by
  have hx := hF.1
  have hb := hF.2.1
  simp only [okI, nxIs, Bool.and_eq_true, decide_eq_true_eq] at hok
  simp only [step1] at h
  intro H locs cells slots ls r1 r2 r3 r4 r5
  split at h
  · exact lv_ishl hx hb hok.1 (hk _ hok.2 _ _ _ h H locs cells slots ls r1 r2 r3 r4 r5)
  · cases h

theorem sa_ishr (hW : Wld l D) (hF : Frm p R s m meth c D mi d) (hk : ∀ q, nx = some q → ∀ L st σ2, k L st σ2 = some (res, σf) → Go p l e R s m args below meth c D mi z0 y0 res σf q L st σ2) (hE : ∀ t, t < 100000 → ∀ L st σ2, E t L st σ2 = some (res, σf) → Go p l e R s m args below meth c D mi z0 y0 res σf t L st σ2) (hok : okI mi pc nx pos (.ishr) = true) (h : step1 C X E pc (.ishr) L st σ k = some (res, σf)) : Go p l e R s m args below meth c D mi z0 y0 res σf pc L st σ := by
  have hx := hF.1
  have hb := hF.2.1
  simp only [okI, nxIs, Bool.and_eq_true, decide_eq_true_eq] at hok
  simp only [step1] at h
  intro H locs cells slots ls r1 r2 r3 r4 r5
  split at h
  · exact lv_ishr hx hb hok.1 (hk _ hok.2 _ _ _ h H locs cells slots ls r1 r2 r3 r4 r5)
  · cases h

theorem sa_lmul (hW : Wld l D) (hF : Frm p R s m meth c D mi d) (hk : ∀ q, nx = some q → ∀ L st σ2, k L st σ2 = some (res, σf) → Go p l e R s m args below meth c D mi z0 y0 res σf q L st σ2) (hE : ∀ t, t < 100000 → ∀ L st σ2, E t L st σ2 = some (res, σf) → Go p l e R s m args below meth c D mi z0 y0 res σf t L st σ2) (hok : okI mi pc nx pos (.lmul) = true) (h : step1 C X E pc (.lmul) L st σ k = some (res, σf)) : Go p l e R s m args below meth c D mi z0 y0 res σf pc L st σ := by
  have hx := hF.1
  have hb := hF.2.1
  simp only [okI, nxIs, Bool.and_eq_true, decide_eq_true_eq] at hok
  simp only [step1] at h
  intro H locs cells slots ls r1 r2 r3 r4 r5
  split at h
  · exact lv_lmul hx hb hok.1 (hk _ hok.2 _ _ _ h H locs cells slots ls r1 r2 r3 r4 r5)
  · cases h

theorem sa_lsub (hW : Wld l D) (hF : Frm p R s m meth c D mi d) (hk : ∀ q, nx = some q → ∀ L st σ2, k L st σ2 = some (res, σf) → Go p l e R s m args below meth c D mi z0 y0 res σf q L st σ2) (hE : ∀ t, t < 100000 → ∀ L st σ2, E t L st σ2 = some (res, σf) → Go p l e R s m args below meth c D mi z0 y0 res σf t L st σ2) (hok : okI mi pc nx pos (.lsub) = true) (h : step1 C X E pc (.lsub) L st σ k = some (res, σf)) : Go p l e R s m args below meth c D mi z0 y0 res σf pc L st σ := by
  have hx := hF.1
  have hb := hF.2.1
  simp only [okI, nxIs, Bool.and_eq_true, decide_eq_true_eq] at hok
  simp only [step1] at h
  intro H locs cells slots ls r1 r2 r3 r4 r5
  split at h
  · exact lv_lsub hx hb hok.1 (hk _ hok.2 _ _ _ h H locs cells slots ls r1 r2 r3 r4 r5)
  · cases h

theorem sa_iushr (hW : Wld l D) (hF : Frm p R s m meth c D mi d) (hk : ∀ q, nx = some q → ∀ L st σ2, k L st σ2 = some (res, σf) → Go p l e R s m args below meth c D mi z0 y0 res σf q L st σ2) (hE : ∀ t, t < 100000 → ∀ L st σ2, E t L st σ2 = some (res, σf) → Go p l e R s m args below meth c D mi z0 y0 res σf t L st σ2) (hok : okI mi pc nx pos (.iushr) = true) (h : step1 C X E pc (.iushr) L st σ k = some (res, σf)) : Go p l e R s m args below meth c D mi z0 y0 res σf pc L st σ := by
  have hx := hF.1
  have hb := hF.2.1
  simp only [okI, nxIs, Bool.and_eq_true, decide_eq_true_eq] at hok
  simp only [step1] at h
  intro H locs cells slots ls r1 r2 r3 r4 r5
  split at h
  · exact lv_iushr hx hb hok.1 rfl (hk _ hok.2 _ _ _ h H locs cells slots ls r1 r2 r3 r4 r5)
  · cases h

theorem sa_lcmp (hW : Wld l D) (hF : Frm p R s m meth c D mi d) (hk : ∀ q, nx = some q → ∀ L st σ2, k L st σ2 = some (res, σf) → Go p l e R s m args below meth c D mi z0 y0 res σf q L st σ2) (hE : ∀ t, t < 100000 → ∀ L st σ2, E t L st σ2 = some (res, σf) → Go p l e R s m args below meth c D mi z0 y0 res σf t L st σ2) (hok : okI mi pc nx pos (.lcmp) = true) (h : step1 C X E pc (.lcmp) L st σ k = some (res, σf)) : Go p l e R s m args below meth c D mi z0 y0 res σf pc L st σ := by
  have hx := hF.1
  have hb := hF.2.1
  simp only [okI, nxIs, Bool.and_eq_true, decide_eq_true_eq] at hok
  simp only [step1] at h
  intro H locs cells slots ls r1 r2 r3 r4 r5
  split at h
  · exact W.lcmp hx hb hok.1 (hk _ hok.2 _ _ _ h H locs cells slots ls r1 r2 r3 r4 r5)
  · cases h

theorem sa_idiv (hW : Wld l D) (hF : Frm p R s m meth c D mi d) (hk : ∀ q, nx = some q → ∀ L st σ2, k L st σ2 = some (res, σf) → Go p l e R s m args below meth c D mi z0 y0 res σf q L st σ2) (hE : ∀ t, t < 100000 → ∀ L st σ2, E t L st σ2 = some (res, σf) → Go p l e R s m args below meth c D mi z0 y0 res σf t L st σ2) (hok : okI mi pc nx pos (.idiv) = true) (h : step1 C X E pc (.idiv) L st σ k = some (res, σf)) : Go p l e R s m args below meth c D mi z0 y0 res σf pc L st σ := by
  have hx := hF.1
  have hb := hF.2.1
  simp only [okI, nxIs, Bool.and_eq_true, decide_eq_true_eq] at hok
  simp only [step1] at h
  intro H locs cells slots ls r1 r2 r3 r4 r5
  split at h
  · split at h
    · cases h
    · rename_i hne
      exact lv_idiv hx hb hok.1 hne (hk _ hok.2 _ _ _ h H locs cells slots ls r1 r2 r3 r4 r5)
  · cases h

theorem sa_irem (hW : Wld l D) (hF : Frm p R s m meth c D mi d) (hk : ∀ q, nx = some q → ∀ L st σ2, k L st σ2 = some (res, σf) → Go p l e R s m args below meth c D mi z0 y0 res σf q L st σ2) (hE : ∀ t, t < 100000 → ∀ L st σ2, E t L st σ2 = some (res, σf) → Go p l e R s m args below meth c D mi z0 y0 res σf t L st σ2) (hok : okI mi pc nx pos (.irem) = true) (h : step1 C X E pc (.irem) L st σ k = some (res, σf)) : Go p l e R s m args below meth c D mi z0 y0 res σf pc L st σ := by
  have hx := hF.1
  have hb := hF.2.1
  simp only [okI, nxIs, Bool.and_eq_true, decide_eq_true_eq] at hok
  simp only [step1] at h
  intro H locs cells slots ls r1 r2 r3 r4 r5
  split at h
  · split at h
    · cases h
    · rename_i hne
      exact lv_irem hx hb hok.1 hne (hk _ hok.2 _ _ _ h H locs cells slots ls r1 r2 r3 r4 r5)
  · cases h

theorem sa_ldiv (hW : Wld l D) (hF : Frm p R s m meth c D mi d) (hk : ∀ q, nx = some q → ∀ L st σ2, k L st σ2 = some (res, σf) → Go p l e R s m args below meth c D mi z0 y0 res σf q L st σ2) (hE : ∀ t, t < 100000 → ∀ L st σ2, E t L st σ2 = some (res, σf) → Go p l e R s m args below meth c D mi z0 y0 res σf t L st σ2) (hok : okI mi pc nx pos (.ldiv) = true) (h : step1 C X E pc (.ldiv) L st σ k = some (res, σf)) : Go p l e R s m args below meth c D mi z0 y0 res σf pc L st σ := by
  have hx := hF.1
  have hb := hF.2.1
  simp only [okI, nxIs, Bool.and_eq_true, decide_eq_true_eq] at hok
  simp only [step1] at h
  intro H locs cells slots ls r1 r2 r3 r4 r5
  split at h
  · split at h
    · cases h
    · rename_i hne
      exact lv_ldiv hx hb hok.1 hne (hk _ hok.2 _ _ _ h H locs cells slots ls r1 r2 r3 r4 r5)
  · cases h

theorem sa_ineg (hW : Wld l D) (hF : Frm p R s m meth c D mi d) (hk : ∀ q, nx = some q → ∀ L st σ2, k L st σ2 = some (res, σf) → Go p l e R s m args below meth c D mi z0 y0 res σf q L st σ2) (hE : ∀ t, t < 100000 → ∀ L st σ2, E t L st σ2 = some (res, σf) → Go p l e R s m args below meth c D mi z0 y0 res σf t L st σ2) (hok : okI mi pc nx pos (.ineg) = true) (h : step1 C X E pc (.ineg) L st σ k = some (res, σf)) : Go p l e R s m args below meth c D mi z0 y0 res σf pc L st σ := by
  have hx := hF.1
  have hb := hF.2.1
  simp only [okI, nxIs, Bool.and_eq_true, decide_eq_true_eq] at hok
  simp only [step1] at h
  intro H locs cells slots ls r1 r2 r3 r4 r5
  split at h
  · exact lv_ineg hx hb hok.1 (hk _ hok.2 _ _ _ h H locs cells slots ls r1 r2 r3 r4 r5)
  · cases h

theorem sa_i2l (hW : Wld l D) (hF : Frm p R s m meth c D mi d) (hk : ∀ q, nx = some q → ∀ L st σ2, k L st σ2 = some (res, σf) → Go p l e R s m args below meth c D mi z0 y0 res σf q L st σ2) (hE : ∀ t, t < 100000 → ∀ L st σ2, E t L st σ2 = some (res, σf) → Go p l e R s m args below meth c D mi z0 y0 res σf t L st σ2) (hok : okI mi pc nx pos (.i2l) = true) (h : step1 C X E pc (.i2l) L st σ k = some (res, σf)) : Go p l e R s m args below meth c D mi z0 y0 res σf pc L st σ := by
  have hx := hF.1
  have hb := hF.2.1
  simp only [okI, nxIs, Bool.and_eq_true, decide_eq_true_eq] at hok
  simp only [step1] at h
  intro H locs cells slots ls r1 r2 r3 r4 r5
  split at h
  · exact lv_i2l hx hb hok.1 rfl (hk _ hok.2 _ _ _ h H locs cells slots ls r1 r2 r3 r4 r5)
  · cases h

theorem sa_l2i (hW : Wld l D) (hF : Frm p R s m meth c D mi d) (hk : ∀ q, nx = some q → ∀ L st σ2, k L st σ2 = some (res, σf) → Go p l e R s m args below meth c D mi z0 y0 res σf q L st σ2) (hE : ∀ t, t < 100000 → ∀ L st σ2, E t L st σ2 = some (res, σf) → Go p l e R s m args below meth c D mi z0 y0 res σf t L st σ2) (hok : okI mi pc nx pos (.l2i) = true) (h : step1 C X E pc (.l2i) L st σ k = some (res, σf)) : Go p l e R s m args below meth c D mi z0 y0 res σf pc L st σ := by
  have hx := hF.1
  have hb := hF.2.1
  simp only [okI, nxIs, Bool.and_eq_true, decide_eq_true_eq] at hok
  simp only [step1] at h
  intro H locs cells slots ls r1 r2 r3 r4 r5
  split at h
  · exact lv_l2i hx hb hok.1 rfl (hk _ hok.2 _ _ _ h H locs cells slots ls r1 r2 r3 r4 r5)
  · cases h

theorem sa_i2b (hW : Wld l D) (hF : Frm p R s m meth c D mi d) (hk : ∀ q, nx = some q → ∀ L st σ2, k L st σ2 = some (res, σf) → Go p l e R s m args below meth c D mi z0 y0 res σf q L st σ2) (hE : ∀ t, t < 100000 → ∀ L st σ2, E t L st σ2 = some (res, σf) → Go p l e R s m args below meth c D mi z0 y0 res σf t L st σ2) (hok : okI mi pc nx pos (.i2b) = true) (h : step1 C X E pc (.i2b) L st σ k = some (res, σf)) : Go p l e R s m args below meth c D mi z0 y0 res σf pc L st σ := by
  have hx := hF.1
  have hb := hF.2.1
  simp only [okI, nxIs, Bool.and_eq_true, decide_eq_true_eq] at hok
  simp only [step1] at h
  intro H locs cells slots ls r1 r2 r3 r4 r5
  split at h
  · exact lv_i2b hx hb hok.1 rfl (hk _ hok.2 _ _ _ h H locs cells slots ls r1 r2 r3 r4 r5)
  · cases h

theorem sa_i2c (hW : Wld l D) (hF : Frm p R s m meth c D mi d) (hk : ∀ q, nx = some q → ∀ L st σ2, k L st σ2 = some (res, σf) → Go p l e R s m args below meth c D mi z0 y0 res σf q L st σ2) (hE : ∀ t, t < 100000 → ∀ L st σ2, E t L st σ2 = some (res, σf) → Go p l e R s m args below meth c D mi z0 y0 res σf t L st σ2) (hok : okI mi pc nx pos (.i2c) = true) (h : step1 C X E pc (.i2c) L st σ k = some (res, σf)) : Go p l e R s m args below meth c D mi z0 y0 res σf pc L st σ := by
  have hx := hF.1
  have hb := hF.2.1
  simp only [okI, nxIs, Bool.and_eq_true, decide_eq_true_eq] at hok
  simp only [step1] at h
  intro H locs cells slots ls r1 r2 r3 r4 r5
  split at h
  · exact lv_i2c hx hb hok.1 rfl (hk _ hok.2 _ _ _ h H locs cells slots ls r1 r2 r3 r4 r5)
  · cases h

theorem sa_pop (hW : Wld l D) (hF : Frm p R s m meth c D mi d) (hk : ∀ q, nx = some q → ∀ L st σ2, k L st σ2 = some (res, σf) → Go p l e R s m args below meth c D mi z0 y0 res σf q L st σ2) (hE : ∀ t, t < 100000 → ∀ L st σ2, E t L st σ2 = some (res, σf) → Go p l e R s m args below meth c D mi z0 y0 res σf t L st σ2) (hok : okI mi pc nx pos (.pop) = true) (h : step1 C X E pc (.pop) L st σ k = some (res, σf)) : Go p l e R s m args below meth c D mi z0 y0 res σf pc L st σ := by
  have hx := hF.1
  have hb := hF.2.1
  simp only [okI, nxIs, Bool.and_eq_true, decide_eq_true_eq] at hok
  simp only [step1] at h
  intro H locs cells slots ls r1 r2 r3 r4 r5
  split at h
  · split at h
    · rename_i hc
      exact lv_pop hx hb hok.1 (cat_tr hW.2.2.2.2.1 hc) (hk _ hok.2 _ _ _ h H locs cells slots ls r1 r2 r3 r4 r5)
    · cases h
  · cases h

theorem sa_dup (hW : Wld l D) (hF : Frm p R s m meth c D mi d) (hk : ∀ q, nx = some q → ∀ L st σ2, k L st σ2 = some (res, σf) → Go p l e R s m args below meth c D mi z0 y0 res σf q L st σ2) (hE : ∀ t, t < 100000 → ∀ L st σ2, E t L st σ2 = some (res, σf) → Go p l e R s m args below meth c D mi z0 y0 res σf t L st σ2) (hok : okI mi pc nx pos (.dup) = true) (h : step1 C X E pc (.dup) L st σ k = some (res, σf)) : Go p l e R s m args below meth c D mi z0 y0 res σf pc L st σ := by
  have hx := hF.1
  have hb := hF.2.1
  simp only [okI, nxIs, Bool.and_eq_true, decide_eq_true_eq] at hok
  simp only [step1] at h
  intro H locs cells slots ls r1 r2 r3 r4 r5
  split at h
  · split at h
    · rename_i hc
      exact lv_dup hx hb hok.1 (cat_tr hW.2.2.2.2.1 hc) (hk _ hok.2 _ _ _ h H locs cells slots ls r1 r2 r3 r4 r5)
    · cases h
  · cases h

theorem sa_dup2 (hW : Wld l D) (hF : Frm p R s m meth c D mi d) (hk : ∀ q, nx = some q → ∀ L st σ2, k L st σ2 = some (res, σf) → Go p l e R s m args below meth c D mi z0 y0 res σf q L st σ2) (hE : ∀ t, t < 100000 → ∀ L st σ2, E t L st σ2 = some (res, σf) → Go p l e R s m args below meth c D mi z0 y0 res σf t L st σ2) (hok : okI mi pc nx pos (.dup2) = true) (h : step1 C X E pc (.dup2) L st σ k = some (res, σf)) : Go p l e R s m args below meth c D mi z0 y0 res σf pc L st σ := by
  have hx := hF.1
  have hb := hF.2.1
  simp only [okI, nxIs, Bool.and_eq_true, decide_eq_true_eq] at hok
  simp only [step1] at h
  intro H locs cells slots ls r1 r2 r3 r4 r5
  split at h
  · split at h
    · rename_i hc
      exact lv_dup2_11 hx hb hok.1 (cat_tr hW.2.2.2.2.1 hc.1) (cat_tr hW.2.2.2.2.1 hc.2) (hk _ hok.2 _ _ _ h H locs cells slots ls r1 r2 r3 r4 r5)
    · cases h
  · cases h

theorem sa_aconst_null (hW : Wld l D) (hF : Frm p R s m meth c D mi d) (hk : ∀ q, nx = some q → ∀ L st σ2, k L st σ2 = some (res, σf) → Go p l e R s m args below meth c D mi z0 y0 res σf q L st σ2) (hE : ∀ t, t < 100000 → ∀ L st σ2, E t L st σ2 = some (res, σf) → Go p l e R s m args below meth c D mi z0 y0 res σf t L st σ2) (hok : okI mi pc nx pos (.aconst_null) = true) (h : step1 C X E pc (.aconst_null) L st σ k = some (res, σf)) : Go p l e R s m args below meth c D mi z0 y0 res σf pc L st σ := by
  have hx := hF.1
  have hb := hF.2.1
  simp only [okI, nxIs, Bool.and_eq_true, decide_eq_true_eq] at hok
  simp only [step1] at h
  intro H locs cells slots ls r1 r2 r3 r4 r5
  exact lv_null hx hb hok.1 (hk _ hok.2 _ _ _ h H locs cells slots ls r1 r2 r3 r4 r5)

theorem sa_lconst (hW : Wld l D) (hF : Frm p R s m meth c D mi d) (hk : ∀ q, nx = some q → ∀ L st σ2, k L st σ2 = some (res, σf) → Go p l e R s m args below meth c D mi z0 y0 res σf q L st σ2) (hE : ∀ t, t < 100000 → ∀ L st σ2, E t L st σ2 = some (res, σf) → Go p l e R s m args below meth c D mi z0 y0 res σf t L st σ2) {n : Fin 2} (hok : okI mi pc nx pos (.lconst n) = true) (h : step1 C X E pc (.lconst n) L st σ k = some (res, σf)) : Go p l e R s m args below meth c D mi z0 y0 res σf pc L st σ := by
  have hx := hF.1
  have hb := hF.2.1
  simp only [okI, nxIs, Bool.and_eq_true, decide_eq_true_eq] at hok
  simp only [step1] at h
  intro H locs cells slots ls r1 r2 r3 r4 r5
  exact lv_lconst hx hb hok.1 rfl (hk _ hok.2 _ _ _ h H locs cells slots ls r1 r2 r3 r4 r5)

theorem sa_iconst (hW : Wld l D) (hF : Frm p R s m meth c D mi d) (hk : ∀ q, nx = some q → ∀ L st σ2, k L st σ2 = some (res, σf) → Go p l e R s m args below meth c D mi z0 y0 res σf q L st σ2) (hE : ∀ t, t < 100000 → ∀ L st σ2, E t L st σ2 = some (res, σf) → Go p l e R s m args below meth c D mi z0 y0 res σf t L st σ2) {n : Int} (hok : okI mi pc nx pos (.iconst n) = true) (h : step1 C X E pc (.iconst n) L st σ k = some (res, σf)) : Go p l e R s m args below meth c D mi z0 y0 res σf pc L st σ := by
  have hx := hF.1
  have hb := hF.2.1
  simp only [okI, nxIs, Bool.and_eq_true, decide_eq_true_eq] at hok
  simp only [step1] at h
  intro H locs cells slots ls r1 r2 r3 r4 r5
  split at hok
  · rename_i hd
    simp only [Bool.and_eq_true, decide_eq_true_eq] at hok
    exact lv_iconst hx hb hd hok.1 (hk _ hok.2 _ _ _ h H locs cells slots ls r1 r2 r3 r4 r5)
  · rename_i hd
    simp only [Bool.and_eq_true, decide_eq_true_eq] at hok
    exact lv_bipush hx hb hd hok.1 (hk _ hok.2 _ _ _ h H locs cells slots ls r1 r2 r3 r4 r5)
  · rename_i hd
    simp only [Bool.and_eq_true, decide_eq_true_eq] at hok
    exact lv_sipush hx hb hd hok.1 (hk _ hok.2 _ _ _ h H locs cells slots ls r1 r2 r3 r4 r5)
  · rename_i hd
    simp only [Bool.and_eq_true, decide_eq_true_eq] at hok
    exact lv_ldc hx hb hF.2.2.2.1 (wd_at hW hF.2.2.2.2.2.2.2.2.1 hok.1) hd (hk _ hok.2 _ _ _ h H locs cells slots ls r1 r2 r3 r4 r5)
  · rename_i hd
    simp only [Bool.and_eq_true, decide_eq_true_eq] at hok
    exact lv_ldcw hx hb hF.2.2.2.1 (wd_at hW hF.2.2.2.2.2.2.2.2.1 hok.1) hd (hk _ hok.2 _ _ _ h H locs cells slots ls r1 r2 r3 r4 r5)
  · cases hok

theorem sa_ldc2_w (hW : Wld l D) (hF : Frm p R s m meth c D mi d) (hk : ∀ q, nx = some q → ∀ L st σ2, k L st σ2 = some (res, σf) → Go p l e R s m args below meth c D mi z0 y0 res σf q L st σ2) (hE : ∀ t, t < 100000 → ∀ L st σ2, E t L st σ2 = some (res, σf) → Go p l e R s m args below meth c D mi z0 y0 res σf t L st σ2) {n : Nat} (hok : okI mi pc nx pos (.ldc2_w n) = true) (h : step1 C X E pc (.ldc2_w n) L st σ k = some (res, σf)) : Go p l e R s m args below meth c D mi z0 y0 res σf pc L st σ := by
  have hx := hF.1
  have hb := hF.2.1
  simp only [okI, nxIs, Bool.and_eq_true, decide_eq_true_eq] at hok
  simp only [step1] at h
  intro H locs cells slots ls r1 r2 r3 r4 r5
  split at hok
  · rename_i hd
    simp only [Bool.and_eq_true, decide_eq_true_eq] at hok
    exact lv_ldc2 hx hb hF.2.2.2.1 (wd_at hW hF.2.2.2.2.2.2.2.2.1 hok.1) hd (hk _ hok.2 _ _ _ h H locs cells slots ls r1 r2 r3 r4 r5)
  · cases hok

theorem sa_iload (hW : Wld l D) (hF : Frm p R s m meth c D mi d) (hk : ∀ q, nx = some q → ∀ L st σ2, k L st σ2 = some (res, σf) → Go p l e R s m args below meth c D mi z0 y0 res σf q L st σ2) (hE : ∀ t, t < 100000 → ∀ L st σ2, E t L st σ2 = some (res, σf) → Go p l e R s m args below meth c D mi z0 y0 res σf t L st σ2) {n : Nat} (hok : okI mi pc nx pos (.iload n) = true) (h : step1 C X E pc (.iload n) L st σ k = some (res, σf)) : Go p l e R s m args below meth c D mi z0 y0 res σf pc L st σ := by
  have hx := hF.1
  have hb := hF.2.1
  simp only [okI, nxIs, Bool.and_eq_true, decide_eq_true_eq] at hok
  simp only [step1] at h
  intro H locs cells slots ls r1 r2 r3 r4 r5
  split at h
  · rename_i hv
    split at hok
    · rename_i hd
      simp only [Bool.and_eq_true, decide_eq_true_eq] at hok
      obtain ⟨rfl, hn⟩ := hok
      exact lv_iload hx hb hd (lR_get r2 hv) (hk _ hn _ _ _ h H locs cells slots ls r1 r2 r3 r4 r5)
    · rename_i hd
      simp only [Bool.and_eq_true, decide_eq_true_eq] at hok
      exact lv_iload_n hx hb hd hok.1 (lR_get r2 hv) (hk _ hok.2 _ _ _ h H locs cells slots ls r1 r2 r3 r4 r5)
    · cases hok
  · cases h

theorem sa_lload (hW : Wld l D) (hF : Frm p R s m meth c D mi d) (hk : ∀ q, nx = some q → ∀ L st σ2, k L st σ2 = some (res, σf) → Go p l e R s m args below meth c D mi z0 y0 res σf q L st σ2) (hE : ∀ t, t < 100000 → ∀ L st σ2, E t L st σ2 = some (res, σf) → Go p l e R s m args below meth c D mi z0 y0 res σf t L st σ2) {n : Nat} (hok : okI mi pc nx pos (.lload n) = true) (h : step1 C X E pc (.lload n) L st σ k = some (res, σf)) : Go p l e R s m args below meth c D mi z0 y0 res σf pc L st σ := by
  have hx := hF.1
  have hb := hF.2.1
  simp only [okI, nxIs, Bool.and_eq_true, decide_eq_true_eq] at hok
  simp only [step1] at h
  intro H locs cells slots ls r1 r2 r3 r4 r5
  split at h
  · rename_i hv
    split at hok
    · rename_i hd
      simp only [Bool.and_eq_true, decide_eq_true_eq] at hok
      obtain ⟨rfl, hn⟩ := hok
      exact lv_lload hx hb hd (lR_get r2 hv) (hk _ hn _ _ _ h H locs cells slots ls r1 r2 r3 r4 r5)
    · rename_i hd
      simp only [Bool.and_eq_true, decide_eq_true_eq] at hok
      exact lv_lload_n hx hb hd hok.1 (lR_get r2 hv) (hk _ hok.2 _ _ _ h H locs cells slots ls r1 r2 r3 r4 r5)
    · cases hok
  · cases h

theorem sa_push {cc : ByteArray} {n q : Nat} {H : Heap} {locs : List Loc} {cells slots : Nat} {ls : Array Slot} {Q : State → Prop} {rest : List Value} {w : Value} (hx : p.tables.exec = Jvm.exec) (hb : c.code = cc)
    (hd : (decode cc pc = .ok (.aload n, 2) ∧ q = pc + 2) ∨ ∃ j : Fin 4, decode cc pc = .ok (.aload_n j, 1) ∧ (j : Nat) = n ∧ q = pc + 1) (hw : w = .null ∨ ∃ a, w = .ref a) (hl : ls[n]? = some (.val w))
    (kk : W p l e R s m args below meth c H locs cells slots Q (F0 m q ls (w :: rest))) : W p l e R s m args below meth c H locs cells slots Q (F0 m pc ls rest) := by
  rcases hw with rfl | ⟨a, rfl⟩ <;> rcases hd with ⟨h1, rfl⟩ | ⟨j, h1, h2, rfl⟩
  · exact lv_aloadN hx hb h1 hl kk
  · exact lv_aload_nN hx hb h1 h2 hl kk
  · exact lv_aload hx hb h1 hl kk
  · exact lv_aload_n hx hb h1 h2 hl kk

theorem sa_aload (hW : Wld l D) (hF : Frm p R s m meth c D mi d) (hk : ∀ q, nx = some q → ∀ L st σ2, k L st σ2 = some (res, σf) → Go p l e R s m args below meth c D mi z0 y0 res σf q L st σ2) (hE : ∀ t, t < 100000 → ∀ L st σ2, E t L st σ2 = some (res, σf) → Go p l e R s m args below meth c D mi z0 y0 res σf t L st σ2) {n : Nat} (hok : okI mi pc nx pos (.aload n) = true) (h : step1 C X E pc (.aload n) L st σ k = some (res, σf)) : Go p l e R s m args below meth c D mi z0 y0 res σf pc L st σ := by
  have hx := hF.1
  have hb := hF.2.1
  simp only [okI, nxIs, Bool.and_eq_true, decide_eq_true_eq] at hok
  simp only [step1] at h
  intro H locs cells slots ls r1 r2 r3 r4 r5
  have hd : ∃ q, nx = some q ∧ ((decode (bsOf mi) pc = .ok (.aload n, 2) ∧ q = pc + 2) ∨ ∃ j : Fin 4, decode (bsOf mi) pc = .ok (.aload_n j, 1) ∧ (j : Nat) = n ∧ q = pc + 1) := by
    split at hok
    · rename_i hd
      simp only [Bool.and_eq_true, decide_eq_true_eq] at hok
      obtain ⟨rfl, hn⟩ := hok
      exact ⟨_, hn, Or.inl ⟨hd, rfl⟩⟩
    · rename_i hd
      simp only [Bool.and_eq_true, decide_eq_true_eq] at hok
      exact ⟨_, hok.2, Or.inr ⟨_, hd, hok.1, rfl⟩⟩
    · cases hok
  obtain ⟨q, hn, hd⟩ := hd
  split at h
  · rename_i hv
    exact sa_push hx hb hd (tr_ref hW.2.2.2.2.1 _) (lR_get r2 hv) (hk _ hn _ _ _ h H locs cells slots ls r1 r2 r3 r4 r5)
  · rename_i hv
    exact sa_push hx hb hd (Or.inl rfl) (lR_get r2 hv) (hk _ hn _ _ _ h H locs cells slots ls r1 r2 r3 r4 r5)
  · cases h

theorem sa_istore (hW : Wld l D) (hF : Frm p R s m meth c D mi d) (hk : ∀ q, nx = some q → ∀ L st σ2, k L st σ2 = some (res, σf) → Go p l e R s m args below meth c D mi z0 y0 res σf q L st σ2) (hE : ∀ t, t < 100000 → ∀ L st σ2, E t L st σ2 = some (res, σf) → Go p l e R s m args below meth c D mi z0 y0 res σf t L st σ2) {n : Nat} (hok : okI mi pc nx pos (.istore n) = true) (h : step1 C X E pc (.istore n) L st σ k = some (res, σf)) : Go p l e R s m args below meth c D mi z0 y0 res σf pc L st σ := by
  have hx := hF.1
  have hb := hF.2.1
  simp only [okI, nxIs, Bool.and_eq_true, decide_eq_true_eq] at hok
  simp only [step1] at h
  intro H locs cells slots ls r1 r2 r3 r4 r5
  split at h
  · split at h
    · rename_i hs
      have hl := stL_len hs
      have hlt : n < mxOf mi := Nat.lt_of_lt_of_le hl.1 r2.1
      split at hok
      · rename_i hd
        simp only [Bool.and_eq_true, decide_eq_true_eq] at hok
        obtain ⟨rfl, hn⟩ := hok
        exact lv_istore hx hb hd r2.2 hlt rfl (fun ls' hl' => hk _ hn _ _ _ h H locs cells slots ls' r1 (lR_st hW.2.2.2.2.1 r2 hs hl') r3 r4 r5)
      · rename_i hd
        simp only [Bool.and_eq_true, decide_eq_true_eq] at hok
        exact lv_istore_n hx hb hd hok.1 r2.2 hlt rfl (fun ls' hl' => hk _ hok.2 _ _ _ h H locs cells slots ls' r1 (lR_st hW.2.2.2.2.1 r2 hs hl') r3 r4 r5)
      · cases hok
    · cases h
  · cases h

theorem sa_sto {cc : ByteArray} {n q nL : Nat} {H : Heap} {locs : List Loc} {cells slots : Nat} {ls : Array Slot} {Q : State → Prop} {rest : List Value} {w : Value} {lv : List (Nat × Value)} (hx : p.tables.exec = Jvm.exec) (hb : c.code = cc)
    (hd : (decode cc pc = .ok (.astore n, 2) ∧ q = pc + 2) ∨ ∃ j : Fin 4, decode cc pc = .ok (.astore_n j, 1) ∧ (j : Nat) = n ∧ q = pc + 1) (hw : w = .null ∨ ∃ a, w = .ref a) (hl : lv_has ls nL lv) (hn : n < nL)
    (kk : ∀ ls' : Array Slot, lv_has ls' nL ((n, w) :: lv.filter (fun q => !(q.1 == n) && !(q.1 + 1 == n && q.2.category == 2))) → W p l e R s m args below meth c H locs cells slots Q (F0 m q ls' rest)) : W p l e R s m args below meth c H locs cells slots Q (F0 m pc ls (w :: rest)) := by
  rcases hw with rfl | ⟨a, rfl⟩ <;> rcases hd with ⟨h1, rfl⟩ | ⟨j, h1, h2, rfl⟩
  · exact lv_astoreN hx hb h1 hl hn rfl kk
  · exact lv_astore_nN hx hb h1 h2 hl hn rfl kk
  · exact lv_astore hx hb h1 hl hn rfl kk
  · exact lv_astore_n hx hb h1 h2 hl hn rfl kk

theorem sa_astore (hW : Wld l D) (hF : Frm p R s m meth c D mi d) (hk : ∀ q, nx = some q → ∀ L st σ2, k L st σ2 = some (res, σf) → Go p l e R s m args below meth c D mi z0 y0 res σf q L st σ2) (hE : ∀ t, t < 100000 → ∀ L st σ2, E t L st σ2 = some (res, σf) → Go p l e R s m args below meth c D mi z0 y0 res σf t L st σ2) {n : Nat} (hok : okI mi pc nx pos (.astore n) = true) (h : step1 C X E pc (.astore n) L st σ k = some (res, σf)) : Go p l e R s m args below meth c D mi z0 y0 res σf pc L st σ := by
  have hx := hF.1
  have hb := hF.2.1
  simp only [okI, nxIs, Bool.and_eq_true, decide_eq_true_eq] at hok
  simp only [step1] at h
  intro H locs cells slots ls r1 r2 r3 r4 r5
  have hd : ∃ q, nx = some q ∧ ((decode (bsOf mi) pc = .ok (.astore n, 2) ∧ q = pc + 2) ∨ ∃ j : Fin 4, decode (bsOf mi) pc = .ok (.astore_n j, 1) ∧ (j : Nat) = n ∧ q = pc + 1) := by
    split at hok
    · rename_i hd
      simp only [Bool.and_eq_true, decide_eq_true_eq] at hok
      obtain ⟨rfl, hn⟩ := hok
      exact ⟨_, hn, Or.inl ⟨hd, rfl⟩⟩
    · rename_i hd
      simp only [Bool.and_eq_true, decide_eq_true_eq] at hok
      exact ⟨_, hok.2, Or.inr ⟨_, hd, hok.1, rfl⟩⟩
    · cases hok
  obtain ⟨q, hn, hd⟩ := hd
  split at h
  · split at h
    · rename_i hs
      have hl := stL_len hs
      exact sa_sto hx hb hd (tr_ref hW.2.2.2.2.1 _) r2.2 (Nat.lt_of_lt_of_le hl.1 r2.1) (fun ls' hl' => hk _ hn _ _ _ h H locs cells slots ls' r1 (lR_st hW.2.2.2.2.1 r2 hs hl') r3 r4 r5)
    · cases h
  · split at h
    · rename_i hs
      have hl := stL_len hs
      exact sa_sto hx hb hd (Or.inl rfl) r2.2 (Nat.lt_of_lt_of_le hl.1 r2.1) (fun ls' hl' => hk _ hn _ _ _ h H locs cells slots ls' r1 (lR_st hW.2.2.2.2.1 r2 hs hl') r3 r4 r5)
    · cases h
  · cases h

theorem sa_iinc (hW : Wld l D) (hF : Frm p R s m meth c D mi d) (hk : ∀ q, nx = some q → ∀ L st σ2, k L st σ2 = some (res, σf) → Go p l e R s m args below meth c D mi z0 y0 res σf q L st σ2) (hE : ∀ t, t < 100000 → ∀ L st σ2, E t L st σ2 = some (res, σf) → Go p l e R s m args below meth c D mi z0 y0 res σf t L st σ2) {n : Nat} {j : Int} (hok : okI mi pc nx pos (.iinc n j) = true) (h : step1 C X E pc (.iinc n j) L st σ k = some (res, σf)) : Go p l e R s m args below meth c D mi z0 y0 res σf pc L st σ := by
  have hx := hF.1
  have hb := hF.2.1
  simp only [okI, nxIs, Bool.and_eq_true, decide_eq_true_eq] at hok
  simp only [step1] at h
  intro H locs cells slots ls r1 r2 r3 r4 r5
  split at h
  · rename_i hv
    split at h
    · rename_i hs
      have hl := stL_len hs
      obtain ⟨q, hq⟩ := List.getElem?_of_mem (prs_mem (D := D) (L := L) (q := (n, _)).mpr ⟨_, hv, rfl⟩)
      exact lv_iinc hx hb hok.1 r2.2 hq rfl (Nat.lt_of_lt_of_le hl.1 r2.1) rfl (fun ls' hl' => hk _ hok.2 _ _ _ h H locs cells slots ls' r1 (lR_st hW.2.2.2.2.1 r2 hs hl') r3 r4 r5)
    · cases h
  · cases h

theorem lR_st2 {ls ls' : Array Slot} {n i : Nat} {L L' : SL} {x : Int64} (h : lR D ls n L) (hs : stL2 L i (.long x) = some L') (hfm : D.2.2.2.1 = .null ∨ ∃ q, D.2.2.2.1 = .ref q)
    (hl : lv_has ls' n ((i, Value.long x) :: (prs D L).filter (fun q => !(q.1 == i) && (!(q.1 == i + 1) && !(q.1 + 1 == i && q.2.category == 2))))) : i + 1 < n ∧ lR D ls' n L' := by
  unfold stL2 at hs
  split at hs
  · rename_i hi
    have hc : L' = (L.set i (some (.long x))).set (i + 1) none ∧ (i = 0 ∨ ok1 L[i - 1]? = true) := by
      split at hs
      · rename_i h0
        cases hs
        exact ⟨rfl, Or.inl h0⟩
      · split at hs
        · rename_i h1
          cases hs
          exact ⟨rfl, Or.inr h1⟩
        · cases hs
    obtain ⟨rfl, ho⟩ := hc
    refine ⟨Nat.lt_of_lt_of_le hi h.1, lR_of (by rw [List.length_set, List.length_set]; exact h.1) hl fun j w hj => ?_⟩
    by_cases e1 : j = i + 1
    · subst e1
      rw [List.getElem?_set_self (by rw [List.length_set]; exact hi)] at hj
      cases hj
    · rw [List.getElem?_set_ne (fun q => e1 q.symm)] at hj
      by_cases e : j = i
      · subst e
        rw [List.getElem?_set_self (by omega)] at hj
        cases hj
        exact List.mem_cons_self
      · rw [List.getElem?_set_ne (fun q => e q.symm)] at hj
        refine List.mem_cons_of_mem _ (List.mem_filter.mpr ⟨prs_mem.mpr ⟨w, hj, rfl⟩, ?_⟩)
        simp only [Bool.and_eq_true, Bool.not_eq_true', beq_eq_false_iff_ne, ne_eq, Bool.and_eq_false_iff]
        refine ⟨e, e1, ?_⟩
        by_cases e2 : j + 1 = i
        · refine Or.inr ?_
          rcases ho with h0 | h1
          · omega
          · have : i - 1 = j := by omega
            rw [this, hj] at h1
            exact ok1_tr hfm h1
        · exact Or.inl e2
  · cases hs
theorem stL2_lt {L L' : SL} {i : Nat} {v : Value} (hs : stL2 L i v = some L') : i + 1 < L.length := by
  unfold stL2 at hs
  split at hs
  · assumption
  · cases hs

theorem sa_lstore (hW : Wld l D) (hF : Frm p R s m meth c D mi d) (hk : ∀ q, nx = some q → ∀ L st σ2, k L st σ2 = some (res, σf) → Go p l e R s m args below meth c D mi z0 y0 res σf q L st σ2) (hE : ∀ t, t < 100000 → ∀ L st σ2, E t L st σ2 = some (res, σf) → Go p l e R s m args below meth c D mi z0 y0 res σf t L st σ2) {n : Nat} (hok : okI mi pc nx pos (.lstore n) = true) (h : step1 C X E pc (.lstore n) L st σ k = some (res, σf)) : Go p l e R s m args below meth c D mi z0 y0 res σf pc L st σ := by
  have hx := hF.1
  have hb := hF.2.1
  simp only [okI, nxIs, Bool.and_eq_true, decide_eq_true_eq] at hok
  simp only [step1] at h
  intro H locs cells slots ls r1 r2 r3 r4 r5
  split at h
  · split at h
    · rename_i hs
      have hlt : n + 1 < mxOf mi := Nat.lt_of_lt_of_le (stL2_lt hs) r2.1
      split at hok
      · rename_i hd
        simp only [Bool.and_eq_true, decide_eq_true_eq] at hok
        obtain ⟨rfl, hn⟩ := hok
        exact lv_lstore hx hb hd r2.2 hlt rfl (fun ls' hl' => hk _ hn _ _ _ h H locs cells slots ls' r1 (lR_st2 r2 hs hW.2.2.2.2.1 hl').2 r3 r4 r5)
      · rename_i hd
        simp only [Bool.and_eq_true, decide_eq_true_eq] at hok
        exact lv_lstore_n hx hb hd hok.1 r2.2 hlt rfl (fun ls' hl' => hk _ hok.2 _ _ _ h H locs cells slots ls' r1 (lR_st2 r2 hs hW.2.2.2.2.1 hl').2 r3 r4 r5)
      · cases hok
    · cases h
  · cases h

theorem sa_goto (hW : Wld l D) (hF : Frm p R s m meth c D mi d) (hk : ∀ q, nx = some q → ∀ L st σ2, k L st σ2 = some (res, σf) → Go p l e R s m args below meth c D mi z0 y0 res σf q L st σ2) (hE : ∀ t, t < 100000 → ∀ L st σ2, E t L st σ2 = some (res, σf) → Go p l e R s m args below meth c D mi z0 y0 res σf t L st σ2) {t : Int} (hok : okI mi pc nx pos (.goto t) = true) (h : step1 C X E pc (.goto t) L st σ k = some (res, σf)) : Go p l e R s m args below meth c D mi z0 y0 res σf pc L st σ := by
  have hx := hF.1
  have hb := hF.2.1
  simp only [okI, nxIs, Bool.and_eq_true, decide_eq_true_eq] at hok
  simp only [step1] at h
  intro H locs cells slots ls r1 r2 r3 r4 r5
  split at hok
  · rename_i hd
    simp only [Bool.and_eq_true, decide_eq_true_eq] at hok
    exact lv_goto hx hb hd hok.1 (hE _ hok.2 _ _ _ h H locs cells slots ls r1 r2 r3 r4 r5)
  · cases hok

theorem sa_goto_w (hW : Wld l D) (hF : Frm p R s m meth c D mi d) (hk : ∀ q, nx = some q → ∀ L st σ2, k L st σ2 = some (res, σf) → Go p l e R s m args below meth c D mi z0 y0 res σf q L st σ2) (hE : ∀ t, t < 100000 → ∀ L st σ2, E t L st σ2 = some (res, σf) → Go p l e R s m args below meth c D mi z0 y0 res σf t L st σ2) {t : Int} (hpc : pc < 100000) (hok : okI mi pc nx pos (.goto_w t) = true) (h : step1 C X E pc (.goto_w t) L st σ k = some (res, σf)) : Go p l e R s m args below meth c D mi z0 y0 res σf pc L st σ := by
  have hx := hF.1
  have hb := hF.2.1
  simp only [okI, nxIs, Bool.and_eq_true, decide_eq_true_eq] at hok
  simp only [step1] at h
  intro H locs cells slots ls r1 r2 r3 r4 r5
  rw [hok] at h
  exact hE _ hpc _ _ _ h H locs cells slots ls r1 r2 r3 r4 r5

theorem sa_jsr (hW : Wld l D) (hF : Frm p R s m meth c D mi d) (hk : ∀ q, nx = some q → ∀ L st σ2, k L st σ2 = some (res, σf) → Go p l e R s m args below meth c D mi z0 y0 res σf q L st σ2) (hE : ∀ t, t < 100000 → ∀ L st σ2, E t L st σ2 = some (res, σf) → Go p l e R s m args below meth c D mi z0 y0 res σf t L st σ2) {t : Int} (hok : okI mi pc nx pos (.jsr t) = true) (h : step1 C X E pc (.jsr t) L st σ k = some (res, σf)) : Go p l e R s m args below meth c D mi z0 y0 res σf pc L st σ := by
  have hx := hF.1
  have hb := hF.2.1
  simp only [okI, nxIs, Bool.and_eq_true, decide_eq_true_eq] at hok
  simp only [step1] at h
  intro H locs cells slots ls r1 r2 r3 r4 r5
  exact hk _ hok _ _ _ h H locs cells slots ls r1 (lR_kil r2) r3 r4 r5

theorem sa_ret (hW : Wld l D) (hF : Frm p R s m meth c D mi d) (hk : ∀ q, nx = some q → ∀ L st σ2, k L st σ2 = some (res, σf) → Go p l e R s m args below meth c D mi z0 y0 res σf q L st σ2) (hE : ∀ t, t < 100000 → ∀ L st σ2, E t L st σ2 = some (res, σf) → Go p l e R s m args below meth c D mi z0 y0 res σf t L st σ2) {t : Nat} (hok : okI mi pc nx pos (.ret t) = true) (h : step1 C X E pc (.ret t) L st σ k = some (res, σf)) : Go p l e R s m args below meth c D mi z0 y0 res σf pc L st σ := by
  have hx := hF.1
  have hb := hF.2.1
  simp only [okI, nxIs, Bool.and_eq_true, decide_eq_true_eq] at hok
  simp only [step1] at h
  intro H locs cells slots ls r1 r2 r3 r4 r5
  cases h

theorem sa_if_icmp (hW : Wld l D) (hF : Frm p R s m meth c D mi d) (hk : ∀ q, nx = some q → ∀ L st σ2, k L st σ2 = some (res, σf) → Go p l e R s m args below meth c D mi z0 y0 res σf q L st σ2) (hE : ∀ t, t < 100000 → ∀ L st σ2, E t L st σ2 = some (res, σf) → Go p l e R s m args below meth c D mi z0 y0 res σf t L st σ2) {cd : ClassFile.Cond} {t : Int} (hok : okI mi pc nx pos (.if_icmp cd t) = true) (h : step1 C X E pc (.if_icmp cd t) L st σ k = some (res, σf)) : Go p l e R s m args below meth c D mi z0 y0 res σf pc L st σ := by
  have hx := hF.1
  have hb := hF.2.1
  simp only [okI, nxIs, Bool.and_eq_true, decide_eq_true_eq] at hok
  simp only [step1] at h
  intro H locs cells slots ls r1 r2 r3 r4 r5
  split at hok
  · rename_i c2 o2 hd
    simp only [Bool.and_eq_true, decide_eq_true_eq] at hok
    obtain ⟨⟨⟨hcc, ht⟩, hl⟩, hn⟩ := hok
    subst hcc
    split at h
    · cases c2
      · exact lv_icmp_eq hx hb hd ht (fun q => hE _ hl _ _ _ (by rw [show cnd .eq _ _ _ _ = _ from if_pos q] at h; exact h) H locs cells slots ls r1 r2 r3 r4 r5) (fun q => hk _ hn _ _ _ (by rw [show cnd .eq _ _ _ _ = _ from if_neg q] at h; exact h) H locs cells slots ls r1 r2 r3 r4 r5)
      · exact lv_icmp_ne hx hb hd ht (fun q => hE _ hl _ _ _ (by rw [show cnd .ne _ _ _ _ = _ from if_neg q] at h; exact h) H locs cells slots ls r1 r2 r3 r4 r5) (fun q => hk _ hn _ _ _ (by rw [show cnd .ne _ _ _ _ = _ from if_pos q] at h; exact h) H locs cells slots ls r1 r2 r3 r4 r5)
      · exact lv_icmp_lt hx hb hd ht (fun q => hE _ hl _ _ _ (by rw [show cnd .lt _ _ _ _ = _ from if_pos q] at h; exact h) H locs cells slots ls r1 r2 r3 r4 r5) (fun q => hk _ hn _ _ _ (by rw [show cnd .lt _ _ _ _ = _ from if_neg q] at h; exact h) H locs cells slots ls r1 r2 r3 r4 r5)
      · exact lv_icmp_ge hx hb hd ht (fun q => hE _ hl _ _ _ (by rw [show cnd .ge _ _ _ _ = _ from if_neg (Int32.not_lt.mpr q)] at h; exact h) H locs cells slots ls r1 r2 r3 r4 r5) (fun q => hk _ hn _ _ _ (by rw [show cnd .ge _ _ _ _ = _ from if_pos (Int32.not_le.mp q)] at h; exact h) H locs cells slots ls r1 r2 r3 r4 r5)
      · exact lv_icmp_gt hx hb hd ht (fun q => hE _ hl _ _ _ (by rw [show cnd .gt _ _ _ _ = _ from if_pos q] at h; exact h) H locs cells slots ls r1 r2 r3 r4 r5) (fun q => hk _ hn _ _ _ (by rw [show cnd .gt _ _ _ _ = _ from if_neg q] at h; exact h) H locs cells slots ls r1 r2 r3 r4 r5)
      · exact lv_icmp_le hx hb hd ht (fun q => hE _ hl _ _ _ (by rw [show cnd .le _ _ _ _ = _ from if_neg (Int32.not_lt.mpr q)] at h; exact h) H locs cells slots ls r1 r2 r3 r4 r5) (fun q => hk _ hn _ _ _ (by rw [show cnd .le _ _ _ _ = _ from if_pos (Int32.not_le.mp q)] at h; exact h) H locs cells slots ls r1 r2 r3 r4 r5)
    · cases h
  · cases hok

theorem sa_ifCond (hW : Wld l D) (hF : Frm p R s m meth c D mi d) (hk : ∀ q, nx = some q → ∀ L st σ2, k L st σ2 = some (res, σf) → Go p l e R s m args below meth c D mi z0 y0 res σf q L st σ2) (hE : ∀ t, t < 100000 → ∀ L st σ2, E t L st σ2 = some (res, σf) → Go p l e R s m args below meth c D mi z0 y0 res σf t L st σ2) {cd : ClassFile.Cond} {t : Int} (hok : okI mi pc nx pos (.ifCond cd t) = true) (h : step1 C X E pc (.ifCond cd t) L st σ k = some (res, σf)) : Go p l e R s m args below meth c D mi z0 y0 res σf pc L st σ := by
  have hx := hF.1
  have hb := hF.2.1
  simp only [okI, nxIs, Bool.and_eq_true, decide_eq_true_eq] at hok
  simp only [step1] at h
  intro H locs cells slots ls r1 r2 r3 r4 r5
  split at hok
  · rename_i c2 o2 hd
    simp only [Bool.and_eq_true, decide_eq_true_eq] at hok
    obtain ⟨⟨⟨hcc, ht⟩, hl⟩, hn⟩ := hok
    subst hcc
    split at h
    · cases c2
      · exact lv_if_eq hx hb hd ht (fun q => hE _ hl _ _ _ (by rw [show cnd .eq _ _ _ _ = _ from if_pos q] at h; exact h) H locs cells slots ls r1 r2 r3 r4 r5) (fun q => hk _ hn _ _ _ (by rw [show cnd .eq _ _ _ _ = _ from if_neg q] at h; exact h) H locs cells slots ls r1 r2 r3 r4 r5)
      · exact lv_if_ne hx hb hd ht (fun q => hE _ hl _ _ _ (by rw [show cnd .ne _ _ _ _ = _ from if_neg q] at h; exact h) H locs cells slots ls r1 r2 r3 r4 r5) (fun q => hk _ hn _ _ _ (by rw [show cnd .ne _ _ _ _ = _ from if_pos q] at h; exact h) H locs cells slots ls r1 r2 r3 r4 r5)
      · exact lv_if_lt hx hb hd ht (fun q => hE _ hl _ _ _ (by rw [show cnd .lt _ _ _ _ = _ from if_pos q] at h; exact h) H locs cells slots ls r1 r2 r3 r4 r5) (fun q => hk _ hn _ _ _ (by rw [show cnd .lt _ _ _ _ = _ from if_neg q] at h; exact h) H locs cells slots ls r1 r2 r3 r4 r5)
      · exact lv_if_ge hx hb hd ht (fun q => hE _ hl _ _ _ (by rw [show cnd .ge _ _ _ _ = _ from if_neg (Int32.not_lt.mpr q)] at h; exact h) H locs cells slots ls r1 r2 r3 r4 r5) (fun q => hk _ hn _ _ _ (by rw [show cnd .ge _ _ _ _ = _ from if_pos (Int32.not_le.mp q)] at h; exact h) H locs cells slots ls r1 r2 r3 r4 r5)
      · exact lv_if_gt hx hb hd ht (fun q => hE _ hl _ _ _ (by rw [show cnd .gt _ _ _ _ = _ from if_pos q] at h; exact h) H locs cells slots ls r1 r2 r3 r4 r5) (fun q => hk _ hn _ _ _ (by rw [show cnd .gt _ _ _ _ = _ from if_neg q] at h; exact h) H locs cells slots ls r1 r2 r3 r4 r5)
      · exact lv_if_le hx hb hd ht (fun q => hE _ hl _ _ _ (by rw [show cnd .le _ _ _ _ = _ from if_neg (Int32.not_lt.mpr q)] at h; exact h) H locs cells slots ls r1 r2 r3 r4 r5) (fun q => hk _ hn _ _ _ (by rw [show cnd .le _ _ _ _ = _ from if_pos (Int32.not_le.mp q)] at h; exact h) H locs cells slots ls r1 r2 r3 r4 r5)
    · cases h
  · cases hok

theorem sa_if_acmp (hW : Wld l D) (hF : Frm p R s m meth c D mi d) (hk : ∀ q, nx = some q → ∀ L st σ2, k L st σ2 = some (res, σf) → Go p l e R s m args below meth c D mi z0 y0 res σf q L st σ2) (hE : ∀ t, t < 100000 → ∀ L st σ2, E t L st σ2 = some (res, σf) → Go p l e R s m args below meth c D mi z0 y0 res σf t L st σ2) {cd : ACond} {t : Int} (hok : okI mi pc nx pos (.if_acmp cd t) = true) (h : step1 C X E pc (.if_acmp cd t) L st σ k = some (res, σf)) : Go p l e R s m args below meth c D mi z0 y0 res σf pc L st σ := by
  have hx := hF.1
  have hb := hF.2.1
  simp only [okI, nxIs, Bool.and_eq_true, decide_eq_true_eq] at hok
  simp only [step1] at h
  intro H locs cells slots ls r1 r2 r3 r4 r5
  split at hok
  · rename_i c2 o2 hd
    simp only [Bool.and_eq_true, decide_eq_true_eq] at hok
    obtain ⟨⟨⟨hcc, ht⟩, hl⟩, hn⟩ := hok
    subst hcc
    split at h
    · rename_i y x st'
      split at h
      · rename_i hxy
        have ex : tr D (.ref x) = va_rf (some (D.2.2.1 x)) := tr_at (fun q => absurd hxy.1 (by rw [q]; decide))
        have ey : tr D (.ref y) = va_rf (some (D.2.2.1 y)) := tr_at (fun q => absurd hxy.2 (by rw [q]; decide))
        have hi : some (D.2.2.1 x) = some (D.2.2.1 y) → x = y := fun q => hW.2.2.2.2.2.2.1 x y hxy.1 hxy.2 (Option.some.inj q)
        rw [List.map_cons, List.map_cons, ex, ey]
        cases c2
        · exact lv_acmp_eq hx hb hd ht (fun q => hE _ hl _ _ _ (by dsimp only at h; rw [if_pos (hi q)] at h; exact h) H locs cells slots ls r1 r2 r3 r4 r5) (fun q => hk _ hn _ _ _ (by dsimp only at h; rw [if_neg (fun z => q (by rw [z]))] at h; exact h) H locs cells slots ls r1 r2 r3 r4 r5)
        · exact lv_acmp_ne hx hb hd ht (fun q => hE _ hl _ _ _ (by dsimp only at h; rw [if_neg (fun z => q (by rw [z]))] at h; exact h) H locs cells slots ls r1 r2 r3 r4 r5) (fun q => hk _ hn _ _ _ (by dsimp only at h; rw [if_pos (hi q)] at h; exact h) H locs cells slots ls r1 r2 r3 r4 r5)
      · cases h
    · cases h
  · cases hok

theorem sa_ifnull (hW : Wld l D) (hF : Frm p R s m meth c D mi d) (hk : ∀ q, nx = some q → ∀ L st σ2, k L st σ2 = some (res, σf) → Go p l e R s m args below meth c D mi z0 y0 res σf q L st σ2) (hE : ∀ t, t < 100000 → ∀ L st σ2, E t L st σ2 = some (res, σf) → Go p l e R s m args below meth c D mi z0 y0 res σf t L st σ2) {t : Int} (hok : okI mi pc nx pos (.ifnull t) = true) (h : step1 C X E pc (.ifnull t) L st σ k = some (res, σf)) : Go p l e R s m args below meth c D mi z0 y0 res σf pc L st σ := by
  have hx := hF.1
  have hb := hF.2.1
  simp only [okI, nxIs, Bool.and_eq_true, decide_eq_true_eq] at hok
  simp only [step1] at h
  intro H locs cells slots ls r1 r2 r3 r4 r5
  split at hok
  · rename_i hd
    simp only [Bool.and_eq_true, decide_eq_true_eq] at hok
    obtain ⟨⟨ht, hl⟩, hn⟩ := hok
    split at h
    · exact lv_ifnullN hx hb hd ht (hE _ hl _ _ _ h H locs cells slots ls r1 r2 r3 r4 r5)
    · split at h
      · cases h
      · rename_i ha
        rw [List.map_cons, tr_at ha]
        exact lv_ifnull hx hb hd (hk _ hn _ _ _ h H locs cells slots ls r1 r2 r3 r4 r5)
    · cases h
  · cases hok

theorem sa_ifnonnull (hW : Wld l D) (hF : Frm p R s m meth c D mi d) (hk : ∀ q, nx = some q → ∀ L st σ2, k L st σ2 = some (res, σf) → Go p l e R s m args below meth c D mi z0 y0 res σf q L st σ2) (hE : ∀ t, t < 100000 → ∀ L st σ2, E t L st σ2 = some (res, σf) → Go p l e R s m args below meth c D mi z0 y0 res σf t L st σ2) {t : Int} (hok : okI mi pc nx pos (.ifnonnull t) = true) (h : step1 C X E pc (.ifnonnull t) L st σ k = some (res, σf)) : Go p l e R s m args below meth c D mi z0 y0 res σf pc L st σ := by
  have hx := hF.1
  have hb := hF.2.1
  simp only [okI, nxIs, Bool.and_eq_true, decide_eq_true_eq] at hok
  simp only [step1] at h
  intro H locs cells slots ls r1 r2 r3 r4 r5
  split at hok
  · rename_i hd
    simp only [Bool.and_eq_true, decide_eq_true_eq] at hok
    obtain ⟨⟨ht, hl⟩, hn⟩ := hok
    split at h
    · exact lv_ifnonnullN hx hb hd (hk _ hn _ _ _ h H locs cells slots ls r1 r2 r3 r4 r5)
    · split at h
      · cases h
      · rename_i ha
        rw [List.map_cons, tr_at ha]
        exact lv_ifnonnull hx hb hd ht (hE _ hl _ _ _ h H locs cells slots ls r1 r2 r3 r4 r5)
    · cases h
  · cases hok

end SA
end
section
section SB
variable {p : Program} {l : Launch} {e : Env} {R : Room} {s : State} {m : MethodId} {args : Array Value} {below : List Frame} {meth : Method} {c : Code} {D : SD} {mi d z0 y0 : Nat} {res : Option Value ⊕ Nat} {σf : SH}
variable {C : Nat → List Value → SH → SR} {X : Nat → Nat → Option Int32} {E : Nat → SL → List Value → SH → SR} {pc pos : Nat} {nx : Option Nat} {L : SL} {st : List Value} {σ : SH} {k : SL → List Value → SH → SR}
theorem ff_at {c k : Nat} (hs : D.1.WarmedH s.vm) (h : FF D.1 D c k) : FF s D c k := by
  obtain ⟨cf, kf, fi, fd, h1, h2⟩ := h
  obtain ⟨k', hi', -⟩ := State.fieldFound?_setVm hs.alike h1
  exact ⟨cf, k', fi, fd, hi', h2⟩
theorem aRef_some {v : Value} {k : Nat → SR} {r : (Option Value ⊕ Nat) × SH} (h : aRef v k = some r) : ∃ a, v = .ref a ∧ k a = some r := by
  cases v <;> first | (exact ⟨_, rfl, h⟩) | cases h
theorem rd2_some {v : Value} {n : SR} {k : Nat → SR} {r : (Option Value ⊕ Nat) × SH} (h : rd2 v n k = some r) : (v = .null ∧ n = some r) ∨ ∃ a, v = .ref a ∧ k a = some r := by
  cases v <;> first | (exact Or.inl ⟨rfl, h⟩) | (exact Or.inr ⟨_, rfl, h⟩) | cases h
theorem ite_some {q : Prop} [Decidable q] {a : SR} {r : (Option Value ⊕ Nat) × SH} (h : (if q then a else none) = some r) : q ∧ a = some r := by
  split at h
  · exact ⟨by assumption, h⟩
  · cases h
/-- one getfield, whatever the field's kind -/
theorem sb_get {x a n f : Nat} {v : Value} {rest : List Value} {H : Heap} {locs : List Loc} {cells slots : Nat} {ls : Array Slot} {Q : State → Prop} (hW : Wld l D) (hF : Frm p R s m meth c D mi d) (hR : Rep D σ H) (hd : decode (bsOf mi) pc = .ok (.getfield x, 3)) (hn : n < 14) (hf : f < nf n) (hw : wAt pos (.fieldLink (yOf mi).cls x (fT n f).1 (fT n f).2.1 (fT n f).2.2.1) = true)
    (ht : sT σ a = 100 + n) (hv : fv D σ a n f = v)
    (kk : W p l e R s m args below meth c H locs cells slots Q (F0 m (pc + 3) ls (v :: rest))) : W p l e R s m args below meth c H locs cells slots Q (F0 m pc ls (tr D (.ref a) :: rest)) := by
  have h39 : a ≠ 39 := rep_39 hR (by omega)
  rw [tr_at h39]
  obtain ⟨cell, c1, c2, c3, c4, c5, c6⟩ := (hR.2.2.2.2.2.2 a).2.2.2.2 n ht hn
  obtain ⟨cf, kf, fi, fd, i1, i2, i3⟩ := ff_at hF.2.2.2.2.2.2.2.2.1 ((hW.2.2.2.2.2.1 n hn).2 f hf)
  subst hv
  exact W.getf hF.1 hF.2.1 hF.2.2.2.1 (wd_at hW hF.2.2.2.2.2.2.2.2.1 hw) i1 i2 c1 c4 (by rw [i3]; exact c6 f hf) rfl rfl hd kk
theorem sb_getfield (hW : Wld l D) (hF : Frm p R s m meth c D mi d) (hk : ∀ q, nx = some q → ∀ L st σ2, k L st σ2 = some (res, σf) → Go p l e R s m args below meth c D mi z0 y0 res σf q L st σ2) {n : Nat} (hok : okI mi pc nx pos (.getfield n) = true) (h : step1 C X E pc (.getfield n) L st σ k = some (res, σf)) : Go p l e R s m args below meth c D mi z0 y0 res σf pc L st σ := by
  simp only [okI] at hok
  split at hok
  · rename_i x hd
    simp only [nxIs, Bool.and_eq_true, decide_eq_true_eq] at hok
    obtain ⟨⟨⟨⟨hn, h14⟩, hf⟩, hkd⟩, hw⟩ := hok
    simp only [step1] at h
    split at h
    · intro H locs cells slots ls r1 r2 r3 r4 r5
      split at h
      · rename_i h0
        obtain ⟨a, rfl, h⟩ := aRef_some h
        obtain ⟨ht, h⟩ := ite_some h
        rw [if_pos h0] at hkd
        exact sb_get hW hF r1 hd h14 hf hw ht (by unfold fv; rw [if_neg (by simpa using hkd)]; rfl) (hk _ hn _ _ _ h H locs cells slots ls r1 r2 r3 r4 r5)
      · rename_i h0
        obtain ⟨a, rfl, h⟩ := aRef_some h
        obtain ⟨ht, h⟩ := ite_some h
        obtain ⟨b, hv, h⟩ := aRef_some h
        rw [if_neg (by omega)] at hkd
        exact sb_get hW hF r1 hd h14 hf hw ht (by unfold fv; rw [if_pos hkd, hv]) (hk _ hn _ _ _ h H locs cells slots ls r1 r2 r3 r4 r5)
      · rename_i h0 h1
        obtain ⟨a, rfl, h⟩ := aRef_some h
        obtain ⟨ht, h⟩ := ite_some h
        rw [if_neg h0] at hkd
        rcases rd2_some h with ⟨hv, h⟩ | ⟨b, hv, h⟩
        · exact sb_get hW hF r1 hd h14 hf hw ht (by unfold fv; rw [if_pos hkd, hv]) (hk _ hn _ _ _ h H locs cells slots ls r1 r2 r3 r4 r5)
        · exact sb_get hW hF r1 hd h14 hf hw ht (by unfold fv; rw [if_pos hkd, hv]) (hk _ hn _ _ _ h H locs cells slots ls r1 r2 r3 r4 r5)
    · cases h
  · cases hok
theorem bin_of {i : Int32} {n : Nat} (h : bIn i n = true) : ¬ (i < 0 ∨ n ≤ i.toNatClampNeg) := by
  simpa [bIn, not_or] using h
theorem sb_alen {t : Nat} {H : Heap} {a : Nat} (hR : Rep D σ H) (ht : (1 ≤ sT σ a ∧ sT σ a ≤ 6) ∨ (10 ≤ sT σ a ∧ sT σ a < 100)) : ∃ (cell : Cell) (ty : FieldType), H[D.2.2.1 a]? = some cell ∧ D.1.isArrayOf cell ty ∧ cell.slots.size = sN σ a := by
  have ho := hR.2.2.2.2.2.2 a
  have hrow : ∀ c, okRow D σ H a c → ∃ (cell : Cell) (ty : FieldType), H[D.2.2.1 a]? = some cell ∧ D.1.isArrayOf cell ty ∧ cell.slots.size = sN σ a := fun c h => by
    obtain ⟨cl, kA, comp, q1, q2, q3, q4, q5, q6, q7, q8⟩ := h
    exact ⟨cl, _, q1, ⟨q2, kA, q4, comp, q5⟩, q7⟩
  rcases ht with ⟨h1, h6⟩ | ⟨h10, h100⟩
  · have : sT σ a = 1 ∨ sT σ a = 2 ∨ sT σ a = 3 ∨ sT σ a = 4 ∨ sT σ a = 5 ∨ sT σ a = 6 := by omega
    rcases this with q | q | q | q | q | q
    · obtain ⟨cell, q1, q2, q3, q4, q5⟩ := ho.1 (Or.inl q); exact ⟨cell, _, q1, q2, q4⟩
    · obtain ⟨cell, q1, q2, q3, q4, q5⟩ := ho.2.1 (Or.inl q); exact ⟨cell, _, q1, q2, q4⟩
    · obtain ⟨cell, q1, q2, q3, q4, q5⟩ := ho.2.2.1 q; exact ⟨cell, _, q1, q2, q4⟩
    · obtain ⟨cell, q1, q2, q3, q4, q5⟩ := ho.1 (Or.inr q); exact ⟨cell, _, q1, q2, q4⟩
    · obtain ⟨cell, q1, q2, q3, q4, q5⟩ := ho.2.1 (Or.inr q); exact ⟨cell, _, q1, q2, q4⟩
    · exact hrow 9 (ho.2.2.2.1 9 (Or.inr ⟨q, rfl⟩))
  · exact hrow (sT σ a - 10) (ho.2.2.2.1 (sT σ a - 10) (Or.inl ⟨by omega, by omega⟩))
theorem sb_arraylength (hW : Wld l D) (hF : Frm p R s m meth c D mi d) (hk : ∀ q, nx = some q → ∀ L st σ2, k L st σ2 = some (res, σf) → Go p l e R s m args below meth c D mi z0 y0 res σf q L st σ2) (hok : okI mi pc nx pos .arraylength = true) (h : step1 C X E pc .arraylength L st σ k = some (res, σf)) : Go p l e R s m args below meth c D mi z0 y0 res σf pc L st σ := by
  simp only [okI, nxIs, Bool.and_eq_true, decide_eq_true_eq] at hok
  simp only [step1] at h
  split at h
  · intro H locs cells slots ls r1 r2 r3 r4 r5
    obtain ⟨a, rfl, h⟩ := aRef_some h
    obtain ⟨ht, h⟩ := ite_some h
    obtain ⟨cell, ty, q1, q2, q3⟩ := sb_alen (t := 0) r1 ht
    rw [List.map_cons, tr_at (rep_39 r1 (by omega))]
    exact W.alen hF.1 hF.2.1 q1 (State.isArrayOf_alike hF.2.2.2.2.2.2.2.2.1.alike q2) (n := Int32.ofNat (sN σ a)) (by rw [q3]) rfl rfl hok.1 (hk _ hok.2 _ _ _ h H locs cells slots ls r1 r2 r3 r4 r5)
  · cases h
end SB
end
section
section SB2
variable {p : Program} {l : Launch} {e : Env} {R : Room} {s : State} {m : MethodId} {args : Array Value} {below : List Frame} {meth : Method} {c : Code} {D : SD} {mi d z0 y0 : Nat} {res : Option Value ⊕ Nat} {σf : SH}
variable {C : Nat → List Value → SH → SR} {X : Nat → Nat → Option Int32} {E : Nat → SL → List Value → SH → SR} {pc pos : Nat} {nx : Option Nat} {L : SL} {st : List Value} {σ : SH} {k : SL → List Value → SH → SR}

theorem okC_int {H : Heap} {a : Nat} (ht : sT σ a = 1) (h : okInt D σ H a) : okC D σ H a := ⟨fun _ => h, fun q => by omega, fun q => by omega, fun c q => by omega, fun c q => by omega⟩
theorem okC_byt {H : Heap} {a : Nat} (ht : sT σ a = 2) (h : okByt D σ H a) : okC D σ H a := ⟨fun q => by omega, fun _ => h, fun q => by omega, fun c q => by omega, fun c q => by omega⟩
theorem okC_lng {H : Heap} {a : Nat} (ht : sT σ a = 3) (h : okLng D σ H a) : okC D σ H a := ⟨fun q => by omega, fun q => by omega, fun _ => h, fun c q => by omega, fun c q => by omega⟩
theorem okC_row {H : Heap} {a n : Nat} (ht : sT σ a = 10 + n) (hn : n < 90) (h : okRow D σ H a n) : okC D σ H a := by
  refine ⟨fun q => by omega, fun q => by omega, fun q => by omega, fun c q => ?_, fun c q => by omega⟩
  have : c = n := by omega
  subst this
  exact h
theorem okC_obj {H : Heap} {a n : Nat} (ht : sT σ a = 100 + n) (h : okObj D σ H a n) : okC D σ H a := by
  refine ⟨fun q => by omega, fun q => by omega, fun q => by omega, fun c q => by omega, fun c q _ => ?_⟩
  have : c = n := by omega
  subst this
  exact h
theorem set_get {cell : Cell} {i j : Nat} {v w : Value} (hi : i < cell.slots.size) (h : j ≠ i → cell.slots[j]? = some w) (h2 : j = i → v = w) : (cell.setSlot i v).slots[j]? = some w := by
  show (cell.slots.setIfInBounds i v)[j]? = some w
  by_cases e : j = i
  · subst e
    rw [Array.getElem?_setIfInBounds_self_of_lt hi, h2 rfl]
  · rw [Array.getElem?_setIfInBounds_ne (fun q => e q.symm)]; exact h e
theorem set_size {cell : Cell} {i : Nat} {v : Value} : (cell.setSlot i v).slots.size = cell.slots.size := by
  show (cell.slots.setIfInBounds i v).size = _
  simp
theorem locs_add {locs : List Loc} {a i : Nat} (hW : Wld l D) (ha : 200 ≤ a) (h : ∀ z ∈ locs, D.1.heap.size ≤ z.base) : ∀ z ∈ locs ++ [⟨D.2.2.1 a, i⟩], D.1.heap.size ≤ z.base := by
  intro z hz
  rcases List.mem_append.mp hz with q | q
  · exact h z q
  · rw [List.mem_singleton.mp q]
    show D.1.heap.size ≤ D.2.2.1 a
    rw [hW.2.2.1 a ha]
    exact Nat.le_add_right _ _

theorem sb_iaload (hW : Wld l D) (hF : Frm p R s m meth c D mi d) (hk : ∀ q, nx = some q → ∀ L st σ2, k L st σ2 = some (res, σf) → Go p l e R s m args below meth c D mi z0 y0 res σf q L st σ2) (hok : okI mi pc nx pos (.iaload) = true) (h : step1 C X E pc (.iaload) L st σ k = some (res, σf)) : Go p l e R s m args below meth c D mi z0 y0 res σf pc L st σ := by
  have hx := hF.1
  have hb := hF.2.1
  have hal := hF.2.2.2.2.2.2.2.2.1.alike
  simp only [okI, nxIs, Bool.and_eq_true, decide_eq_true_eq] at hok
  simp only [step1] at h
  intro H locs cells slots ls r1 r2 r3 r4 r5
  split at h
  · rename_i i v st'
    obtain ⟨a, rfl, h⟩ := aRef_some h
    obtain ⟨⟨ht, hin⟩, h⟩ := ite_some h
    have hin := bin_of hin
    obtain ⟨cell, q1, q2, q3, q4, q5⟩ := (r1.2.2.2.2.2.2 a).1 (Or.inl ht)
    rw [List.map_cons, List.map_cons, tr_at (rep_39 r1 (by omega))]
    exact W.iald hx hb q1 (State.isArrayOf_alike hal q2) q3 (by rw [q4]; exact hin) (q5 _ (by omega)) rfl rfl hok.1 (hk _ hok.2 _ _ _ h H locs cells slots ls r1 r2 r3 r4 r5)
  · cases h

theorem sb_caload (hW : Wld l D) (hF : Frm p R s m meth c D mi d) (hk : ∀ q, nx = some q → ∀ L st σ2, k L st σ2 = some (res, σf) → Go p l e R s m args below meth c D mi z0 y0 res σf q L st σ2) (hok : okI mi pc nx pos (.caload) = true) (h : step1 C X E pc (.caload) L st σ k = some (res, σf)) : Go p l e R s m args below meth c D mi z0 y0 res σf pc L st σ := by
  have hx := hF.1
  have hb := hF.2.1
  have hal := hF.2.2.2.2.2.2.2.2.1.alike
  simp only [okI, nxIs, Bool.and_eq_true, decide_eq_true_eq] at hok
  simp only [step1] at h
  intro H locs cells slots ls r1 r2 r3 r4 r5
  split at h
  · rename_i i v st'
    obtain ⟨a, rfl, h⟩ := aRef_some h
    obtain ⟨⟨ht, hin⟩, h⟩ := ite_some h
    have hin := bin_of hin
    obtain ⟨cell, q1, q2, q3, q4, q5⟩ := (r1.2.2.2.2.2.2 a).1 (Or.inr ht)
    rw [List.map_cons, List.map_cons, tr_at (rep_39 r1 (by omega))]
    exact W.iald hx hb q1 (State.isArrayOf_alike hal q2) q3 (by rw [q4]; exact hin) (q5 _ (by omega)) rfl rfl hok.1 (hk _ hok.2 _ _ _ h H locs cells slots ls r1 r2 r3 r4 r5)
  · cases h

theorem sb_baload (hW : Wld l D) (hF : Frm p R s m meth c D mi d) (hk : ∀ q, nx = some q → ∀ L st σ2, k L st σ2 = some (res, σf) → Go p l e R s m args below meth c D mi z0 y0 res σf q L st σ2) (hok : okI mi pc nx pos (.baload) = true) (h : step1 C X E pc (.baload) L st σ k = some (res, σf)) : Go p l e R s m args below meth c D mi z0 y0 res σf pc L st σ := by
  have hx := hF.1
  have hb := hF.2.1
  have hal := hF.2.2.2.2.2.2.2.2.1.alike
  simp only [okI, nxIs, Bool.and_eq_true, decide_eq_true_eq] at hok
  simp only [step1] at h
  intro H locs cells slots ls r1 r2 r3 r4 r5
  split at h
  · rename_i i v st'
    obtain ⟨a, rfl, h⟩ := aRef_some h
    obtain ⟨⟨ht, hin⟩, h⟩ := ite_some h
    have hin := bin_of hin
    obtain ⟨cell, q1, q2, q3, q4, q5⟩ := (r1.2.2.2.2.2.2 a).2.1 (Or.inl ht)
    rw [List.map_cons, List.map_cons, tr_at (rep_39 r1 (by omega))]
    exact W.bald hx hb q1 (State.isArrayOf_alike hal q2) q3 (by rw [q4]; exact hin) (q5 _ (by omega)) rfl rfl hok.1 (hk _ hok.2 _ _ _ h H locs cells slots ls r1 r2 r3 r4 r5)
  · cases h

theorem sb_saload (hW : Wld l D) (hF : Frm p R s m meth c D mi d) (hk : ∀ q, nx = some q → ∀ L st σ2, k L st σ2 = some (res, σf) → Go p l e R s m args below meth c D mi z0 y0 res σf q L st σ2) (hok : okI mi pc nx pos (.saload) = true) (h : step1 C X E pc (.saload) L st σ k = some (res, σf)) : Go p l e R s m args below meth c D mi z0 y0 res σf pc L st σ := by
  have hx := hF.1
  have hb := hF.2.1
  have hal := hF.2.2.2.2.2.2.2.2.1.alike
  simp only [okI, nxIs, Bool.and_eq_true, decide_eq_true_eq] at hok
  simp only [step1] at h
  intro H locs cells slots ls r1 r2 r3 r4 r5
  split at h
  · rename_i i v st'
    obtain ⟨a, rfl, h⟩ := aRef_some h
    obtain ⟨⟨ht, hin⟩, h⟩ := ite_some h
    have hin := bin_of hin
    obtain ⟨cell, q1, q2, q3, q4, q5⟩ := (r1.2.2.2.2.2.2 a).2.1 (Or.inr ht)
    rw [List.map_cons, List.map_cons, tr_at (rep_39 r1 (by omega))]
    exact W.bald hx hb q1 (State.isArrayOf_alike hal q2) q3 (by rw [q4]; exact hin) (q5 _ (by omega)) rfl rfl hok.1 (hk _ hok.2 _ _ _ h H locs cells slots ls r1 r2 r3 r4 r5)
  · cases h

theorem sb_laload (hW : Wld l D) (hF : Frm p R s m meth c D mi d) (hk : ∀ q, nx = some q → ∀ L st σ2, k L st σ2 = some (res, σf) → Go p l e R s m args below meth c D mi z0 y0 res σf q L st σ2) (hok : okI mi pc nx pos (.laload) = true) (h : step1 C X E pc (.laload) L st σ k = some (res, σf)) : Go p l e R s m args below meth c D mi z0 y0 res σf pc L st σ := by
  have hx := hF.1
  have hb := hF.2.1
  have hal := hF.2.2.2.2.2.2.2.2.1.alike
  simp only [okI, nxIs, Bool.and_eq_true, decide_eq_true_eq] at hok
  simp only [step1] at h
  intro H locs cells slots ls r1 r2 r3 r4 r5
  split at h
  · rename_i i v st'
    obtain ⟨a, rfl, h⟩ := aRef_some h
    obtain ⟨⟨ht, hin⟩, h⟩ := ite_some h
    have hin := bin_of hin
    obtain ⟨cell, q1, q2, q3, q4, q5⟩ := (r1.2.2.2.2.2.2 a).2.2.1 ht
    rw [List.map_cons, List.map_cons, tr_at (rep_39 r1 (by omega))]
    exact W.lald hx hb q1 (State.isArrayOf_alike hal q2) q3 (by rw [q4]; exact hin) (q5 _ (by omega)) rfl rfl hok.1 (hk _ hok.2 _ _ _ h H locs cells slots ls r1 r2 r3 r4 r5)
  · cases h

theorem sb_aaload (hW : Wld l D) (hF : Frm p R s m meth c D mi d) (hk : ∀ q, nx = some q → ∀ L st σ2, k L st σ2 = some (res, σf) → Go p l e R s m args below meth c D mi z0 y0 res σf q L st σ2) (hok : okI mi pc nx pos (.aaload) = true) (h : step1 C X E pc (.aaload) L st σ k = some (res, σf)) : Go p l e R s m args below meth c D mi z0 y0 res σf pc L st σ := by
  have hx := hF.1
  have hb := hF.2.1
  have hal := hF.2.2.2.2.2.2.2.2.1.alike
  simp only [okI, nxIs, Bool.and_eq_true, decide_eq_true_eq] at hok
  simp only [step1] at h
  intro H locs cells slots ls r1 r2 r3 r4 r5
  split at h
  · rename_i i v st'
    obtain ⟨a, rfl, h⟩ := aRef_some h
    obtain ⟨⟨⟨ht, ht2⟩, hin⟩, h⟩ := ite_some h
    have hin := bin_of hin
    obtain ⟨b, hv, h⟩ := aRef_some h
    obtain ⟨cell, kA, comp, q1, q2, q3, q4, q5, q6, q7, q8⟩ := (r1.2.2.2.2.2.2 a).2.2.2.1 (sT σ a - 10) (Or.inl ⟨by omega, by omega⟩)
    rw [List.map_cons, List.map_cons, tr_at (rep_39 r1 (by omega))]
    exact W.aald hx hb q1 (State.isArrayOf_alike hal ⟨q2, kA, q4, comp, q5⟩) rfl q3 (by rw [q7]; exact hin) (q8 _ (by omega)) rfl rfl hok.1 (by rw [hv]; exact hk _ hok.2 _ _ _ h H locs cells slots ls r1 r2 r3 r4 r5)
  · cases h

theorem sb_daload (hW : Wld l D) (hF : Frm p R s m meth c D mi d) (hk : ∀ q, nx = some q → ∀ L st σ2, k L st σ2 = some (res, σf) → Go p l e R s m args below meth c D mi z0 y0 res σf q L st σ2) (hok : okI mi pc nx pos (.daload) = true) (h : step1 C X E pc (.daload) L st σ k = some (res, σf)) : Go p l e R s m args below meth c D mi z0 y0 res σf pc L st σ := by
  have hx := hF.1
  have hb := hF.2.1
  have hal := hF.2.2.2.2.2.2.2.2.1.alike
  simp only [okI, nxIs, Bool.and_eq_true, decide_eq_true_eq] at hok
  simp only [step1] at h
  intro H locs cells slots ls r1 r2 r3 r4 r5
  split at h
  · rename_i i v st'
    obtain ⟨a, rfl, h⟩ := aRef_some h
    obtain ⟨⟨ht, hin⟩, h⟩ := ite_some h
    have hin := bin_of hin
    obtain ⟨b, hv, h⟩ := aRef_some h
    obtain ⟨cell, kA, comp, q1, q2, q3, q4, q5, q6, q7, q8⟩ := (r1.2.2.2.2.2.2 a).2.2.2.1 9 (Or.inr ⟨ht, rfl⟩)
    rw [List.map_cons, List.map_cons, tr_at (rep_39 r1 (by omega))]
    exact W.aald hx hb q1 (State.isArrayOf_alike hal ⟨q2, kA, q4, comp, q5⟩) rfl q3 (by rw [q7]; exact hin) (q8 _ (by omega)) rfl rfl hok.1 (by rw [hv]; exact hk _ hok.2 _ _ _ h H locs cells slots ls r1 r2 r3 r4 r5)
  · cases h

theorem sb_iastore (hW : Wld l D) (hF : Frm p R s m meth c D mi d) (hk : ∀ q, nx = some q → ∀ L st σ2, k L st σ2 = some (res, σf) → Go p l e R s m args below meth c D mi z0 y0 res σf q L st σ2) (hok : okI mi pc nx pos (.iastore) = true) (h : step1 C X E pc (.iastore) L st σ k = some (res, σf)) : Go p l e R s m args below meth c D mi z0 y0 res σf pc L st σ := by
  have hx := hF.1
  have hb := hF.2.1
  have hal := hF.2.2.2.2.2.2.2.2.1.alike
  simp only [okI, nxIs, Bool.and_eq_true, decide_eq_true_eq] at hok
  simp only [step1] at h
  intro H locs cells slots ls r1 r2 r3 r4 r5
  split at h
  · rename_i x i v st'
    obtain ⟨a, rfl, h⟩ := aRef_some h
    obtain ⟨⟨ht, hin⟩, h⟩ := ite_some h
    have hin := bin_of hin
    obtain ⟨ha, hz⟩ := rep_at r1 (a := a) (by omega) (by omega) (by omega) (by omega) (by omega) (by omega)
    obtain ⟨cell, q1, q2, q3, q4, q5⟩ := (r1.2.2.2.2.2.2 a).1 (Or.inl ht)
    rw [List.map_cons, List.map_cons, List.map_cons, tr_at (rep_39 r1 (by omega))]
    refine W.iast hx hb q1 (State.isArrayOf_alike hal q2) q3 (by rw [q4]; exact hin) rfl rfl hok.1 fun H' e1 e2 e3 => ?_
    have hlt : i.toNatClampNeg < cell.slots.size := by omega
    refine hk _ hok.2 _ _ _ h H' _ cells slots ls (rep_write (a := a) hW r1 ha (fun _ => rfl) (fun _ => rfl) rfl (fun b j hb => if_neg (fun q => hb q.1)) (fun b j hb => rfl) (fun b j hb => rfl) e2 e3 (okC_int ht ⟨_, e1, ⟨q2.1, q2.2⟩, q3, by rw [set_size]; exact q4, fun j hj => ?_⟩)) r2 (locs_add hW ha r3) r4 r5
    refine set_get hlt (fun e => ?_) (fun e => ?_)
    · rw [q5 j hj]
      show some (Value.int (sI σ a j)) = some (Value.int (sI (wI σ a i.toNatClampNeg x) a j))
      rw [show sI (wI σ a i.toNatClampNeg x) a j = sI σ a j from if_neg (fun q => e q.2)]
    · subst e
      show Value.int x = Value.int (sI (wI σ a i.toNatClampNeg x) a i.toNatClampNeg)
      rw [show sI (wI σ a i.toNatClampNeg x) a i.toNatClampNeg = x from if_pos ⟨rfl, rfl⟩]
      
  · cases h

theorem sb_bastore (hW : Wld l D) (hF : Frm p R s m meth c D mi d) (hk : ∀ q, nx = some q → ∀ L st σ2, k L st σ2 = some (res, σf) → Go p l e R s m args below meth c D mi z0 y0 res σf q L st σ2) (hok : okI mi pc nx pos (.bastore) = true) (h : step1 C X E pc (.bastore) L st σ k = some (res, σf)) : Go p l e R s m args below meth c D mi z0 y0 res σf pc L st σ := by
  have hx := hF.1
  have hb := hF.2.1
  have hal := hF.2.2.2.2.2.2.2.2.1.alike
  simp only [okI, nxIs, Bool.and_eq_true, decide_eq_true_eq] at hok
  simp only [step1] at h
  intro H locs cells slots ls r1 r2 r3 r4 r5
  split at h
  · rename_i x i v st'
    obtain ⟨a, rfl, h⟩ := aRef_some h
    obtain ⟨⟨ht, hin⟩, h⟩ := ite_some h
    have hin := bin_of hin
    obtain ⟨ha, hz⟩ := rep_at r1 (a := a) (by omega) (by omega) (by omega) (by omega) (by omega) (by omega)
    obtain ⟨cell, q1, q2, q3, q4, q5⟩ := (r1.2.2.2.2.2.2 a).2.1 (Or.inl ht)
    rw [List.map_cons, List.map_cons, List.map_cons, tr_at (rep_39 r1 (by omega))]
    refine W.bast hx hb q1 (State.isArrayOf_alike hal q2) q3 (by rw [q4]; exact hin) rfl rfl hok.1 fun H' e1 e2 e3 => ?_
    have hlt : i.toNatClampNeg < cell.slots.size := by omega
    refine hk _ hok.2 _ _ _ h H' _ cells slots ls (rep_write (a := a) hW r1 ha (fun _ => rfl) (fun _ => rfl) rfl (fun b j hb => if_neg (fun q => hb q.1)) (fun b j hb => rfl) (fun b j hb => rfl) e2 e3 (okC_byt ht ⟨_, e1, ⟨q2.1, q2.2⟩, q3, by rw [set_size]; exact q4, fun j hj => ?_⟩)) r2 (locs_add hW ha r3) r4 r5
    refine set_get hlt (fun e => ?_) (fun e => ?_)
    · rw [q5 j hj]
      show some (Value.int (sI σ a j)) = some (Value.int (sI (wI σ a i.toNatClampNeg (i2b x)) a j))
      rw [show sI (wI σ a i.toNatClampNeg (i2b x)) a j = sI σ a j from if_neg (fun q => e q.2)]
    · subst e
      show narrow .byte (Value.int x) = Value.int (sI (wI σ a i.toNatClampNeg (i2b x)) a i.toNatClampNeg)
      rw [show sI (wI σ a i.toNatClampNeg (i2b x)) a i.toNatClampNeg = (i2b x) from if_pos ⟨rfl, rfl⟩]
      rfl
  · cases h

theorem sb_lastore (hW : Wld l D) (hF : Frm p R s m meth c D mi d) (hk : ∀ q, nx = some q → ∀ L st σ2, k L st σ2 = some (res, σf) → Go p l e R s m args below meth c D mi z0 y0 res σf q L st σ2) (hok : okI mi pc nx pos (.lastore) = true) (h : step1 C X E pc (.lastore) L st σ k = some (res, σf)) : Go p l e R s m args below meth c D mi z0 y0 res σf pc L st σ := by
  have hx := hF.1
  have hb := hF.2.1
  have hal := hF.2.2.2.2.2.2.2.2.1.alike
  simp only [okI, nxIs, Bool.and_eq_true, decide_eq_true_eq] at hok
  simp only [step1] at h
  intro H locs cells slots ls r1 r2 r3 r4 r5
  split at h
  · rename_i x i v st'
    obtain ⟨a, rfl, h⟩ := aRef_some h
    obtain ⟨⟨ht, hin⟩, h⟩ := ite_some h
    have hin := bin_of hin
    obtain ⟨ha, hz⟩ := rep_at r1 (a := a) (by omega) (by omega) (by omega) (by omega) (by omega) (by omega)
    obtain ⟨cell, q1, q2, q3, q4, q5⟩ := (r1.2.2.2.2.2.2 a).2.2.1 ht
    rw [List.map_cons, List.map_cons, List.map_cons, tr_at (rep_39 r1 (by omega))]
    refine W.last hx hb q1 (State.isArrayOf_alike hal q2) q3 (by rw [q4]; exact hin) rfl rfl hok.1 fun H' e1 e2 e3 => ?_
    have hlt : i.toNatClampNeg < cell.slots.size := by omega
    refine hk _ hok.2 _ _ _ h H' _ cells slots ls (rep_write (a := a) hW r1 ha (fun _ => rfl) (fun _ => rfl) rfl (fun b j hb => rfl) (fun b j hb => rfl) (fun b j hb => if_neg (fun q => hb q.1)) e2 e3 (okC_lng ht ⟨_, e1, ⟨q2.1, q2.2⟩, q3, by rw [set_size]; exact q4, fun j hj => ?_⟩)) r2 (locs_add hW ha r3) r4 r5
    refine set_get hlt (fun e => ?_) (fun e => ?_)
    · rw [q5 j hj]
      show some (Value.long (sJ σ a j)) = some (Value.long (sJ (wJ σ a i.toNatClampNeg x) a j))
      rw [show sJ (wJ σ a i.toNatClampNeg x) a j = sJ σ a j from if_neg (fun q => e q.2)]
    · subst e
      show Value.long x = Value.long (sJ (wJ σ a i.toNatClampNeg x) a i.toNatClampNeg)
      rw [show sJ (wJ σ a i.toNatClampNeg x) a i.toNatClampNeg = x from if_pos ⟨rfl, rfl⟩]
      
  · cases h

theorem sb_aastore (hW : Wld l D) (hF : Frm p R s m meth c D mi d) (hk : ∀ q, nx = some q → ∀ L st σ2, k L st σ2 = some (res, σf) → Go p l e R s m args below meth c D mi z0 y0 res σf q L st σ2) (hok : okI mi pc nx pos (.aastore) = true) (h : step1 C X E pc (.aastore) L st σ k = some (res, σf)) : Go p l e R s m args below meth c D mi z0 y0 res σf pc L st σ := by
  have hx := hF.1
  have hb := hF.2.1
  have hal := hF.2.2.2.2.2.2.2.2.1.alike
  simp only [okI, nxIs, Bool.and_eq_true, decide_eq_true_eq] at hok
  simp only [step1] at h
  intro H locs cells slots ls r1 r2 r3 r4 r5
  split at h
  · rename_i w i v st'
    obtain ⟨a, ev, h2⟩ := aRef_some h
    obtain ⟨b, ew, h3⟩ := aRef_some h2
    obtain ⟨⟨⟨ht, ht2⟩, hbt, hin⟩, h4⟩ := ite_some h3
    clear h h2 h3
    subst ev
    subst ew
    have h := h4
    have hin := bin_of hin
    obtain ⟨ha, hz⟩ := rep_at r1 (a := a) (by omega) (by omega) (by omega) (by omega) (by omega) (by omega)
    obtain ⟨cell, kA, comp, q1, q2, q3, q4, q5, q6, q7, q8⟩ := (r1.2.2.2.2.2.2 a).2.2.2.1 (sT σ a - 10) (Or.inl ⟨by omega, by omega⟩)
    have hc14 : sT σ a - 10 < 14 := by omega
    · obtain ⟨cb, b1, b2, b3, b4, b5, b6⟩ := (r1.2.2.2.2.2.2 b).2.2.2.2 (sT σ a - 10) (by omega) hc14
      obtain ⟨f1, kC, f2, f3⟩ := classAt_moved hal (hW.2.2.2.2.2.1 (sT σ a - 10) hc14).1
      obtain ⟨k', hk', he⟩ := hal.2.2 _ _ q4
      have hcomp : comp = D.2.2.2.2.1 (sT σ a - 10) := Option.some.inj (q6.symm.trans (hW.2.2.2.2.2.1 (sT σ a - 10) hc14).1.1)
      rw [List.map_cons, List.map_cons, List.map_cons, tr_at (rep_39 r1 (a := a) (by omega)), tr_at (rep_39 r1 (a := b) (by omega))]
      refine W.aast hx hb q1 q2 q3 hk' (by rw [he]; exact q5) rfl (hcomp ▸ f2) ⟨fun z => hin (Or.inl z), by rw [q7]; exact Nat.lt_of_not_le (fun z => hin (Or.inr z))⟩ b1 (VmData.ne_statics_of b3) (b2 ▸ f2) (by rw [b2, hcomp]; exact va_assign ⟨f1, kC, f2, f3⟩) rfl rfl hok.1 fun H' e1 e2 e3 => ?_
      have hlt : i.toNatClampNeg < cell.slots.size := by omega
      refine hk _ hok.2 _ _ _ h H' _ cells slots ls (rep_write (a := a) hW r1 ha (fun _ => rfl) (fun _ => rfl) rfl (fun b j hb => rfl) (fun b j hb => if_neg (fun q => hb q.1)) (fun b j hb => rfl) e2 e3 (okC_row (n := sT σ a - 10) (show sT σ a = _ by omega) (by omega) ⟨_, kA, comp, e1, q2, q3, q4, q5, q6, by rw [set_size]; exact q7, fun j hj => ?_⟩)) r2 (locs_add hW ha r3) r4 r5
      refine set_get hlt (fun e => ?_) (fun e => ?_)
      · rw [q8 j hj]
        rw [show sV (wV σ a i.toNatClampNeg (.ref b)) a j = sV σ a j from if_neg (fun q => e q.2)]
      · subst e
        rw [show sV (wV σ a i.toNatClampNeg (.ref b)) a i.toNatClampNeg = .ref b from if_pos ⟨rfl, rfl⟩, tr_at (rep_39 r1 (a := b) (by omega))]
  · cases h

end SB2
end
section
section SD1
variable {p : Program} {l : Launch} {e : Env} {R : Room} {s : State} {m : MethodId} {args : Array Value} {below : List Frame} {meth : Method} {c : Code} {D : SD} {mi d z0 y0 : Nat} {res : Option Value ⊕ Nat} {σf : SH}
variable {C : Nat → List Value → SH → SR} {X : Nat → Nat → Option Int32} {E : Nat → SL → List Value → SH → SR} {pc pos : Nat} {nx : Option Nat} {L : SL} {st : List Value} {σ : SH} {k : SL → List Value → SH → SR}
/-- the words of the tables that hold at every warmed state -/
def LG : List Cond := lw_tbl.filter goodWord
theorem lg_at (hW : Wld l D) (hs : D.1.WarmedH s.vm) : ∀ w ∈ LG, w.before args s = true := fun w hw => by
  obtain ⟨h1, h2⟩ := List.mem_filter.mp hw
  exact word_at hs (good_of_word h2) (hW.2.1 w h1)
def laysB (n : Nat) : Bool := (List.range (nf n)).all fun k => lw_tbl.contains (u_lay (cN n) (fT n) k) && goodWord (u_lay (cN n) (fT n) k)
theorem lays_ok : (List.range 13).all (fun n => n == 9 || laysB n) = true := by decide +kernel
theorem lays_in {n : Nat} (hn : n < 13) (h9 : n ≠ 9) : ∀ w ∈ u_ws (cN n) (fT n) (nf n), w ∈ LG := by
  intro w hw
  have h := List.all_eq_true.mp lays_ok n (List.mem_range.mpr hn)
  rw [Bool.or_eq_true] at h
  rcases h with h | h
  · exact absurd (by simpa using h) h9
  · unfold u_ws at hw
    obtain ⟨k, hk, rfl⟩ := List.mem_map.mp hw
    have h2 := List.all_eq_true.mp h k hk
    rw [Bool.and_eq_true] at h2
    exact List.mem_filter.mpr ⟨List.contains_iff_mem.mp h2.1, h2.2⟩
def tysB (n : Nat) : Bool := (List.range (nf n)).all fun k => decide (parseFieldDescriptor (fT n k).2.2.1 = some (fy n k)) && decide (defaultValue (fy n k) = (if isRf n k = true then Value.null else .int 0)) && (!isRf n k || (match fy n k with
  | .object _ => true
  | .array _ => true
  | _ => false))
theorem tys_ok : (List.range 13).all (fun n => n == 9 || tysB n) = true := by decide +kernel
theorem tys_at {n f : Nat} (hn : n < 13) (h9 : n ≠ 9) (hf : f < nf n) : parseFieldDescriptor (fT n f).2.2.1 = some (fy n f) ∧ defaultValue (fy n f) = (if isRf n f = true then Value.null else .int 0) ∧ (isRf n f = true → (∃ q, fy n f = .object q) ∨ ∃ q, fy n f = .array q) := by
  have h := List.all_eq_true.mp tys_ok n (List.mem_range.mpr hn)
  rw [Bool.or_eq_true] at h
  rcases h with h | h
  · exact absurd (by simpa using h) h9
  · have h2 := List.all_eq_true.mp h f (List.mem_range.mpr hf)
    simp only [Bool.and_eq_true, decide_eq_true_eq, Bool.or_eq_true, Bool.not_eq_true'] at h2
    refine ⟨h2.1.1, h2.1.2, fun hr => ?_⟩
    rcases h2.2 with q | q
    · rw [hr] at q; cases q
    · split at q
      · rename_i z hz; exact Or.inl ⟨_, hz⟩
      · rename_i z hz; exact Or.inr ⟨_, hz⟩
      · cases q
/-- one putfield -/
theorem sb_put {x a n f : Nat} {v : Value} {σ' : SH} {rest : List Value} {H : Heap} {locs : List Loc} {cells slots : Nat} {ls : Array Slot} {Q : State → Prop} (hW : Wld l D) (hF : Frm p R s m meth c D mi d) (hR : Rep D σ H) (hd : decode (bsOf mi) pc = .ok (.putfield x, 3)) (hn : n < 13) (h9 : n ≠ 9) (hf : f < nf n)
    (hfin : (fT n f).2.2.2 = false ∨ ((yOf mi).name = "<init>" ∧ (yOf mi).cls = (fT n f).1)) (hw : wAt pos (.fieldLink (yOf mi).cls x (fT n f).1 (fT n f).2.1 (fT n f).2.2.1) = true)
    (hl3 : ∀ z ∈ locs, D.1.heap.size ≤ z.base) (ht : sT σ a = 100 + n) (hnr : narrow (fy n f) v = v) (hft : fits (fy n f) v = true)
    (e1 : ∀ b, sT σ' b = sT σ b) (e2 : ∀ b, sN σ' b = sN σ b) (e3 : sZ σ' = sZ σ) (e4 : ∀ b j, b ≠ a → sI σ' b j = sI σ b j) (e5 : ∀ b j, b ≠ a → sV σ' b j = sV σ b j) (e6 : ∀ b j, b ≠ a → sJ σ' b j = sJ σ b j)
    (e7 : ∀ j, j ≠ f → fv D σ' a n j = fv D σ a n j) (e8 : fv D σ' a n f = v)
    (kk : ∀ (H' : Heap) (locs' : List Loc), Rep D σ' H' → (∀ z ∈ locs', D.1.heap.size ≤ z.base) → W p l e R s m args below meth c H' locs' cells slots Q (F0 m (pc + 3) ls rest)) : W p l e R s m args below meth c H locs cells slots Q (F0 m pc ls (v :: tr D (.ref a) :: rest)) := by
  have h39 : a ≠ 39 := rep_39 hR (by omega)
  obtain ⟨ha, hz⟩ := rep_at hR (a := a) (by omega) (by omega) (by omega) (by omega) (by omega) (by omega)
  have hs := hF.2.2.2.2.2.2.2.2.1
  rw [tr_at h39]
  obtain ⟨cell, c1, c2, c3, c4, c5, c6⟩ := (hR.2.2.2.2.2.2 a).2.2.2.2 n ht (by omega)
  obtain ⟨cf, kf, fi, fd, i1, i2, i3⟩ := ff_at hs ((hW.2.2.2.2.2.1 n (by omega)).2 f hf)
  obtain ⟨g1, kC, g2, g3⟩ := classAt_moved hs.alike (hW.2.2.2.2.2.1 n (by omega)).1
  have hlt : fd.slot < cell.slots.size := by
    rw [i3]; exact (Array.getElem?_eq_some_iff.mp (c6 f hf)).1
  have hlays := u_lays (lg_at (args := args) hW hs) (lays_in hn h9) hf
  obtain ⟨y1, y2, y3⟩ := tys_at hn h9 hf
  have go : ∀ H' : Heap, H'[D.2.2.1 a]? = some (cell.setSlot fd.slot v) → H'.size = H.size → (∀ q, q ≠ D.2.2.1 a → H'[q]? = H[q]?) → W p l e R s m args below meth c H' (locs ++ [⟨D.2.2.1 a, fd.slot⟩]) cells slots Q (F0 m (pc + 3) ls rest) := fun H' q1 q2 q3 => by
    refine kk H' _ (rep_write (a := a) hW hR ha e1 e2 e3 e4 e5 e6 q2 q3 (okC_obj (n := n) (by rw [e1]; exact ht) ⟨_, q1, c2, c3, c4, c5, fun j hj => ?_⟩)) (locs_add hW ha hl3)
    refine set_get hlt (fun e => ?_) (fun e => ?_)
    · rw [c6 j hj, e7 j (fun q => e (by rw [q, i3]))]
    · have : j = f := Classical.byContradiction fun q => hW.2.2.2.2.2.2.2.2.2.2.2.2.1 n hn h9 j f hj hf q (by rw [e, i3])
      rw [this, e8]
  have hlay := lg_at (args := args) hW hs _ (lays_in hn h9 _ (u_in_lay hf))
  unfold u_lay at hlay
  by_cases hfl : (fT n f).2.2.2 = true
  · rw [if_pos hfl] at hlay
    rcases hfin with q | ⟨q1, q2⟩
    · rw [hfl] at q; cases q
    · have hcf : m.cls = cf := by
        obtain ⟨_, _, c', _, _, _, -, -, hf', -, -, -, hown2, -⟩ := Cond.laysFinal_spec hlay
        have e1 : c' = cf := by have := i1.symm.trans hf'; simp at this; exact this.1.symm
        rw [← q2] at hown2
        rw [← e1]; exact Option.some.inj (hF.2.2.2.1.symm.trans hown2)
      have h6 := u_fits (v := v) g1 g2 g3 hlays i1 y1 hnr hft
      exact W.putFinK hF.1 hF.2.1 hF.2.2.2.1 (wd_at hW hs hw) i1 i2 hcf (by rw [hF.2.2.2.2.2.2.1]; exact q1) (by rw [c2]; exact h6) c1 (c5 ha) hlt rfl rfl hd go
  · rw [if_neg hfl] at hlay
    have h6 := u_store (v := v) g1 g2 g3 hlay i1 y1 hnr hft
    exact W.putK hF.1 hF.2.1 ⟨hF.2.2.2.1, wd_at hW hs hw, ⟨_, _, _, i1⟩, i2⟩ (by rw [c2]; exact h6) c1 (c5 ha) hlt rfl rfl hd go
end SD1
end
section
section SE1
variable {p : Program} {l : Launch} {e : Env} {R : Room} {s : State} {m : MethodId} {args : Array Value} {below : List Frame} {meth : Method} {c : Code} {D : SD} {mi d z0 y0 : Nat} {res : Option Value ⊕ Nat} {σf : SH}
variable {C : Nat → List Value → SH → SR} {X : Nat → Nat → Option Int32} {E : Nat → SL → List Value → SH → SR} {pc pos : Nat} {nx : Option Nat} {L : SL} {st : List Value} {σ : SH} {k : SL → List Value → SH → SR}
theorem fv_wI {a n f j : Nat} {x : Int32} (h : j ≠ f) : fv D (wI σ a f x) a n j = fv D σ a n j := by
  unfold fv
  rw [show sI (wI σ a f x) a j = sI σ a j from if_neg (fun q => h q.2)]
  rfl
theorem fv_wV {a n f j : Nat} {x : Value} (h : j ≠ f) : fv D (wV σ a f x) a n j = fv D σ a n j := by
  unfold fv
  rw [show sV (wV σ a f x) a j = sV σ a j from if_neg (fun q => h q.2)]
  rfl
theorem se_putfield (hW : Wld l D) (hF : Frm p R s m meth c D mi d) (hk : ∀ q, nx = some q → ∀ L st σ2, k L st σ2 = some (res, σf) → Go p l e R s m args below meth c D mi z0 y0 res σf q L st σ2) {n : Nat} (hok : okI mi pc nx pos (.putfield n) = true) (h : step1 C X E pc (.putfield n) L st σ k = some (res, σf)) : Go p l e R s m args below meth c D mi z0 y0 res σf pc L st σ := by
  simp only [okI] at hok
  split at hok
  · rename_i x hd
    simp only [nxIs, Bool.and_eq_true, decide_eq_true_eq] at hok
    obtain ⟨⟨⟨⟨⟨⟨hn, h13⟩, h9⟩, hf⟩, hkd⟩, hfin⟩, hw⟩ := hok
    have hfin' : (fT (n / 1000) (n / 10 % 100)).2.2.2 = false ∨ ((yOf mi).name = "<init>" ∧ (yOf mi).cls = (fT (n / 1000) (n / 10 % 100)).1) := by
      simpa using hfin
    obtain ⟨y1, y2, y3⟩ := tys_at h13 h9 hf
    simp only [step1] at h
    intro H locs cells slots ls r1 r2 r3 r4 r5
    split at h
    · split at h
      · rename_i h0
        obtain ⟨a, rfl, h⟩ := aRef_some h
        obtain ⟨ht, h⟩ := ite_some h
        rw [if_pos h0, decide_eq_true_eq] at hkd
        have hnr : ¬ isRf (n / 1000) (n / 10 % 100) = true := fun q => by
          rcases y3 q with ⟨z, hz⟩ | ⟨z, hz⟩ <;> rw [hkd] at hz <;> cases hz
        exact sb_put (σ' := wI σ a (n / 10 % 100) _) hW hF r1 hd h13 h9 hf hfin' hw r3 ht (by rw [hkd]; rfl) (by rw [hkd]; rfl) (fun _ => rfl) (fun _ => rfl) rfl (fun b j hb => if_neg (fun q => hb q.1)) (fun _ _ _ => rfl) (fun _ _ _ => rfl) (fun j hj => fv_wI hj)
          (by unfold fv; rw [if_neg hnr]; exact congrArg Value.int (if_pos ⟨rfl, rfl⟩)) (fun H' locs' q1 q2 => hk _ hn _ _ _ h H' locs' cells slots ls q1 r2 q2 r4 r5)
      · rename_i h2
        obtain ⟨a, rfl, h⟩ := aRef_some h
        obtain ⟨⟨ht, h01⟩, h⟩ := ite_some h
        rw [if_neg (by omega), if_pos h2, decide_eq_true_eq] at hkd
        have hnr : ¬ isRf (n / 1000) (n / 10 % 100) = true := fun q => by
          rcases y3 q with ⟨z, hz⟩ | ⟨z, hz⟩ <;> rw [hkd] at hz <;> cases hz
        exact sb_put (σ' := wI σ a (n / 10 % 100) _) hW hF r1 hd h13 h9 hf hfin' hw r3 ht (by rw [hkd]; rcases h01 with rfl | rfl <;> rfl) (by rw [hkd]; rcases h01 with rfl | rfl <;> rfl) (fun _ => rfl) (fun _ => rfl) rfl (fun b j hb => if_neg (fun q => hb q.1)) (fun _ _ _ => rfl) (fun _ _ _ => rfl) (fun j hj => fv_wI hj)
          (by unfold fv; rw [if_neg hnr]; exact congrArg Value.int (if_pos ⟨rfl, rfl⟩)) (fun H' locs' q1 q2 => hk _ hn _ _ _ h H' locs' cells slots ls q1 r2 q2 r4 r5)
      · rename_i h1
        obtain ⟨a, rfl, h⟩ := aRef_some h
        obtain ⟨ht, h⟩ := ite_some h
        rw [if_neg (by omega), if_neg (by omega)] at hkd
        have hnar : ∀ v : Value, (v = .null ∨ ∃ q, v = .ref q) → narrow (fy (n / 1000) (n / 10 % 100)) v = v ∧ fits (fy (n / 1000) (n / 10 % 100)) v = true := fun v hv => by
          rcases y3 hkd with ⟨z, hz⟩ | ⟨z, hz⟩ <;> rw [hz] <;> rcases hv with rfl | ⟨q, rfl⟩ <;> exact ⟨rfl, rfl⟩
        rcases rd2_some h with ⟨rfl, h⟩ | ⟨b, rfl, h⟩
        · exact sb_put (σ' := wV σ a (n / 10 % 100) .null) hW hF r1 hd h13 h9 hf hfin' hw r3 ht (hnar _ (Or.inl rfl)).1 (hnar _ (Or.inl rfl)).2 (fun _ => rfl) (fun _ => rfl) rfl (fun _ _ _ => rfl) (fun b j hb => if_neg (fun q => hb q.1)) (fun _ _ _ => rfl) (fun j hj => fv_wV hj)
            (by unfold fv; rw [if_pos hkd]; exact congrArg (tr D) (if_pos ⟨rfl, rfl⟩)) (fun H' locs' q1 q2 => hk _ hn _ _ _ h H' locs' cells slots ls q1 r2 q2 r4 r5)
        · exact sb_put (σ' := wV σ a (n / 10 % 100) (.ref b)) hW hF r1 hd h13 h9 hf hfin' hw r3 ht (hnar _ (tr_ref hW.2.2.2.2.1 b)).1 (hnar _ (tr_ref hW.2.2.2.2.1 b)).2 (fun _ => rfl) (fun _ => rfl) rfl (fun _ _ _ => rfl) (fun b j hb => if_neg (fun q => hb q.1)) (fun _ _ _ => rfl) (fun j hj => fv_wV hj)
            (by unfold fv; rw [if_pos hkd]; exact congrArg (tr D) (if_pos ⟨rfl, rfl⟩)) (fun H' locs' q1 q2 => hk _ hn _ _ _ h H' locs' cells slots ls q1 r2 q2 r4 r5)
      · cases h
    · cases h
  · cases hok
theorem se_nest {i : Nat} {w : Cond} (hW : Wld l D) (hot : w.onTables = true) (h : wAtN i w = true) : va_Nw w D.1 := by
  unfold wAtN at h
  rw [decide_eq_true_eq] at h
  exact va_Nw.of hot (hW.2.1 w (List.mem_of_getElem? h))
theorem se_ldc (hW : Wld l D) (hF : Frm p R s m meth c D mi d) (hk : ∀ q, nx = some q → ∀ L st σ2, k L st σ2 = some (res, σf) → Go p l e R s m args below meth c D mi z0 y0 res σf q L st σ2) {n : Nat} (hok : okI mi pc nx pos (.ldc n) = true) (h : step1 C X E pc (.ldc n) L st σ k = some (res, σf)) : Go p l e R s m args below meth c D mi z0 y0 res σf pc L st σ := by
  simp only [okI] at hok
  split at hok
  · rename_i x hd
    simp only [nxIs, Bool.and_eq_true, decide_eq_true_eq] at hok
    obtain ⟨⟨⟨hcl, h39⟩, hany⟩, hn⟩ := hok
    simp only [step1] at h
    intro H locs cells slots ls r1 r2 r3 r4 r5
    obtain ⟨q, hq, hq2⟩ := List.any_eq_true.mp hany
    rw [Bool.and_eq_true, decide_eq_true_eq, decide_eq_true_eq] at hq2
    have hr := vk_R.warm hF.2.2.2.2.2.2.2.2.1 (hW.2.2.2.2.2.2.2.2.2.1 q hq)
    rw [hq2.1, hq2.2] at hr
    have k2 := hk _ hn _ _ _ h H locs cells slots ls r1 r2 r3 r4 r5
    rw [List.map_cons, tr_at h39] at k2
    exact va_ldcS hF.1 hF.2.1 (by rw [← hcl]; exact hF.2.2.2.1) hr hd k2
  · cases hok
theorem se_getstatic (hW : Wld l D) (hF : Frm p R s m meth c D mi d) (hk : ∀ q, nx = some q → ∀ L st σ2, k L st σ2 = some (res, σf) → Go p l e R s m args below meth c D mi z0 y0 res σf q L st σ2) {n : Nat} (hok : okI mi pc nx pos (.getstatic n) = true) (h : step1 C X E pc (.getstatic n) L st σ k = some (res, σf)) : Go p l e R s m args below meth c D mi z0 y0 res σf pc L st σ := by
  have hs := hF.2.2.2.2.2.2.2.2.1
  have key : ∀ {C1 n1 d1 : String} {v : Value} {H : Heap}, Rep D σ H → va_Z C1 n1 d1 v (fun q => D.1.heap.size ≤ q) D.1 D.1.heap → va_Z C1 n1 d1 v (fun q => D.1.heap.size ≤ q) s H := fun hR hz => va_Z.moved hs.alike (hz.kept fun a ha _ => hR.2.2.1 a ha)
  simp only [okI] at hok
  split at hok
  · rename_i x hd
    simp only [nxIs, Bool.and_eq_true, decide_eq_true_eq] at hok
    obtain ⟨hn, hok⟩ := hok
    simp only [step1] at h
    intro H locs cells slots ls r1 r2 r3 r4 r5
    by_cases h1 : n < 1000
    · rw [if_pos h1] at hok h
      simp only [Bool.and_eq_true, decide_eq_true_eq, Bool.or_eq_true] at hok
      obtain ⟨cf, kf, fi, f, a, cell, i1, i2, i3, i4, i5, i6, i7, i8⟩ := key r1 (hW.2.2.2.2.2.2.2.1 n hok.1)
      have hkn : cell.vm ≠ .unknown := fun q => by rw [q] at i6; cases i6
      have k2 := hk _ hn _ _ _ h H locs cells slots ls r1 r2 r3 r4 r5
      rcases hok.2 with hw | hw
      · exact W.gets hF.1 hF.2.1 hF.2.2.2.1 (wd_at hW hs hw) i1 i2 i3 i4 i5 hkn i7 rfl hd k2
      · exact va_WgetsN hF.1 hF.2.1 hF.2.2.2.1 (va_Nw.use rfl (va_Nw.warmF hs (se_nest hW rfl hw))) i1 i2 i3 i4 i5 hkn i7 rfl hd k2
    · rw [if_neg h1] at hok h
      simp only [Bool.and_eq_true, decide_eq_true_eq] at hok
      obtain ⟨rfl, hw⟩ := hok
      obtain ⟨cf, kf, fi, f, a, cell, i1, i2, i3, i4, i5, i6, i7, i8⟩ := key r1 hW.2.2.2.2.2.2.2.2.1
      have hkn : cell.vm ≠ .unknown := fun q => by rw [q] at i6; cases i6
      exact W.gets hF.1 hF.2.1 hF.2.2.2.1 (wd_at hW hs hw) i1 i2 i3 i4 i5 hkn i7 rfl hd (hk _ hn _ _ _ h H locs cells slots ls r1 r2 r3 r4 r5)
  · cases hok
/-! returns -/
theorem W_mono {g : JFrame} {H : Heap} {locs : List Loc} {cells slots : Nat} {Q Q' : State → Prop} (hq : ∀ t, Q t → Q' t) (h : W p l e R s m args below meth c H locs cells slots Q g) : W p l e R s m args below meth c H locs cells slots Q' g := fun T hT X => by
  obtain ⟨t, a, b⟩ := h T hT X
  exact ⟨t, a, hq t b⟩
theorem se_end {H : Heap} {locs : List Loc} {cells slots : Nat} {g : JFrame} {v : Option Value} (hF : Frm p R s m meth c D mi d) (r1 : Rep D σ H) (r4 : z0 + cells = sZ σ) (r5 : y0 + slots = sS σ)
    (h : (∀ t : State, t.heap = H → s.WarmedH t.vm → Qc D (.inl v) σ args s (.returned (v.map (tr D))) t) → W p l e R s m args below meth c H locs cells slots (MQ below (Qc D (.inl v) σ) args s cells slots (Fr0 D)) g) : W p l e R s m args below meth c H locs cells slots (EndQ D below s args (.inl v) σ z0 y0) g := by
  have e1 : sZ σ - z0 = cells := by omega
  have e2 : sS σ - y0 = slots := by omega
  unfold EndQ
  rw [e1, e2]
  refine vx_ret (h fun t ht hw => ⟨⟨v, rfl, rfl⟩, State.WarmedH.trans hF.2.2.2.2.2.2.2.2.1 hw, by rw [ht]; exact r1⟩)
theorem se_ireturn (hF : Frm p R s m meth c D mi d) (hok : okI mi pc nx pos .ireturn = true) (h : step1 C X E pc .ireturn L st σ k = some (res, σf)) : Go p l e R s m args below meth c D mi z0 y0 res σf pc L st σ := by
  simp only [okI, Bool.and_eq_true, decide_eq_true_eq] at hok
  simp only [step1] at h
  intro H locs cells slots ls r1 r2 r3 r4 r5
  split at h
  · cases h
    exact se_end hF r1 r4 r5 fun hq => W.iret hF.1 hF.2.1 (by rw [hF.2.2.2.2.2.1]; exact hok.2) hq r3 hok.1 hF.2.2.2.2.1
  · cases h
theorem se_freturn (hF : Frm p R s m meth c D mi d) (hok : okI mi pc nx pos .freturn = true) (h : step1 C X E pc .freturn L st σ k = some (res, σf)) : Go p l e R s m args below meth c D mi z0 y0 res σf pc L st σ := by
  simp only [okI, Bool.and_eq_true, decide_eq_true_eq] at hok
  simp only [step1] at h
  intro H locs cells slots ls r1 r2 r3 r4 r5
  split at h
  · obtain ⟨h01, h⟩ := ite_some h
    cases h
    exact se_end hF r1 r4 r5 fun hq => W.zret hF.1 hF.2.1 (by rw [hF.2.2.2.2.2.1]; exact hok.2) (by rcases h01 with rfl | rfl <;> rfl) hq r3 hok.1 hF.2.2.2.2.1
  · cases h
theorem se_dreturn (hF : Frm p R s m meth c D mi d) (hok : okI mi pc nx pos .dreturn = true) (h : step1 C X E pc .dreturn L st σ k = some (res, σf)) : Go p l e R s m args below meth c D mi z0 y0 res σf pc L st σ := by
  simp only [okI, Bool.and_eq_true, decide_eq_true_eq] at hok
  simp only [step1] at h
  intro H locs cells slots ls r1 r2 r3 r4 r5
  split at h
  · obtain ⟨h01, h⟩ := ite_some h
    cases h
    exact se_end hF r1 r4 r5 fun hq => W.zret hF.1 hF.2.1 (by rw [hF.2.2.2.2.2.1]; exact hok.2) (by rw [← h01]; exact pk_nc _) hq r3 hok.1 hF.2.2.2.2.1
  · cases h
theorem se_lreturn (hF : Frm p R s m meth c D mi d) (hok : okI mi pc nx pos .lreturn = true) (h : step1 C X E pc .lreturn L st σ k = some (res, σf)) : Go p l e R s m args below meth c D mi z0 y0 res σf pc L st σ := by
  simp only [okI, Bool.and_eq_true, decide_eq_true_eq] at hok
  simp only [step1] at h
  intro H locs cells slots ls r1 r2 r3 r4 r5
  split at h
  · obtain ⟨h01, h⟩ := ite_some h
    cases h
    exact se_end hF r1 r4 r5 fun hq => W.zret hF.1 hF.2.1 (by rw [hF.2.2.2.2.2.1]; exact hok.2) (by rw [← h01]; exact pk_nb _) hq r3 hok.1 hF.2.2.2.2.1
  · cases h
theorem se_areturn (hW : Wld l D) (hF : Frm p R s m meth c D mi d) (hok : okI mi pc nx pos .areturn = true) (h : step1 C X E pc .areturn L st σ k = some (res, σf)) : Go p l e R s m args below meth c D mi z0 y0 res σf pc L st σ := by
  simp only [okI, Bool.and_eq_true, decide_eq_true_eq] at hok
  simp only [step1] at h
  intro H locs cells slots ls r1 r2 r3 r4 r5
  obtain ⟨hd, hr⟩ := hok
  split at hr
  · rename_i q hq
    split at h
    · cases h
      exact se_end hF r1 r4 r5 fun hq2 => W.aret hF.1 hF.2.1 (by rw [hF.2.2.2.2.2.1]; exact hq) (Or.inl ⟨_, rfl⟩) (tr_ref hW.2.2.2.2.1 _) hq2 r3 hd hF.2.2.2.2.1
    · cases h
      exact se_end hF r1 r4 r5 fun hq2 => W.aret hF.1 hF.2.1 (by rw [hF.2.2.2.2.2.1]; exact hq) (Or.inl ⟨_, rfl⟩) (Or.inl rfl) hq2 r3 hd hF.2.2.2.2.1
    · cases h
  · cases hr
theorem se_return (hF : Frm p R s m meth c D mi d) (hok : okI mi pc nx pos .return_ = true) (h : step1 C X E pc .return_ L st σ k = some (res, σf)) : Go p l e R s m args below meth c D mi z0 y0 res σf pc L st σ := by
  simp only [okI, Bool.and_eq_true, decide_eq_true_eq] at hok
  simp only [step1] at h
  intro H locs cells slots ls r1 r2 r3 r4 r5
  split at h
  · cases h
    exact se_end hF r1 r4 r5 fun hq => W.vret hF.1 hF.2.1 (by rw [hF.2.2.2.2.2.1]; exact hok.2) hq r3 hok.1 hF.2.2.2.2.1
  · cases h
end SE1
end
section
section SF1
variable {p : Program} {l : Launch} {e : Env} {R : Room} {s : State} {m : MethodId} {args : Array Value} {below : List Frame} {meth : Method} {c : Code} {D : SD} {mi d z0 y0 : Nat} {res : Option Value ⊕ Nat} {σf : SH}
variable {C : Nat → List Value → SH → SR} {X : Nat → Nat → Option Int32} {E : Nat → SL → List Value → SH → SR} {pc pos : Nat} {nx : Option Nat} {L : SL} {st : List Value} {σ : SH} {k : SL → List Value → SH → SR}
theorem tsw_some {x : Int32} {r : (Option Value ⊕ Nat) × SH} {d : SR} {E : Nat → SR} : ∀ (ts : List Int) (i : Int), tsw x i ts d E = some r → (∃ (j : Nat) (t : Int), ts[j]? = some t ∧ x = Int32.ofInt (i + j) ∧ E (jmp t) = some r) ∨ ((∀ j : Nat, j < ts.length → x ≠ Int32.ofInt (i + j)) ∧ d = some r)
  | [], i, h => Or.inr ⟨fun j hj => absurd hj (Nat.not_lt_zero j), h⟩
  | t :: ts, i, h => by
    unfold tsw at h
    split at h
    · rename_i hx
      exact Or.inl ⟨0, t, rfl, by simpa using hx, h⟩
    · rename_i hx
      rcases tsw_some ts (i + 1) h with ⟨j, u, h1, h2, h3⟩ | ⟨h1, h2⟩
      · exact Or.inl ⟨j + 1, u, by simpa using h1, by rw [h2]; congr 1; omega, h3⟩
      · refine Or.inr ⟨fun j hj => ?_, h2⟩
        cases j with
        | zero => simpa using hx
        | succ j =>
          have := h1 j (by simpa using hj)
          intro q
          apply this
          rw [q]
          congr 1
          omega
theorem ofI_small {z : Int} (h0 : 0 ≤ z) (h1 : z < 100000) : (Int32.ofInt z).toInt = z := by
  rw [Int32.toInt_ofInt]
  rw [Int.bmod_def]
  have : z % (2 ^ 32 : Nat) = z := Int.emod_eq_of_lt h0 (by omega)
  simp only [Int32.size] at *
  omega
theorem sf_tableswitch (hW : Wld l D) (hF : Frm p R s m meth c D mi d) (hE : ∀ t, t < 100000 → ∀ L st σ2, E t L st σ2 = some (res, σf) → Go p l e R s m args below meth c D mi z0 y0 res σf t L st σ2) {dt lo hi : Int} {ts : Array Int} (hok : okI mi pc nx pos (.tableswitch dt lo hi ts) = true) (h : step1 C X E pc (.tableswitch dt lo hi ts) L st σ k = some (res, σf)) : Go p l e R s m args below meth c D mi z0 y0 res σf pc L st σ := by
  simp only [okI] at hok
  split at hok
  · rename_i d2 lo2 hi2 os len hd
    simp only [Bool.and_eq_true, decide_eq_true_eq] at hok
    obtain ⟨⟨⟨⟨⟨⟨⟨⟨rfl, rfl⟩, hdt⟩, hd5⟩, hall⟩, hmap⟩, hlen⟩, hlo⟩, hhi⟩ := hok
    simp only [step1] at h
    intro H locs cells slots ls r1 r2 r3 r4 r5
    split at h
    · rename_i x st'
      have hl2 : ts.toList.length = os.size := by
        have := congrArg List.length hmap
        simpa using this.symm
      rcases tsw_some _ _ h with ⟨j, t, h1, h2, h3⟩ | ⟨h1, h2⟩
      · have hj : j < ts.toList.length := (List.getElem?_eq_some_iff.mp h1).1
        have hx : x.toInt = lo2 + j := by rw [h2]; exact ofI_small (by omega) (by omega)
        have hoj : ∃ o, os[j]? = some o ∧ (pc : Int) + o = (jmp t : Int) := by
          have := congrArg (fun z => z[j]?) hmap
          simp only [List.getElem?_map, h1, Option.map_some, Array.getElem?_toList] at this
          cases ho : os[j]? with
          | none => rw [ho] at this; cases this
          | some o => rw [ho] at this; exact ⟨o, rfl, Option.some.inj this⟩
        obtain ⟨o, ho, hpo⟩ := hoj
        have ht5 : jmp t < 100000 := by
          have := List.all_eq_true.mp hall t (List.mem_of_getElem? h1)
          simpa using this
        exact lv_tableIn hF.1 hF.2.1 hd (by omega) (by omega) (by rw [show (x.toInt - lo2).toNat = j by omega]; exact ho) hpo (hE _ ht5 _ _ _ h3 H locs cells slots ls r1 r2 r3 r4 r5)
      · have hout : x.toInt < lo2 ∨ hi2 < x.toInt := by
          rcases (show x.toInt < lo2 ∨ lo2 ≤ x.toInt by omega) with q | q
          · exact Or.inl q
          · rcases (show hi2 < x.toInt ∨ x.toInt ≤ hi2 by omega) with q2 | q2
            · exact Or.inr q2
            · exfalso
              refine h1 (x.toInt - lo2).toNat (by omega) ?_
              rw [show lo2 + (((x.toInt - lo2).toNat : Nat) : Int) = x.toInt by omega]
              exact (Int32.ofInt_toInt x).symm
        exact lv_tableOut hF.1 hF.2.1 hd hout hdt (hE _ hd5 _ _ _ h2 H locs cells slots ls r1 r2 r3 r4 r5)
    · cases h
  · cases hok
theorem cat_sum (hfm : D.2.2.2.1 = .null ∨ ∃ q, D.2.2.2.1 = .ref q) : ∀ st : List Value, ((st.map (tr D)).map fun v => v.category).sum = wds st
  | [] => rfl
  | v :: st => by
    have := cat_sum hfm st
    unfold wds at this ⊢
    rw [List.map_cons, List.map_cons, List.map_cons, List.sum_cons, List.sum_cons, this]
    rw [tr_cat hfm]
theorem oi_ok : (lw_tbl.contains (.instanceMethod Lib.objectInit) && goodWord (.instanceMethod Lib.objectInit) && lw_tbl.contains (.code Lib.objectInit ⟨#[0xb1]⟩ 1 none) && goodWord (.code Lib.objectInit ⟨#[0xb1]⟩ 1 none)) = true := by decide +kernel
theorem sf_monitorexit (hW : Wld l D) (hF : Frm p R s m meth c D mi d) (hk : ∀ q, nx = some q → ∀ L st σ2, k L st σ2 = some (res, σf) → Go p l e R s m args below meth c D mi z0 y0 res σf q L st σ2) (hok : okI mi pc nx pos .monitorexit = true) (h : step1 C X E pc .monitorexit L st σ k = some (res, σf)) : Go p l e R s m args below meth c D mi z0 y0 res σf pc L st σ := by
  have hs := hF.2.2.2.2.2.2.2.2.1
  simp only [okI] at hok
  split at hok
  · rename_i x hd
    simp only [nxIs, Bool.and_eq_true, decide_eq_true_eq] at hok
    simp only [step1] at h
    intro H locs cells slots ls r1 r2 r3 r4 r5
    split at h
    · rename_i a st'
      obtain ⟨⟨h39, hw8⟩, h⟩ := ite_some h
      have ho := oi_ok
      simp only [Bool.and_eq_true] at ho
      have w1 := lg_at (s := s) (args := args) hW hs _ (List.mem_filter.mpr ⟨List.contains_iff_mem.mp ho.1.1.1, ho.1.1.2⟩)
      have w2 := lg_at (s := s) (args := args) hW hs _ (List.mem_filter.mpr ⟨List.contains_iff_mem.mp ho.1.2, ho.2⟩)
      rw [List.map_cons, tr_at h39]
      have h1 := hF.2.2.2.2.2.2.2.2.2.1
      have h2 := hF.2.2.2.2.2.2.2.2.2.2
      exact W.objInit hF.1 hF.2.1 hF.2.2.2.1 (wd_at hW hs hok.2) w1 w2 rfl (by rw [hF.2.2.1]; exact r2.2.1) rfl hd (by omega) (by show 2 * 0 + _ + 12 ≤ _; rw [cat_sum hW.2.2.2.2.1]; omega) (hk _ hok.1 _ _ _ h H locs cells slots ls r1 r2 r3 r4 r5)
    · cases h
  · cases hok
theorem rho_new {H : Heap} (hW : Wld l D) (r1 : Rep D σ H) : D.2.2.1 (sZ σ) = H.size := by
  rw [hW.2.2.1 _ r1.1, r1.2.1]
def ipOk (n : Nat) : Bool := wAt (nthD ipTab n (0, 0)).1 (.instantiable (cN n) (nsl n)) && wAt (nthD ipTab n (0, 0)).2 (.initialized (cN n))
theorem ip_ok : (List.range 13).all (fun n => n == 9 || ipOk n) = true := by decide +kernel
theorem ip_at {n : Nat} (hn : n < 13) (h9 : n ≠ 9) : ipOk n = true := by
  have h := List.all_eq_true.mp ip_ok n (List.mem_range.mpr hn)
  rw [Bool.or_eq_true] at h
  rcases h with h | h
  · exact absurd (by simpa using h) h9
  · exact h
theorem sf_new (hW : Wld l D) (hF : Frm p R s m meth c D mi d) (hk : ∀ q, nx = some q → ∀ L st σ2, k L st σ2 = some (res, σf) → Go p l e R s m args below meth c D mi z0 y0 res σf q L st σ2)
    (hG : ∀ L st σ2, k L st σ2 = some (res, σf) → sZ σ2 ≤ sZ σf ∧ sS σ2 ≤ sS σf) (hRm : sZ σf ≤ z0 + R.cells ∧ sS σf ≤ y0 + R.slots) {n : Nat} (hn : n < 100) (hok : okI mi pc nx pos (.new n) = true) (h : step1 C X E pc (.new n) L st σ k = some (res, σf)) : Go p l e R s m args below meth c D mi z0 y0 res σf pc L st σ := by
  have hs := hF.2.2.2.2.2.2.2.2.1
  simp only [okI, if_pos hn] at hok
  split at hok
  · rename_i x hd
    simp only [nxIs, Bool.and_eq_true, decide_eq_true_eq] at hok
    obtain ⟨⟨⟨hnx, h13⟩, h9⟩, hw⟩ := hok
    simp only [step1, if_pos hn] at h
    intro H locs cells slots ls r1 r2 r3 r4 r5
    have hi := ip_at h13 h9
    unfold ipOk at hi
    rw [Bool.and_eq_true] at hi
    have hg := hG _ _ _ h
    have hz : sZ (mkC σ (100 + n) 0 (nsl n)) = sZ σ + 1 := rfl
    have hz2 : sS (mkC σ (100 + n) 0 (nsl n)) = sS σ + nsl n := rfl
    have hK0 := hW.2.2.2.2.2.1 n (by omega)
    have hCA := classAt_moved hs.alike hK0.1
    have hKn : u_Kn s (cN n) (fT n) (nf n) (D.2.2.2.2.1 n) (D.2.2.2.2.2 n) := ⟨fun j hj => by
      obtain ⟨cf, kf, fi, fd, i1, i2, i3⟩ := ff_at hs (hK0.2 j hj)
      exact ⟨cf, kf, fi, fd, i1, i3⟩, hCA⟩
    refine W.newcK hF.1 hF.2.1 hF.2.2.2.1 (wd_at hW hs hw) (wd_at hW hs hi.1) (wd_at hW hs hi.2) rfl hd (by omega) (by omega) hCA.1 rfl fun H' kC k1 k2 k3 k4 => ?_
    obtain ⟨cell, c1, c2, c3, c4⟩ := u_born (o := H.size) (H := H') (fy n) (lg_at (args := args) hW hs) (lays_in h13 h9) hKn k1 k2 (fun j hj => (tys_at h13 h9 hj).1)
    have key := hk _ hnx _ _ _ h H' locs (cells + 1) (slots + nsl n) ls (rep_new hW r1 k3 k4 (okC_obj (n := n) (if_pos rfl) ⟨cell, by rw [rho_new hW r1]; exact c1, c2, by rw [c3]; rfl, (fun q => by rw [c3] at q; cases q), fun _ => c3, fun j hj => ?_⟩)) r2 r3 (by omega) (by omega)
    · rw [List.map_cons, tr_at (by have := r1.1; omega), rho_new hW r1] at key
      exact key
    · rw [c4 j hj]
      dsimp only
      rw [(tys_at h13 h9 hj).2.1]
      unfold fv
      rw [show sV (mkC σ (100 + n) 0 (nsl n)) (sZ σ) j = .null from if_pos rfl, show sI (mkC σ (100 + n) 0 (nsl n)) (sZ σ) j = 0 from if_pos rfl]
      split <;> rfl
  · cases hok
end SF1
end
section
section SG1
variable {p : Program} {l : Launch} {e : Env} {R : Room} {s : State} {m : MethodId} {args : Array Value} {below : List Frame} {meth : Method} {c : Code} {D : SD} {mi d z0 y0 : Nat} {res : Option Value ⊕ Nat} {σf : SH}
variable {C : Nat → List Value → SH → SR} {X : Nat → Nat → Option Int32} {E : Nat → SL → List Value → SH → SR} {pc pos : Nat} {nx : Option Nat} {L : SL} {st : List Value} {σ : SH} {k : SL → List Value → SH → SR}
theorem ac_ok : ([FieldType.int, .byte, .long].all fun t => lw_tbl.contains (.arrayClass t)) = true := by decide +kernel
theorem ac_at {t : FieldType} (hW : Wld l D) (hs : D.1.WarmedH s.vm) (h : t ∈ [FieldType.int, .byte, .long]) : (Cond.arrayClass t).before args s = true :=
  lg_at hW hs _ (List.mem_filter.mpr ⟨List.contains_iff_mem.mp (List.all_eq_true.mp ac_ok t h), rfl⟩)
theorem nwA_some {t : Nat} {n : Int32} {k : Nat → SH → SR} {r : (Option Value ⊕ Nat) × SH} (h : nwA σ t n k = some r) : ¬ n < 0 ∧ n.toNatClampNeg ≤ 60000 ∧ k (sZ σ) (mkC σ t n.toNatClampNeg n.toNatClampNeg) = some r := by
  unfold nwA at h
  split at h
  · cases h
  · rename_i q
    exact ⟨fun z => q (Or.inl z), by omega, h⟩
theorem sg_newarray (hW : Wld l D) (hF : Frm p R s m meth c D mi d) (hk : ∀ q, nx = some q → ∀ L st σ2, k L st σ2 = some (res, σf) → Go p l e R s m args below meth c D mi z0 y0 res σf q L st σ2)
    (hG : ∀ L st σ2, k L st σ2 = some (res, σf) → sZ σ2 ≤ sZ σf ∧ sS σ2 ≤ sS σf) (hRm : sZ σf ≤ z0 + R.cells ∧ sS σf ≤ y0 + R.slots) {t : ArrayType} (hok : okI mi pc nx pos (.newarray t) = true) (h : step1 C X E pc (.newarray t) L st σ k = some (res, σf)) : Go p l e R s m args below meth c D mi z0 y0 res σf pc L st σ := by
  have hs := hF.2.2.2.2.2.2.2.2.1
  simp only [okI, nxIs, Bool.and_eq_true, decide_eq_true_eq] at hok
  simp only [step1] at h
  intro H locs cells slots ls r1 r2 r3 r4 r5
  split at h
  · rename_i n st'
    have go : ∀ (tc : Nat) (ty : FieldType), newarray.typeOf t = ty → ty ∈ [FieldType.int, .byte, .long] → (∀ (H' : Heap) (cA : ClassId), H'[H.size]? = some (arrV cA n.toNatClampNeg (fun _ => defaultValue ty)) → ArrOfT s cA ty → okC D (mkC σ tc n.toNatClampNeg n.toNatClampNeg) H' (sZ σ)) →
        nwA σ tc n (fun a σ => k L (.ref a :: st') σ) = some (res, σf) → W p l e R s m args below meth c H locs cells slots (EndQ D below s args res σf z0 y0) (F0 m pc ls ((Value.int n :: st').map (tr D))) := by
      intro tc ty hty hmem hoc hh
      obtain ⟨hn0, hn6, hh⟩ := nwA_some hh
      have hg := hG _ _ _ hh
      have hz : sZ (mkC σ tc n.toNatClampNeg n.toNatClampNeg) = sZ σ + 1 := rfl
      have hz2 : sS (mkC σ tc n.toNatClampNeg n.toNatClampNeg) = sS σ + n.toNatClampNeg := rfl
      have hcb : componentBytes ty ≤ 8 := by
        simp only [List.mem_cons, List.mem_nil_iff, or_false] at hmem
        rcases hmem with rfl | rfl | rfl <;> decide
      refine W.newaK (atype := t) hF.1 hF.2.1 (by rw [hty]; exact ac_at hW hs hmem) rfl hok.1 rfl hn0 rfl (by rw [hty]; exact Nat.le_trans (Nat.mul_le_mul hn6 hcb) (by decide)) (by omega) (by omega) rfl fun H' cA k1 k2 k3 k4 => ?_
      rw [hty] at k1 k4
      have key := hk _ hok.2 _ _ _ hh H' locs (cells + 1) (slots + n.toNatClampNeg) ls (rep_new hW r1 k2 k3 (hoc H' cA k1 k4)) r2 r3 (by omega) (by omega)
      rw [List.map_cons, tr_at (by have := r1.1; omega), rho_new hW r1] at key
      exact key
    have hA : ∀ {ty : FieldType} {cA : ClassId} {N : Nat} {f : Nat → Value}, ArrOfT s cA ty → D.1.isArrayOf (arrV cA N f) ty := fun h => State.isArrayOf_alike hs.alike.symm (h _ _)
    have hv : ∀ {cA : ClassId} {N : Nat} {f : Nat → Value}, (arrV cA N f).vm ≠ .unknown := fun q => by cases q
    split at h
    · exact go 1 .int rfl (by simp) (fun H' cA q1 q2 => okC_int (if_pos rfl) ⟨_, by rw [rho_new hW r1]; exact q1, hA q2, hv, by rw [arrV_size]; exact (if_pos rfl).symm, fun i hi => by
        rw [arrV_read _ _ (by rw [show sN (mkC σ 1 n.toNatClampNeg n.toNatClampNeg) (sZ σ) = n.toNatClampNeg from if_pos rfl] at hi; exact hi), show sI (mkC σ 1 n.toNatClampNeg n.toNatClampNeg) (sZ σ) i = 0 from if_pos rfl]; rfl⟩) h
    · exact go 2 .byte rfl (by simp) (fun H' cA q1 q2 => okC_byt (if_pos rfl) ⟨_, by rw [rho_new hW r1]; exact q1, hA q2, hv, by rw [arrV_size]; exact (if_pos rfl).symm, fun i hi => by
        rw [arrV_read _ _ (by rw [show sN (mkC σ 2 n.toNatClampNeg n.toNatClampNeg) (sZ σ) = n.toNatClampNeg from if_pos rfl] at hi; exact hi), show sI (mkC σ 2 n.toNatClampNeg n.toNatClampNeg) (sZ σ) i = 0 from if_pos rfl]; rfl⟩) h
    · exact go 3 .long rfl (by simp) (fun H' cA q1 q2 => okC_lng (if_pos rfl) ⟨_, by rw [rho_new hW r1]; exact q1, hA q2, hv, by rw [arrV_size]; exact (if_pos rfl).symm, fun i hi => by
        rw [arrV_read _ _ (by rw [show sN (mkC σ 3 n.toNatClampNeg n.toNatClampNeg) (sZ σ) = n.toNatClampNeg from if_pos rfl] at hi; exact hi), show sJ (mkC σ 3 n.toNatClampNeg n.toNatClampNeg) (sZ σ) i = 0 from if_pos rfl]; rfl⟩) h
    · cases h
  · cases h
theorem sg_anewarray (hW : Wld l D) (hF : Frm p R s m meth c D mi d) (hk : ∀ q, nx = some q → ∀ L st σ2, k L st σ2 = some (res, σf) → Go p l e R s m args below meth c D mi z0 y0 res σf q L st σ2)
    (hG : ∀ L st σ2, k L st σ2 = some (res, σf) → sZ σ2 ≤ sZ σf ∧ sS σ2 ≤ sS σf) (hRm : sZ σf ≤ z0 + R.cells ∧ sS σf ≤ y0 + R.slots) {t : Nat} (hok : okI mi pc nx pos (.anewarray t) = true) (h : step1 C X E pc (.anewarray t) L st σ k = some (res, σf)) : Go p l e R s m args below meth c D mi z0 y0 res σf pc L st σ := by
  have hs := hF.2.2.2.2.2.2.2.2.1
  simp only [okI] at hok
  split at hok
  · rename_i x hd
    simp only [nxIs, Bool.and_eq_true, decide_eq_true_eq] at hok
    obtain ⟨⟨⟨hnx, h13⟩, hw⟩, hov⟩ := hok
    simp only [step1] at h
    intro H locs cells slots ls r1 r2 r3 r4 r5
    split at h
    · rename_i n st'
      obtain ⟨hn0, hn6, h⟩ := nwA_some h
      have hg := hG _ _ _ h
      have hz : sZ (mkC σ (10 + t) n.toNatClampNeg n.toNatClampNeg) = sZ σ + 1 := rfl
      have hz2 : sS (mkC σ (10 + t) n.toNatClampNeg n.toNatClampNeg) = sS σ + n.toNatClampNeg := rfl
      have hover : (Cond.arrayOver (.object (cN t))).before args s = true := va_AO.use (va_AO.moved hs.alike (va_AO.of (hW.2.1 _ (List.contains_iff_mem.mp hov))))
      refine W.anew hF.1 hF.2.1 hF.2.2.2.1 (wd_at hW hs hw) hover rfl hd rfl hn0 (by omega) (by omega) (by omega) fun cA kA comp k1 k2 k3 k4 => ?_
      obtain ⟨k', hk', he⟩ := hs.alike.symm.2.2 _ _ k2
      have hcell : (H.push { cls := cA, slots := Array.replicate n.toNatClampNeg .null, vm := .none })[H.size]? = some { cls := cA, slots := Array.replicate n.toNatClampNeg .null, vm := .none } := by simp
      have eN1 : sN (mkC σ (10 + t) n.toNatClampNeg n.toNatClampNeg) (sZ σ) = n.toNatClampNeg := if_pos rfl
      have hrow : okRow D (mkC σ (10 + t) n.toNatClampNeg n.toNatClampNeg) (H.push { cls := cA, slots := Array.replicate n.toNatClampNeg .null, vm := .none }) (sZ σ) t := by
        refine ⟨{ cls := cA, slots := Array.replicate n.toNatClampNeg .null, vm := .none }, k', comp, ?_, ?_, ?_, hk', ?_, ?_, ?_, ?_⟩
        · rw [rho_new hW r1]; exact hcell
        · intro q z; cases z
        · intro z; cases z
        · rw [he]; exact k3
        · rw [← hs.alike.findClass]; exact k4
        · rw [eN1]; simp
        · intro i hi
          rw [eN1] at hi
          rw [show sV (mkC σ (10 + t) n.toNatClampNeg n.toNatClampNeg) (sZ σ) i = .null from if_pos rfl]
          simp [hi, tr]
      have key := hk _ hnx _ _ _ h (H.push { cls := cA, slots := Array.replicate n.toNatClampNeg .null, vm := .none }) locs (cells + 1) (slots + n.toNatClampNeg) ls (rep_new hW r1 (by simp) (fun q hq => by rw [Array.getElem?_push_lt hq]; exact (Array.getElem?_eq_getElem hq).symm) (okC_row (n := t) (if_pos rfl) (by omega) hrow)) r2 r3 (by omega) (by omega)
      rw [List.map_cons, tr_at (by have := r1.1; omega), rho_new hW r1] at key
      exact key
    · cases h
  · cases hok
end SG1
end
section
/-! calls -/
def cwOf (id : Nat) : Cond := if hhOf id = [] then .code (yOf id) (bsOf id) (mxOf id) (rtOf id) else .codeWith (yOf id) (bsOf id) (mxOf id) (rtOf id) (hhOf id)
def pzB (id : Nat) : Bool := wAt (pzOf id).1 (cwOf id) && wAt (pzOf id).2.2.2 (.initialized (yOf id).cls) && plainName (yOf id).cls && decide ((yOf id).cls ≠ "java/lang/invoke/MethodHandle") && decide ((yOf id).cls ≠ "java/lang/invoke/VarHandle") &&
  (match kdOf id with
    | 0 => wAt (pzOf id).2.1 (.static (yOf id))
    | 1 => wAt (pzOf id).2.1 (.instanceMethod (yOf id)) && wAt (pzOf id).2.2.1 (.selects (yOf id).cls (yOf id) (yOf id))
    | _ => wAt (pzOf id).2.1 (.instanceMethod (yOf id)) && decide ((yOf id).name = "<init>") && decide (rtOf id = none)) &&
  (match parseMethodDescriptor (yOf id).desc with
    | some q => decide (q.parameters.length + (if kdOf id = 0 then 0 else 1) ≤ mxOf id)
    | none => false) && decide (mxOf id ≤ 100)
section CA
variable {p : Program} {l : Launch} {e : Env} {R : Room} {s : State} {m : MethodId} {args : Array Value} {below : List Frame} {meth : Method} {c : Code} {D : SD} {mi d z0 y0 : Nat} {res : Option Value ⊕ Nat} {σf : SH}
def Sd (D : SD) (l : Launch) (n : Nat) : Prop := ∀ (d mi pc : Nat) (L : SL) (st : List Value) (σ : SH) (res : Option Value ⊕ Nat) (σf : SH), execN PP n d mi pc L st σ = some (res, σf) → mi < 372 → pc < 100000 →
  ∀ (p : Program) (e : Env) (R : Room) (s : State) (m : MethodId) (args : Array Value) (below : List Frame) (meth : Method) (c : Code) (z0 y0 : Nat), Frm p R s m meth c D mi d → sZ σf ≤ z0 + R.cells → sS σf ≤ y0 + R.slots → Go p l e R s m args below meth c D mi z0 y0 res σf pc L st σ
def Pcc (D : SD) (as : List Value) (σ : SH) : Array Value → State → Prop := fun a U => a = (as.map (tr D)).toArray ∧ D.1.WarmedH U.vm ∧ Rep D σ U.heap
theorem pcc_blind {as : List Value} {σ : SH} : FrameBlind (Pcc D as σ) := fun _ _ _ _ h => h
theorem wds_all : ∀ as : List Value, wds as = as.length → ∀ v ∈ as, cat2 v = 1
  | [], _, v, h => by cases h
  | w :: as, h, v, hv => by
    have hge : ∀ bs : List Value, bs.length ≤ wds bs := fun bs => by
      induction bs with
      | nil => exact Nat.le_refl _
      | cons x xs ih =>
        unfold wds at ih ⊢
        rw [List.map_cons, List.sum_cons, List.length_cons]
        have : 1 ≤ cat2 x := by cases x <;> simp [cat2]
        omega
    have h1 := hge as
    have h2 : 1 ≤ cat2 w := by cases w <;> simp [cat2]
    unfold wds at h h1
    rw [List.map_cons, List.sum_cons, List.length_cons] at h
    rcases List.mem_cons.mp hv with rfl | hv
    · omega
    · exact wds_all as (by unfold wds; omega) v hv
theorem lv_args_mem {vs : List Value} (hc : ∀ v ∈ vs, v.category = 1) : ∀ (j i : Nat) (v : Value), vs[i]? = some v → (j + i, v) ∈ lv_args j vs := by
  induction vs with
  | nil => intro j i v h; simp at h
  | cons w ws ih =>
    intro j i v h
    unfold lv_args
    cases i with
    | zero =>
      simp at h
      subst h
      exact List.mem_cons_self
    | succ i =>
      rw [if_neg (by rw [hc w List.mem_cons_self]; decide)]
      have := ih (fun v hv => hc v (List.mem_cons_of_mem _ hv)) (j + 1) i v (by simpa using h)
      rw [show j + 1 + i = j + (i + 1) by omega] at this
      exact List.mem_cons_of_mem _ this
theorem lg_len {vs : List Value} (hc : ∀ v ∈ vs, v.category = 1) : (lg_sl vs).length = vs.length := by
  induction vs with
  | nil => rfl
  | cons w ws ih =>
    unfold lg_sl at ih ⊢
    rw [List.flatMap_cons, List.length_append, ih (fun v hv => hc v (List.mem_cons_of_mem _ hv)), if_neg (by rw [hc w List.mem_cons_self]; decide)]
    simp [Nat.add_comm]
/-- a callee's contract out of SM's run of it -/
theorem met_of {n d' id : Nat} {as : List Value} {σ σ1 : SH} {res : Option Value ⊕ Nat} (hW : Wld l D) (hn : Sd D l n) (hid : id < 372) (hpz : pzB id = true) (hx : execN PP n d' id 0 (lcl PP id as) [] σ = some (res, σ1)) (hwd : wds as = as.length) (hal : as.length ≤ mxOf id) :
    vx_Met l (yOf id) [cwOf id] { frames := d' + 8, cells := sZ σ1 - sZ σ, slots := sS σ1 - sS σ, locals := (d' + 1) * 200 } (Pcc D as σ) (Qc D res σ1) (Xc D res σ1) (sZ σ1 - sZ σ) (sS σ1 - sS σ) (Fr0 D) := by
  have hgr := execN_gro PP n d' id 0 (lcl PP id as) [] σ _ _ hx
  have hcat : ∀ v ∈ as.map (tr D), v.category = 1 := fun v hv => by
    obtain ⟨w, hw, rfl⟩ := List.mem_map.mp hv
    exact cat_tr hW.2.2.2.2.1 (wds_all as hwd w hw)
  have hpl : plainName (yOf id).cls = true := by
    unfold pzB at hpz
    simp only [Bool.and_eq_true] at hpz
    exact hpz.1.1.1.1.1.2
  have body : ∀ (p : Program) (e : Env) (s : State) (m : MethodId) (args : Array Value) (below : List Frame) (meth : Method) (c : Code) (s₁ : State), BodyLoose p l (yOf id) (headSpec [cwOf id] { frames := d' + 8, cells := sZ σ1 - sZ σ, slots := sS σ1 - sS σ, locals := (d' + 1) * 200 }) (bsOf id) (mxOf id) (rtOf id) e s m args below meth c s₁ → c.maxLocals = mxOf id → c.exceptionTable.toList = tableOf (hhOf id) → Pcc D as σ args s →
      W p l e { frames := d' + 8, cells := sZ σ1 - sZ σ, slots := sS σ1 - sS σ, locals := (d' + 1) * 200 } s m args below meth c s.heap [] 0 0 (vx_MQ below (Qc D res σ1) (Xc D res σ1) args s (sZ σ1 - sZ σ) (sS σ1 - sS σ) (Fr0 D)) (entryFrame m args (mxOf id)) := by
    intro p e s m args below meth c s₁ B hml htab hP
    obtain ⟨rfl, hwm, hrep⟩ := hP
    have hF : Frm p { frames := d' + 8, cells := sZ σ1 - sZ σ, slots := sS σ1 - sS σ, locals := (d' + 1) * 200 } s m meth c D id d' := ⟨B.exec, B.bytes, hml, findClass_of_methodNamed B.named, B.notSynchronized, B.returns, (name_of_methodNamed B.named B.method).1, htab, hwm, Nat.le_refl _, Nat.le_refl _⟩
    have hgo := hn d' id 0 _ _ _ _ _ hx hid (by decide) p e _ s m (as.map (tr D)).toArray below meth c (sZ σ) (sS σ) hF (by show sZ σ1 ≤ sZ σ + (sZ σ1 - sZ σ); omega) (by show sS σ1 ≤ sS σ + (sS σ1 - sS σ); omega)
    have hlen : (lg_sl (as.map (tr D))).length ≤ mxOf id := by rw [lg_len hcat, List.length_map]; exact hal
    have hl := lv_entry (as.map (tr D)) hlen
    rw [lg_entry_eq]
    refine hgo s.heap [] 0 0 _ hrep (lR_of ?_ hl fun i v hv => ?_) (fun z hz => by cases hz) rfl rfl
    · show (as.map some ++ List.replicate (nthD mxTab id 0 - as.length) none).length ≤ _
      rw [List.length_append, List.length_map, List.length_replicate]
      unfold mxOf at hal ⊢
      omega
    · have hv' : (as.map some ++ List.replicate (nthD mxTab id 0 - as.length) none)[i]? = some (some v) := hv
      rw [List.getElem?_append] at hv'
      split at hv'
      · rename_i hi
        rw [List.getElem?_map] at hv'
        cases ha : as[i]? with
        | none => rw [ha] at hv'; cases hv'
        | some w =>
          rw [ha] at hv'
          cases hv'
          have := lv_args_mem hcat 0 i (tr D v) (by rw [List.getElem?_map, ha]; rfl)
          rw [Nat.zero_add] at this
          exact this
      · rw [List.getElem?_replicate] at hv'
        split at hv' <;> cases hv'
  by_cases hh : hhOf id = []
  · refine vx_ofW (cc := bsOf id) (maxL := mxOf id) (ret := rtOf id) (ws' := []) hpl (by unfold cwOf; rw [if_pos hh]) fun p e s m args below meth c s₁ B hml htab hP => body p e s m args below meth c s₁ B hml ?_ hP
    rw [hh]
    cases ht : c.exceptionTable.toList with
    | nil => rfl
    | cons x xs => exact absurd (by rw [ht]; exact List.mem_cons_self) (htab x)
  · refine vx_ofWH (cc := bsOf id) (maxL := mxOf id) (ret := rtOf id) (hh := hhOf id) (ws' := []) hpl (by unfold cwOf; rw [if_neg hh]) fun p e s m args below meth c s₁ B hml hP => body p e s m args below meth c s₁ B hml ?_ hP
    have hw : (Cond.codeWith (yOf id) (bsOf id) (mxOf id) (rtOf id) (hhOf id)).before args s = true := by
      have := atoms_spec (ws := [cwOf id]) B.pre (cwOf id) List.mem_cons_self
      unfold cwOf at this
      rw [if_neg hh] at this
      exact this
    exact vx_table (x := yOf id) B hw
end CA
end
section
section CB
variable {p : Program} {l : Launch} {e : Env} {R : Room} {s : State} {m : MethodId} {args : Array Value} {below : List Frame} {meth : Method} {c : Code} {D : SD} {mi d z0 y0 : Nat} {res : Option Value ⊕ Nat} {σf : SH}
theorem doC_some {r : Nat} {a : SR} {L : SL} {st : List Value} {k : SL → List Value → SH → SR} {kx : Nat → SH → SR} {rr : (Option Value ⊕ Nat) × SH} (h : doC r a L st k kx = some rr) : (∃ v σ1, a = some (.inl v, σ1) ∧ k L (v.toList ++ st) σ1 = some rr) ∨ ∃ x σ1, a = some (.inr x, σ1) ∧ kx x σ1 = some rr := by
  rcases a with _ | ⟨v | x, σ1⟩
  · match r, h with
    | 0, h => cases h
    | 1, h => cases h
    | 2, h => cases h
    | n + 3, h => cases h
  · refine Or.inl ⟨v, σ1, rfl, ?_⟩
    match r, h with
    | 0, h => cases v with
      | none => exact h
      | some w => cases h
    | 1, h => cases v with
      | none => cases h
      | some w => cases w <;> first | exact h | cases h
    | 2, h => cases v with
      | none => cases h
      | some w => cases w <;> first | exact h | cases h
    | n + 3, h => cases v with
      | none => cases h
      | some w => cases w <;> first | exact h | cases h
  · refine Or.inr ⟨x, σ1, rfl, ?_⟩
    match r, h with
    | 0, h => exact h
    | 1, h => exact h
    | 2, h => exact h
    | n + 3, h => exact h
theorem W_vx {pc : Nat} {H : Heap} {locs : List Loc} {cells slots mc ms : Nat} {ls : Array Slot} {st0 rest : List Value} {res1 : Option Value ⊕ Nat} {σ1 : SH} {a : Array Value} {Q : State → Prop} (hl3 : ∀ z ∈ locs, D.1.heap.size ≤ z.base)
    (hr : vx_Run p l e R s m args below meth c H locs cells slots mc ms (F0 m pc ls st0) rest (Qc D res1 σ1 a) (Xc D res1 σ1) (Fr0 D))
    (kret : ∀ v, res1 = .inl v → ∀ (H' : Heap) (locs' : List Loc), Rep D σ1 H' → (∀ z ∈ locs', D.1.heap.size ≤ z.base) → W p l e R s m args below meth c H' locs' (cells + mc) (slots + ms) Q (F0 m (pc + 3) ls ((v.map (tr D)).toList ++ rest)))
    (kthr : ∀ x, res1 = .inr x → x < 5 → ∀ (H' : Heap) (locs' : List Loc) (ce : Cell) (q : Addr), Rep D σ1 H' → (∀ z ∈ locs', D.1.heap.size ≤ z.base) → H'[q]? = some ce → ce.vm = .none → s.vm.findClass (eN x) = some ce.cls → vx_W p l e R s m args below meth c H' locs' (cells + mc) (slots + ms) Q (F0 m pc ls rest) q) :
    W p l e R s m args below meth c H locs cells slots Q (F0 m pc ls st0) := by
  intro T hT X
  have hla : ∀ {L : List Loc}, (∀ q ∈ L, Fr0 D q.base) → ∀ z ∈ locs ++ L, D.1.heap.size ≤ z.base := fun hL z hz => (List.mem_append.mp hz).elim (hl3 z) (hL z)
  rcases hr T hT X with ⟨v, st₀, t, T', L, h0, X', hL, e1, e2, hq, goes⟩ | ⟨q, st₀, t, T', L, E, ce, h0, X', hL, e1, e2, hx, hce, hcv, hcl, goes⟩
  · obtain ⟨⟨v', e', hv⟩, hw, hrep⟩ := hq
    have hv2 : v = v'.map (tr D) := Outcome.returned.inj hv
    subst hv2
    obtain ⟨t2, a1, b1⟩ := kret v' e' T'.heap (locs ++ L) (by rw [e1]; exact hrep) (hla hL) T' rfl X'
    exact ⟨t2, goes t2 a1, b1⟩
  · obtain ⟨⟨x, hx1, hx5, rfl⟩, hrep⟩ := hx
    obtain ⟨t2, a1, b1⟩ := kthr x hx1 hx5 T'.heap (locs ++ L) ce q (by rw [e1]; exact hrep) (hla hL) (by rw [e1]; exact hce) hcv hcl T' rfl X'
    exact ⟨t2, goes.trans a1, b1⟩
theorem calD_lt {d' id : Nat} (h : calD PP d id = some d') : d' < d := by
  unfold calD at h
  split at h
  · cases d with
    | zero => cases h
    | succ d => cases h; exact Nat.lt_succ_self _
  · split at h
    · cases h; assumption
    · cases h
/-- SM's call with fuel n -/
noncomputable def CN (n d : Nat) (id : Nat) (as : List Value) (σ : SH) : SR := match calD PP d id with
  | some d' => execN PP n d' id 0 (lcl PP id as) [] σ
  | none => none
theorem CN_some {n d id : Nat} {as : List Value} {σ : SH} {r : (Option Value ⊕ Nat) × SH} (h : CN n d id as σ = some r) : ∃ d', d' < d ∧ execN PP n d' id 0 (lcl PP id as) [] σ = some r := by
  unfold CN at h
  split at h
  · rename_i d' hd
    exact ⟨d', calD_lt hd, h⟩
  · cases h
theorem pz_of {id : Nat} (hpz : pzB id = true) : wAt (pzOf id).1 (cwOf id) = true ∧ wAt (pzOf id).2.2.2 (.initialized (yOf id).cls) = true ∧ ((yOf id).cls ≠ "java/lang/invoke/MethodHandle" ∧ (yOf id).cls ≠ "java/lang/invoke/VarHandle") ∧ mxOf id ≤ 100 ∧
    (kdOf id = 0 → wAt (pzOf id).2.1 (.static (yOf id)) = true) ∧ (kdOf id = 1 → wAt (pzOf id).2.1 (.instanceMethod (yOf id)) = true ∧ wAt (pzOf id).2.2.1 (.selects (yOf id).cls (yOf id) (yOf id)) = true) ∧
    (kdOf id = 2 → wAt (pzOf id).2.1 (.instanceMethod (yOf id)) = true ∧ (yOf id).name = "<init>" ∧ rtOf id = none) ∧ (∀ sig, parseMethodDescriptor (yOf id).desc = some sig → sig.parameters.length + (if kdOf id = 0 then 0 else 1) ≤ mxOf id) := by
  unfold pzB at hpz
  simp only [Bool.and_eq_true, decide_eq_true_eq] at hpz
  obtain ⟨⟨⟨⟨⟨⟨⟨h1, h2⟩, h3⟩, h4⟩, h5⟩, h6⟩, h7⟩, h8⟩ := hpz
  refine ⟨h1, h2, ⟨h4, h5⟩, h8, fun q => ?_, fun q => ?_, fun q => ?_, fun sig hs => ?_⟩
  · rw [q] at h6; exact h6
  · rw [q] at h6; simpa using h6
  · rw [q] at h6
    simp only [Bool.and_eq_true, decide_eq_true_eq] at h6
    exact ⟨h6.1.1, h6.1.2, h6.2⟩
  · rw [hs] at h7
    simpa using h7
/-- where nothing is caught -/
theorem thr_out {pc : Nat} {H' : Heap} {locs' : List Loc} {cells slots : Nat} {ls : Array Slot} {rest : List Value} {x : Nat} {ce : Cell} {q : Addr} {σ1 : SH} (hF : Frm p R s m meth c D mi d) (hh : hhOf mi = []) (hx5 : x < 5) (hrep : Rep D σ1 H') (hl : ∀ z ∈ locs', D.1.heap.size ≤ z.base) (hce : H'[q]? = some ce) (hcv : ce.vm = .none) (hcl : s.vm.findClass (eN x) = some ce.cls) (h4 : z0 + cells = sZ σ1) (h5 : y0 + slots = sS σ1) :
    vx_W p l e R s m args below meth c H' locs' cells slots (EndQ D below s args (.inr x) σ1 z0 y0) (F0 m pc ls rest) q := by
  unfold EndQ
  refine vx_out (E := eN x) (fun z hz => ?_) hF.2.2.2.2.1 hce hcv hcl (fun t ht _ => ⟨⟨x, rfl, hx5, rfl⟩, by rw [ht]; exact hrep⟩) hl (by omega) (by omega)
  rw [hF.2.2.2.2.2.2.2.1, hh] at hz
  cases hz
theorem take_rev {st as : List Value} {n : Nat} {v : Value} (h : (st.take n).reverse = v :: as) : st = as.reverse ++ v :: st.drop n := by
  have h1 : st.take n = (v :: as).reverse := by rw [← h, List.reverse_reverse]
  rw [List.reverse_cons] at h1
  conv => lhs; rw [← List.take_append_drop n st, h1]
  simp
end CB
end
section
section CC
variable {p : Program} {l : Launch} {e : Env} {R : Room} {s : State} {m : MethodId} {args : Array Value} {below : List Frame} {meth : Method} {c : Code} {D : SD} {mi d z0 y0 nn : Nat} {res : Option Value ⊕ Nat} {σf : SH}
variable {E : Nat → SL → List Value → SH → SR} {X : Nat → Nat → Option Int32} {pc pos : Nat} {nx : Option Nat} {L : SL} {st : List Value} {σ : SH} {k : SL → List Value → SH → SR}
/-- what a throw that came out of a call does in this frame -/
def Thr (p : Program) (l : Launch) (e : Env) (R : Room) (s : State) (m : MethodId) (args : Array Value) (below : List Frame) (meth : Method) (c : Code) (D : SD) (mi z0 y0 : Nat) (res : Option Value ⊕ Nat) (σf : SH) (X : Nat → Nat → Option Int32) (pc : Nat) : Prop :=
  ∀ (x : Nat) (σ1 : SH), x < 5 → kxc (X pc x) x σ1 = some (res, σf) → ∀ (L : SL) (H' : Heap) (locs' : List Loc) (cells slots : Nat) (ls : Array Slot) (rest : List Value) (ce : Cell) (q : Addr), lR D ls (mxOf mi) L → Rep D σ1 H' → (∀ z ∈ locs', D.1.heap.size ≤ z.base) → H'[q]? = some ce → ce.vm = .none → s.vm.findClass (eN x) = some ce.cls → z0 + cells = sZ σ1 → y0 + slots = sS σ1 →
    vx_W p l e R s m args below meth c H' locs' cells slots (EndQ D below s args res σf z0 y0) (F0 m pc ls rest) q
theorem cw_good {id : Nat} (hW : Wld l D) (hpz : pzB id = true) (hs : D.1.WarmedH s.vm) : ∀ w ∈ [cwOf id], ∀ (a' : Array Value) (U : State), s.WarmedH U.vm → w.before a' U = true := fun w hw a' U hU => by
  rw [List.mem_singleton.mp hw]
  exact wd_at hW (State.WarmedH.trans hs hU) (pz_of hpz).1
theorem cc_virtual (hW : Wld l D) (hF : Frm p R s m meth c D mi d) (hPz : ∀ id, id < 371 → pzB id = true) (hn : Sd D l nn) (hk : ∀ q, nx = some q → ∀ L st σ2, k L st σ2 = some (res, σf) → Go p l e R s m args below meth c D mi z0 y0 res σf q L st σ2) (hT : Thr p l e R s m args below meth c D mi z0 y0 res σf X pc)
    (hG : ∀ L st σ2, k L st σ2 = some (res, σf) → sZ σ2 ≤ sZ σf ∧ sS σ2 ≤ sS σf) (hRm : sZ σf ≤ z0 + R.cells ∧ sS σf ≤ y0 + R.slots) {n : Nat} (hok : okI mi pc nx pos (.invokevirtual n) = true) (h : step1 (CN nn d) X E pc (.invokevirtual n) L st σ k = some (res, σf)) : Go p l e R s m args below meth c D mi z0 y0 res σf pc L st σ := by
  have hs := hF.2.2.2.2.2.2.2.2.1
  simp only [okI] at hok
  split at hok
  · rename_i x hd
    simp only [nxIs, Bool.and_eq_true, decide_eq_true_eq] at hok
    obtain ⟨⟨⟨⟨⟨⟨⟨hnx, hid⟩, hkd⟩, hhh⟩, h14⟩, hcls⟩, hw⟩, hpar⟩ := hok
    simp only [step1] at h
    intro H locs cells slots ls r1 r2 r3 r4 r5
    obtain ⟨⟨hle, hw8, hwt⟩, h⟩ := ite_some h
    split at h
    · rename_i a as hrev
      obtain ⟨ht, h⟩ := ite_some h
      have hpz := hPz _ hid
      obtain ⟨z1, z2, z3, z4, z5, z6, z7, z8⟩ := pz_of hpz
      have hst := take_rev hrev
      have hlen : as.length + 1 = n / 10 % 10 := by
        have := congrArg List.length hrev
        rw [List.length_reverse, List.length_take, Nat.min_eq_left hle, List.length_cons] at this
        omega
      have hwd : wds (.ref a :: as) = (Value.ref a :: as).length := by
        have e1 : wds ((st.take (n / 10 % 10)).reverse) = wds (st.take (n / 10 % 10)) := by
          unfold wds
          rw [List.map_reverse, List.sum_reverse]
        rw [hrev] at e1
        rw [e1, hwt, List.length_cons, hlen]
      obtain ⟨sig, hsig, hsl⟩ : ∃ sig, parseMethodDescriptor (yOf (n / 10000)).desc = some sig ∧ sig.parameters.length + 1 = n / 10 % 10 := by
        cases hq : parseMethodDescriptor (yOf (n / 10000)).desc with
        | none => rw [hq] at hpar; cases hpar
        | some sig => rw [hq] at hpar; exact ⟨sig, rfl, Option.some.inj hpar⟩
      have hmx : (Value.ref a :: as).length ≤ mxOf (n / 10000) := by
        have := z8 sig hsig
        rw [hkd] at this
        simp only [List.length_cons]
        have h10 : (if (1 : Nat) = 0 then 0 else 1) = 1 := rfl
        omega
      have main : ∀ (res1 : Option Value ⊕ Nat) (σ1 : SH), CN nn d (n / 10000) (.ref a :: as) σ = some (res1, σ1) → sZ σ1 ≤ sZ σf ∧ sS σ1 ≤ sS σf →
          (∀ v, res1 = .inl v → k L (v.toList ++ st.drop (n / 10 % 10)) σ1 = some (res, σf)) → (∀ y, res1 = .inr y → kxc (X pc y) y σ1 = some (res, σf)) → W p l e R s m args below meth c H locs cells slots (EndQ D below s args res σf z0 y0) (F0 m pc ls (st.map (tr D))) := by
        intro res1 σ1 hc hgr k1 k2
        obtain ⟨d', hd', hx⟩ := CN_some hc
        have hM := met_of hW hn (by omega) hpz hx hwd hmx
        have hg1 := execN_gro PP nn d' (n / 10000) 0 _ [] σ _ _ hx
        have h39 : a ≠ 39 := rep_39 r1 (by omega)
        obtain ⟨cell, c1, c2, c3, c4, c5, c6⟩ := (r1.2.2.2.2.2.2 a).2.2.2.2 (n / 100 % 100) ht h14
        have hca := (classAt_moved hs.alike (hW.2.2.2.2.2.1 _ h14).1).1
        have hR1 := hF.2.2.2.2.2.2.2.2.2.1
        have hR2 := hF.2.2.2.2.2.2.2.2.2.2
        have hcw : Cond.code (yOf (n / 10000)) (bsOf (n / 10000)) (mxOf (n / 10000)) (rtOf (n / 10000)) = cwOf (n / 10000) := by unfold cwOf; rw [if_pos hhh]
        have hCB : CallB R s args (yOf mi).cls x (yOf (n / 10000)) (bsOf (n / 10000)) (mxOf (n / 10000)) (rtOf (n / 10000)) [cwOf (n / 10000)] { frames := d' + 8, cells := sZ σ1 - sZ σ, slots := sS σ1 - sS σ, locals := (d' + 1) * 200 } (sZ σ1 - sZ σ) (sS σ1 - sS σ) sig.parameters.length :=
          ⟨rfl, rfl, by show d' + 8 + 1 ≤ R.frames; omega, by show 8 + (mxOf (n / 10000) + 11) + (d' + 1) * 200 ≤ R.locals; omega, cw_good hW hpz hs, by rw [hcw]; exact List.mem_cons_self, by rw [hcw]; exact wd_at hW hs z1, wd_at hW hs z2, z3, fun sg hq => by rw [hsig] at hq; cases hq; rfl, wd_at hW hs hw⟩
        have hstk : st.map (tr D) = (as.map (tr D)).reverse ++ .ref (D.2.2.1 a) :: (st.drop (n / 10 % 10)).map (tr D) := by
          conv => lhs; rw [hst]
          rw [List.map_append, List.map_cons, tr_at h39, List.map_reverse]
        have hrun := vx_runV (p := p) (e := e) (below := below) (meth := meth) (c := c) (H := H) (locs := locs) (cells := cells) (slots := slots) (nL := mxOf mi) (cc := bsOf mi) (Ts := []) (C := cN (n / 100 % 100)) (b := D.2.2.1 a) (As := as.map (tr D)) (rest := (st.drop (n / 10 % 10)).map (tr D)) (g := F0 m pc ls (st.map (tr D)))
          ⟨hF.1, hF.2.1, hF.2.2.1, hF.2.2.2.1, fun w hw => by cases hw⟩ hM ⟨hCB, wd_at hW hs (z6 hkd).1, by rw [← hcls]; exact wd_at hW hs (z6 hkd).2⟩
          ⟨pcc_blind, ⟨cell, c1, c3, by rw [c2]; exact hca⟩, fun U hU hUw => ⟨by rw [List.map_cons, tr_at h39], State.WarmedH.trans hs hUw, by rw [hU]; exact r1⟩⟩
          rfl (by rw [List.length_map]; omega) r2.2.1 hstk (by show 2 * 0 + _ ≤ 8; rw [cat_sum hW.2.2.2.2.1]; omega) hd (by omega)
        refine W_vx r3 hrun (fun v hv H' locs' q1 q2 => ?_) (fun y hy hy5 H' locs' ce q q1 q2 q3 q4 q5 => ?_)
        · have := hk _ hnx _ _ _ (k1 v hv) H' locs' (cells + (sZ σ1 - sZ σ)) (slots + (sS σ1 - sS σ)) ls q1 r2 q2 (by omega) (by omega)
          rw [List.map_append] at this
          rw [show (v.map (tr D)).toList = v.toList.map (tr D) by cases v <;> rfl]
          exact this
        · exact hT y σ1 hy5 (k2 y hy) L H' locs' _ _ ls _ ce q r2 q1 q2 q3 q4 q5 (by omega) (by omega)
      rcases doC_some h with ⟨v, σ1, hc, hh⟩ | ⟨y, σ1, hc, hh⟩
      · exact main _ σ1 hc (hG _ _ _ hh) (fun w hw => by cases hw; exact hh) (fun y hy => by cases hy)
      · refine main _ σ1 hc ?_ (fun w hw => by cases hw) (fun z hz => by cases hz; exact hh)
        have := Gro.kxc (X pc y) y σ1 _ _ hh
        exact this
    · cases h
  · cases hok
end CC
end
section
section CD
variable {p : Program} {l : Launch} {e : Env} {R : Room} {s : State} {m : MethodId} {args : Array Value} {below : List Frame} {meth : Method} {c : Code} {D : SD} {mi d z0 y0 nn : Nat} {res : Option Value ⊕ Nat} {σf : SH}
variable {E : Nat → SL → List Value → SH → SR} {X : Nat → Nat → Option Int32} {pc pos : Nat} {nx : Option Nat} {L : SL} {st : List Value} {σ : SH} {k : SL → List Value → SH → SR}
theorem take_rev2 {st as : List Value} {n : Nat} (h : (st.take n).reverse = as) : st = as.reverse ++ st.drop n := by
  rw [← h, List.reverse_reverse, List.take_append_drop]
/-- what a call's words give, whatever its kind -/
theorem cd_facts {n kk : Nat} (hpz : pzB (n / 10000) = true) (hle : n / 10 % 10 ≤ st.length) (hwt : wds (st.take (n / 10 % 10)) = n / 10 % 10) (hkd : kk = if kdOf (n / 10000) = 0 then 0 else 1) (hpar : (parseMethodDescriptor (yOf (n / 10000)).desc).map (fun q => q.parameters.length + kk) = some (n / 10 % 10)) :
    ∃ sig, parseMethodDescriptor (yOf (n / 10000)).desc = some sig ∧ sig.parameters.length + kk = n / 10 % 10 ∧ (st.take (n / 10 % 10)).reverse.length = n / 10 % 10 ∧ wds (st.take (n / 10 % 10)).reverse = (st.take (n / 10 % 10)).reverse.length ∧ (st.take (n / 10 % 10)).reverse.length ≤ mxOf (n / 10000) := by
  obtain ⟨z1, z2, z3, z4, z5, z6, z7, z8⟩ := pz_of hpz
  have hl : (st.take (n / 10 % 10)).reverse.length = n / 10 % 10 := by
    rw [List.length_reverse, List.length_take, Nat.min_eq_left hle]
  have e1 : wds ((st.take (n / 10 % 10)).reverse) = wds (st.take (n / 10 % 10)) := by
    unfold wds
    rw [List.map_reverse, List.sum_reverse]
  cases hq : parseMethodDescriptor (yOf (n / 10000)).desc with
  | none => rw [hq] at hpar; cases hpar
  | some sig =>
    rw [hq] at hpar
    have hp : sig.parameters.length + kk = n / 10 % 10 := Option.some.inj hpar
    have h2 : sig.parameters.length + kk ≤ mxOf (n / 10000) := by rw [hkd]; exact z8 sig hq
    exact ⟨sig, rfl, hp, hl, by rw [e1, hwt, hl], by omega⟩
theorem met_ret {y : MethodName} {ws : List Cond} {rm : Room} {Pc : Array Value → State → Prop} {v : Option Value} {σ1 : SH} {mc ms : Nat} {fr : Addr → Prop} (hM : vx_Met l y ws rm Pc (Qc D (.inl v) σ1) (Xc D (.inl v) σ1) mc ms fr) : Met l y ws rm Pc (Qc D (.inl v) σ1) mc ms fr := by
  intro p e ha hc hk s m args below hf happ hP hK
  obtain ⟨n, o, h1, h2, h3, h4⟩ := hM p e ha hc hk s m args below hf happ hP hK
  refine ⟨n, o, h1, h2, h3, ?_⟩
  rcases h4 with h | ⟨q, rfl, E, ce, Lx, ⟨⟨x, hx, _⟩, _⟩, _⟩
  · exact h
  · cases hx
theorem run_of {H : Heap} {locs : List Loc} {cells slots mc ms : Nat} {g : JFrame} {rest : List Value} {Qa : State → Outcome → State → Prop} {XC : String → State → State → Prop} {fr : Addr → Prop} (h : va_Run p l e R s m args below meth c H locs cells slots mc ms g rest Qa fr) : vx_Run p l e R s m args below meth c H locs cells slots mc ms g rest Qa XC fr := fun T hT X => Or.inl (h T hT X)
theorem cd_static (hW : Wld l D) (hF : Frm p R s m meth c D mi d) (hPz : ∀ id, id < 371 → pzB id = true) (hn : Sd D l nn) (hk : ∀ q, nx = some q → ∀ L st σ2, k L st σ2 = some (res, σf) → Go p l e R s m args below meth c D mi z0 y0 res σf q L st σ2) (hT : Thr p l e R s m args below meth c D mi z0 y0 res σf X pc)
    (hG : ∀ L st σ2, k L st σ2 = some (res, σf) → sZ σ2 ≤ sZ σf ∧ sS σ2 ≤ sS σf) (hRm : sZ σf ≤ z0 + R.cells ∧ sS σf ≤ y0 + R.slots) {n : Nat} (hok : okI mi pc nx pos (.invokestatic n) = true) (h : step1 (CN nn d) X E pc (.invokestatic n) L st σ k = some (res, σf)) : Go p l e R s m args below meth c D mi z0 y0 res σf pc L st σ := by
  have hs := hF.2.2.2.2.2.2.2.2.1
  simp only [okI] at hok
  split at hok
  · rename_i x hd
    simp only [nxIs, Bool.and_eq_true, decide_eq_true_eq] at hok
    obtain ⟨⟨⟨⟨⟨hnx, hid⟩, hkd⟩, hw⟩, hpar⟩, _⟩ := hok
    simp only [step1] at h
    intro H locs cells slots ls r1 r2 r3 r4 r5
    obtain ⟨⟨hle, hw8, hwt⟩, h⟩ := ite_some h
    have hpz := hPz _ hid
    obtain ⟨z1, z2, z3, z4, z5, z6, z7, z8⟩ := pz_of hpz
    obtain ⟨sig, hsig, hsl, hal, hwd, hmx⟩ := cd_facts (kk := 0) hpz hle hwt (by rw [hkd]; rfl) hpar
    have hst := take_rev2 (st := st) (n := n / 10 % 10) rfl
    generalize hasd : (st.take (n / 10 % 10)).reverse = as at h hal hwd hmx hst
    have main : ∀ (res1 : Option Value ⊕ Nat) (σ1 : SH), CN nn d (n / 10000) as σ = some (res1, σ1) → sZ σ1 ≤ sZ σf ∧ sS σ1 ≤ sS σf →
        (∀ v, res1 = .inl v → k L (v.toList ++ st.drop (n / 10 % 10)) σ1 = some (res, σf)) → (∀ y, res1 = .inr y → kxc (X pc y) y σ1 = some (res, σf)) → W p l e R s m args below meth c H locs cells slots (EndQ D below s args res σf z0 y0) (F0 m pc ls (st.map (tr D))) := by
      intro res1 σ1 hc hgr k1 k2
      obtain ⟨d', hd', hx⟩ := CN_some hc
      have hM := met_of hW hn (by omega) hpz hx hwd hmx
      have hg1 := execN_gro PP nn d' (n / 10000) 0 _ [] σ _ _ hx
      have hR1 := hF.2.2.2.2.2.2.2.2.2.1
      have hR2 := hF.2.2.2.2.2.2.2.2.2.2
      have hstk : st.map (tr D) = (as.map (tr D)).reverse ++ (st.drop (n / 10 % 10)).map (tr D) := by
        conv => lhs; rw [hst]
        rw [List.map_append, List.map_reverse]
      have hfix : CallFix p m c (bsOf mi) (mxOf mi) s args [] (yOf mi).cls := ⟨hF.1, hF.2.1, hF.2.2.1, hF.2.2.2.1, fun w hw => by cases hw⟩
      have hpre : PreS s H (Pcc D as σ) (as.map (tr D)) := ⟨pcc_blind, fun U hU hUw => ⟨rfl, State.WarmedH.trans hs hUw, by rw [hU]; exact r1⟩⟩
      have hrun : vx_Run p l e R s m args below meth c H locs cells slots (sZ σ1 - sZ σ) (sS σ1 - sS σ) (F0 m pc ls (st.map (tr D))) ((st.drop (n / 10 % 10)).map (tr D)) (Qc D res1 σ1 (as.map (tr D)).toArray) (Xc D res1 σ1) (Fr0 D) := by
        by_cases hhh : hhOf (n / 10000) = []
        · have hcw : Cond.code (yOf (n / 10000)) (bsOf (n / 10000)) (mxOf (n / 10000)) (rtOf (n / 10000)) = cwOf (n / 10000) := by unfold cwOf; rw [if_pos hhh]
          have hCB : CallB R s args (yOf mi).cls x (yOf (n / 10000)) (bsOf (n / 10000)) (mxOf (n / 10000)) (rtOf (n / 10000)) [cwOf (n / 10000)] { frames := d' + 8, cells := sZ σ1 - sZ σ, slots := sS σ1 - sS σ, locals := (d' + 1) * 200 } (sZ σ1 - sZ σ) (sS σ1 - sS σ) sig.parameters.length :=
            ⟨rfl, rfl, by show d' + 8 + 1 ≤ R.frames; omega, by show 8 + (mxOf (n / 10000) + 11) + (d' + 1) * 200 ≤ R.locals; omega, cw_good hW hpz hs, by rw [hcw]; exact List.mem_cons_self, by rw [hcw]; exact wd_at hW hs z1, wd_at hW hs z2, z3, fun sg hq => by rw [hsig] at hq; cases hq; rfl, wd_at hW hs hw⟩
          exact vx_runS hfix hM ⟨hCB, wd_at hW hs (z5 hkd)⟩ hpre rfl (by rw [List.length_map]; omega) r2.2.1 hstk (by show 2 * 0 + _ ≤ 8; rw [cat_sum hW.2.2.2.2.1]; omega) hd (by omega)
        · have hcw : Cond.codeWith (yOf (n / 10000)) (bsOf (n / 10000)) (mxOf (n / 10000)) (rtOf (n / 10000)) (hhOf (n / 10000)) = cwOf (n / 10000) := by unfold cwOf; rw [if_neg hhh]
          have hCB : vx_CSW R s args (yOf mi).cls x (yOf (n / 10000)) (bsOf (n / 10000)) (mxOf (n / 10000)) (rtOf (n / 10000)) (hhOf (n / 10000)) [cwOf (n / 10000)] { frames := d' + 8, cells := sZ σ1 - sZ σ, slots := sS σ1 - sS σ, locals := (d' + 1) * 200 } (sZ σ1 - sZ σ) (sS σ1 - sS σ) sig.parameters.length :=
            ⟨⟨rfl, rfl, by show d' + 8 + 1 ≤ R.frames; omega, by show 8 + (mxOf (n / 10000) + 11) + (d' + 1) * 200 ≤ R.locals; omega, cw_good hW hpz hs, by rw [hcw]; exact List.mem_cons_self⟩, by rw [hcw]; exact wd_at hW hs z1, wd_at hW hs z2, z3, fun sg hq => by rw [hsig] at hq; cases hq; rfl, wd_at hW hs hw, wd_at hW hs (z5 hkd)⟩
          exact vx_runSX hfix hM hCB hpre rfl (by rw [List.length_map]; omega) r2.2.1 hstk (by show 2 * 0 + _ ≤ 8; rw [cat_sum hW.2.2.2.2.1]; omega) hd (by omega)
      refine W_vx r3 hrun (fun v hv H' locs' q1 q2 => ?_) (fun y hy hy5 H' locs' ce q q1 q2 q3 q4 q5 => ?_)
      · have := hk _ hnx _ _ _ (k1 v hv) H' locs' (cells + (sZ σ1 - sZ σ)) (slots + (sS σ1 - sS σ)) ls q1 r2 q2 (by omega) (by omega)
        rw [List.map_append] at this
        rw [show (v.map (tr D)).toList = v.toList.map (tr D) by cases v <;> rfl]
        exact this
      · exact hT y σ1 hy5 (k2 y hy) L H' locs' _ _ ls _ ce q r2 q1 q2 q3 q4 q5 (by omega) (by omega)
    rcases doC_some h with ⟨v, σ1, hc, hh⟩ | ⟨y, σ1, hc, hh⟩
    · exact main _ σ1 hc (hG _ _ _ hh) (fun w hw => by cases hw; exact hh) (fun y hy => by cases hy)
    · refine main _ σ1 hc ?_ (fun w hw => by cases hw) (fun z hz => by cases hz; exact hh)
      have := Gro.kxc (X pc y) y σ1 _ _ hh
      exact this
  · cases hok
theorem cd_nest (hW : Wld l D) (hF : Frm p R s m meth c D mi d) (hPz : ∀ id, id < 371 → pzB id = true) (hn : Sd D l nn) (hk : ∀ q, nx = some q → ∀ L st σ2, k L st σ2 = some (res, σf) → Go p l e R s m args below meth c D mi z0 y0 res σf q L st σ2)
    (hG : ∀ L st σ2, k L st σ2 = some (res, σf) → sZ σ2 ≤ sZ σf ∧ sS σ2 ≤ sS σf) (hRm : sZ σf ≤ z0 + R.cells ∧ sS σf ≤ y0 + R.slots) {n : Nat} (hok : okI mi pc nx pos (.invokedynamic n) = true) (h : step1 (CN nn d) X E pc (.invokedynamic n) L st σ k = some (res, σf)) : Go p l e R s m args below meth c D mi z0 y0 res σf pc L st σ := by
  have hs := hF.2.2.2.2.2.2.2.2.1
  simp only [okI] at hok
  split at hok
  · rename_i x hd
    simp only [nxIs, Bool.and_eq_true, decide_eq_true_eq] at hok
    obtain ⟨⟨⟨⟨⟨hnx, hid⟩, hkd⟩, hhh⟩, hw⟩, hpar⟩ := hok
    simp only [step1] at h
    intro H locs cells slots ls r1 r2 r3 r4 r5
    obtain ⟨⟨hle, hw8, hwt⟩, h⟩ := ite_some h
    have hpz := hPz _ hid
    obtain ⟨z1, z2, z3, z4, z5, z6, z7, z8⟩ := pz_of hpz
    obtain ⟨sig, hsig, hsl, hal, hwd, hmx⟩ := cd_facts (kk := 0) hpz hle hwt (by rw [hkd]; rfl) hpar
    have hst := take_rev2 (st := st) (n := n / 10 % 10) rfl
    generalize hasd : (st.take (n / 10 % 10)).reverse = as at h hal hwd hmx hst
    rcases doC_some h with ⟨v, σ1, hc, hh⟩ | ⟨y, σ1, hc, hh⟩
    · obtain ⟨d', hd', hx⟩ := CN_some hc
      have hgr := hG _ _ _ hh
      have hM := met_ret (met_of hW hn (by omega) hpz hx hwd hmx)
      have hg1 := execN_gro PP nn d' (n / 10000) 0 _ [] σ _ _ hx
      have hR1 := hF.2.2.2.2.2.2.2.2.2.1
      have hR2 := hF.2.2.2.2.2.2.2.2.2.2
      have hstk : st.map (tr D) = (as.map (tr D)).reverse ++ (st.drop (n / 10 % 10)).map (tr D) := by
        conv => lhs; rw [hst]
        rw [List.map_append, List.map_reverse]
      have hfix : CallFix p m c (bsOf mi) (mxOf mi) s args [] (yOf mi).cls := ⟨hF.1, hF.2.1, hF.2.2.1, hF.2.2.2.1, fun w hw => by cases hw⟩
      have hpre : PreS s H (Pcc D as σ) (as.map (tr D)) := ⟨pcc_blind, fun U hU hUw => ⟨rfl, State.WarmedH.trans hs hUw, by rw [hU]; exact r1⟩⟩
      have hcw : Cond.code (yOf (n / 10000)) (bsOf (n / 10000)) (mxOf (n / 10000)) (rtOf (n / 10000)) = cwOf (n / 10000) := by unfold cwOf; rw [if_pos hhh]
      have hCN : va_CN R s args (yOf mi).cls x (yOf (n / 10000)) "ArchEnds" (bsOf (n / 10000)) (mxOf (n / 10000)) (rtOf (n / 10000)) [cwOf (n / 10000)] { frames := d' + 8, cells := sZ σ1 - sZ σ, slots := sS σ1 - sS σ, locals := (d' + 1) * 200 } (sZ σ1 - sZ σ) (sS σ1 - sS σ) sig.parameters.length :=
        ⟨⟨rfl, rfl, by show d' + 8 + 1 ≤ R.frames; omega, by show 8 + (mxOf (n / 10000) + 11) + (d' + 1) * 200 ≤ R.locals; omega, cw_good hW hpz hs, by rw [hcw]; exact List.mem_cons_self⟩, by rw [hcw]; exact wd_at hW hs z1, wd_at hW hs z2, z3, fun sg hq => by rw [hsig] at hq; cases hq; rfl, va_Nw.use rfl (va_Nw.warmM hs (se_nest hW rfl hw))⟩
      have hrun := va_runSN (p := p) (e := e) (below := below) (meth := meth) (H := H) (locs := locs) (cells := cells) (slots := slots) (rest := (st.drop (n / 10 % 10)).map (tr D)) (g := F0 m pc ls (st.map (tr D))) hfix hM ⟨hCN, wd_at hW hs (z5 hkd), trivial⟩ hpre rfl (by rw [List.length_map]; omega) r2.2.1 hstk (by show 2 * 0 + _ ≤ 8; rw [cat_sum hW.2.2.2.2.1]; omega) hd (by omega)
      refine W_vx (res1 := .inl v) (σ1 := σ1) r3 (run_of hrun) (fun w hv H' locs' q1 q2 => ?_) (fun y hy hy5 H' locs' ce q q1 q2 q3 q4 q5 => by cases hy)
      cases hv
      have := hk _ hnx _ _ _ hh H' locs' (cells + (sZ σ1 - sZ σ)) (slots + (sS σ1 - sS σ)) ls q1 r2 q2 (by omega) (by omega)
      rw [List.map_append] at this
      rw [show (v.map (tr D)).toList = v.toList.map (tr D) by cases v <;> rfl]
      exact this
    · cases hh
  · cases hok
theorem cd_special (hW : Wld l D) (hF : Frm p R s m meth c D mi d) (hPz : ∀ id, id < 371 → pzB id = true) (hn : Sd D l nn) (hk : ∀ q, nx = some q → ∀ L st σ2, k L st σ2 = some (res, σf) → Go p l e R s m args below meth c D mi z0 y0 res σf q L st σ2)
    (hG : ∀ L st σ2, k L st σ2 = some (res, σf) → sZ σ2 ≤ sZ σf ∧ sS σ2 ≤ sS σf) (hRm : sZ σf ≤ z0 + R.cells ∧ sS σf ≤ y0 + R.slots) {n : Nat} (hok : okI mi pc nx pos (.invokespecial n) = true) (h : step1 (CN nn d) X E pc (.invokespecial n) L st σ k = some (res, σf)) : Go p l e R s m args below meth c D mi z0 y0 res σf pc L st σ := by
  have hs := hF.2.2.2.2.2.2.2.2.1
  simp only [okI] at hok
  split at hok
  · rename_i x hd
    simp only [nxIs, Bool.and_eq_true, decide_eq_true_eq, Bool.or_eq_true] at hok
    obtain ⟨⟨⟨⟨⟨⟨hnx, hid⟩, hkd⟩, hhh⟩, _⟩, hw⟩, hpar⟩ := hok
    simp only [step1] at h
    intro H locs cells slots ls r1 r2 r3 r4 r5
    obtain ⟨⟨hle, hw8, hwt⟩, h⟩ := ite_some h
    have hpz := hPz _ hid
    obtain ⟨z1, z2, z3, z4, z5, z6, z7, z8⟩ := pz_of hpz
    obtain ⟨z7a, z7b, z7c⟩ := z7 hkd
    obtain ⟨sig, hsig, hsl, hal, hwd, hmx⟩ := cd_facts (kk := 1) hpz hle hwt (by rw [hkd]; rfl) hpar
    split at h
    · rename_i a as hrev
      split at h
      · cases h
      · rename_i h39
        rw [hrev] at hal hwd hmx
        rw [List.length_cons] at hal
        have hst := take_rev hrev
        rcases doC_some h with ⟨v, σ1, hc, hh⟩ | ⟨y, σ1, hc, hh⟩
        · obtain ⟨d', hd', hx⟩ := CN_some hc
          have hgr := hG _ _ _ hh
          have hM := met_ret (met_of hW hn (by omega) hpz hx hwd hmx)
          have hg1 := execN_gro PP nn d' (n / 10000) 0 _ [] σ _ _ hx
          have hR1 := hF.2.2.2.2.2.2.2.2.2.1
          have hR2 := hF.2.2.2.2.2.2.2.2.2.2
          have hstk : st.map (tr D) = (as.map (tr D)).reverse ++ .ref (D.2.2.1 a) :: (st.drop (n / 10 % 10)).map (tr D) := by
            conv => lhs; rw [hst]
            rw [List.map_append, List.map_cons, tr_at h39, List.map_reverse]
          have hfix : CallFix p m c (bsOf mi) (mxOf mi) s args [] (yOf mi).cls := ⟨hF.1, hF.2.1, hF.2.2.1, hF.2.2.2.1, fun w hw => by cases hw⟩
          have hpre : PreS s H (Pcc D (.ref a :: as) σ) (.ref (D.2.2.1 a) :: as.map (tr D)) := ⟨pcc_blind, fun U hU hUw => ⟨by rw [List.map_cons, tr_at h39], State.WarmedH.trans hs hUw, by rw [hU]; exact r1⟩⟩
          have hcw : Cond.code (yOf (n / 10000)) (bsOf (n / 10000)) (mxOf (n / 10000)) none = cwOf (n / 10000) := by unfold cwOf; rw [if_pos hhh, z7c]
          have hfr : d' + 8 + 1 ≤ R.frames := by omega
          have hlo : 8 + (mxOf (n / 10000) + 11) + (d' + 1) * 200 ≤ R.locals := by omega
          have hrun : va_Run p l e R s m args below meth c H locs cells slots (sZ σ1 - sZ σ) (sS σ1 - sS σ) (F0 m pc ls (st.map (tr D))) ((st.drop (n / 10 % 10)).map (tr D)) (Qc D (.inl v) σ1 (Value.ref (D.2.2.1 a) :: as.map (tr D)).toArray) (Fr0 D) := by
            rcases hw with hw | hw
            · have hCB : CallB R s args (yOf mi).cls x (yOf (n / 10000)) (bsOf (n / 10000)) (mxOf (n / 10000)) none [cwOf (n / 10000)] { frames := d' + 8, cells := sZ σ1 - sZ σ, slots := sS σ1 - sS σ, locals := (d' + 1) * 200 } (sZ σ1 - sZ σ) (sS σ1 - sS σ) sig.parameters.length :=
                ⟨rfl, rfl, hfr, hlo, cw_good hW hpz hs, by rw [hcw]; exact List.mem_cons_self, by rw [hcw]; exact wd_at hW hs z1, wd_at hW hs z2, z3, fun sg hq => by rw [hsig] at hq; cases hq; rfl, wd_at hW hs hw⟩
              exact va_runI hfix hM ⟨hCB, z7b, wd_at hW hs z7a⟩ hpre rfl (by rw [List.length_map]; omega) r2.2.1 hstk (by show 2 * 0 + _ ≤ 8; rw [cat_sum hW.2.2.2.2.1]; omega) hd (by omega)
            · have hCN : va_CN R s args (yOf mi).cls x (yOf (n / 10000)) "ArchEnds" (bsOf (n / 10000)) (mxOf (n / 10000)) none [cwOf (n / 10000)] { frames := d' + 8, cells := sZ σ1 - sZ σ, slots := sS σ1 - sS σ, locals := (d' + 1) * 200 } (sZ σ1 - sZ σ) (sS σ1 - sS σ) sig.parameters.length :=
                ⟨⟨rfl, rfl, hfr, hlo, cw_good hW hpz hs, by rw [hcw]; exact List.mem_cons_self⟩, by rw [hcw]; exact wd_at hW hs z1, wd_at hW hs z2, z3, fun sg hq => by rw [hsig] at hq; cases hq; rfl, va_Nw.use rfl (va_Nw.warmM hs (se_nest hW rfl hw))⟩
              exact va_runIN hfix hM ⟨hCN, z7b, wd_at hW hs z7a⟩ hpre rfl (by rw [List.length_map]; omega) r2.2.1 hstk (by show 2 * 0 + _ ≤ 8; rw [cat_sum hW.2.2.2.2.1]; omega) hd (by omega)
          refine W_vx (res1 := .inl v) (σ1 := σ1) r3 (run_of hrun) (fun w hv H' locs' q1 q2 => ?_) (fun y hy hy5 H' locs' ce q q1 q2 q3 q4 q5 => by cases hy)
          cases hv
          have := hk _ hnx _ _ _ hh H' locs' (cells + (sZ σ1 - sZ σ)) (slots + (sS σ1 - sS σ)) ls q1 r2 q2 (by omega) (by omega)
          rw [List.map_append] at this
          rw [show (v.map (tr D)).toList = v.toList.map (tr D) by cases v <;> rfl]
          exact this
        · cases hh
    · cases h
  · cases hok
end CD
end
section
/-! arraycopy -/
section TH
variable {p : Program} {l : Launch} {e : Env} {R : Room} {s : State} {m : MethodId} {args : Array Value} {below : List Frame} {meth : Method} {c : Code} {D : SD} {mi d z0 y0 nn : Nat} {res : Option Value ⊕ Nat} {σf : SH}
variable {C : Nat → List Value → SH → SR} {E : Nat → SL → List Value → SH → SR} {X : Nat → Nat → Option Int32} {pc pos : Nat} {nx : Option Nat} {L : SL} {st : List Value} {σ : SH} {k : SL → List Value → SH → SR}
theorem cp_ok : (lw_tbl.contains (.native arraycopyName) && goodWord (.native arraycopyName) && lw_tbl.contains (.static arraycopyName) && goodWord (.static arraycopyName) && lw_tbl.contains (.initialized "java/lang/System") && goodWord (.initialized "java/lang/System")) = true := by decide +kernel
theorem nn_int {z : Int32} (hz : ¬ z < 0) : z.toInt = ((z.toNatClampNeg : Nat) : Int) := by
  have hz0 : (0 : Int) ≤ z.toInt := by
    have := Int32.not_lt.mp hz
    simpa using Int32.le_iff_toInt_le.mp this
  show z.toInt = ((z.toInt.toNat : Nat) : Int)
  omega
theorem th_copy (hW : Wld l D) (hF : Frm p R s m meth c D mi d) (hk : ∀ q, nx = some q → ∀ L st σ2, k L st σ2 = some (res, σf) → Go p l e R s m args below meth c D mi z0 y0 res σf q L st σ2) (hok : okI mi pc nx pos .monitorenter = true) (h : step1 C X E pc .monitorenter L st σ k = some (res, σf)) : Go p l e R s m args below meth c D mi z0 y0 res σf pc L st σ := by
  have hs := hF.2.2.2.2.2.2.2.2.1
  simp only [okI] at hok
  split at hok
  · rename_i x hd
    simp only [nxIs, Bool.and_eq_true, decide_eq_true_eq] at hok
    simp only [step1] at h
    intro H locs cells slots ls r1 r2 r3 r4 r5
    split at h
    · rename_i n q w sp v st'
      obtain ⟨hw8, h⟩ := ite_some h
      obtain ⟨a, ev, h2⟩ := aRef_some h
      obtain ⟨b, ew, h3⟩ := aRef_some h2
      obtain ⟨⟨ta, tb, hab, hp0, hq0, hn0, hpa, hqb⟩, h4⟩ := ite_some h3
      clear h h2 h3
      subst ev
      subst ew
      obtain ⟨hb2, hbz⟩ := rep_at r1 (a := b) (by omega) (by omega) (by omega) (by omega) (by omega) (by omega)
      obtain ⟨cs, s1, s2, s3, s4, s5⟩ := (r1.2.2.2.2.2.2 a).1 (Or.inl ta)
      obtain ⟨cd, d1, d2, d3, d4, d5⟩ := (r1.2.2.2.2.2.2 b).1 (Or.inl tb)
      have ho := cp_ok
      simp only [Bool.and_eq_true] at ho
      have w1 := lg_at (s := s) (args := args) hW hs _ (List.mem_filter.mpr ⟨List.contains_iff_mem.mp ho.1.1.1.1.1, ho.1.1.1.1.2⟩)
      have w2 := lg_at (s := s) (args := args) hW hs _ (List.mem_filter.mpr ⟨List.contains_iff_mem.mp ho.1.1.1.2, ho.1.1.2⟩)
      have w3 := lg_at (s := s) (args := args) hW hs _ (List.mem_filter.mpr ⟨List.contains_iff_mem.mp ho.1.2, ho.2⟩)
      rw [List.map_cons, List.map_cons, List.map_cons, List.map_cons, List.map_cons, tr_at (rep_39 r1 (a := a) (by omega)), tr_at (rep_39 r1 (a := b) (by omega))]
      obtain ⟨sv, ks, sk1, scomp, sk2⟩ := State.isArrayOf_alike hs.alike s2
      obtain ⟨dv, kd, dk1, dcomp, dk2⟩ := State.isArrayOf_alike hs.alike d2
      intro T hT XX
      have hR1 := hF.2.2.2.2.2.2.2.2.2.1
      have hR2 := hF.2.2.2.2.2.2.2.2.2.2
      have esp := nn_int hp0
      have edp := nn_int hq0
      have en := nn_int hn0
      have hget : ∀ i, i < n.toNatClampNeg → cs.slots.getD (sp.toNatClampNeg + i) .null = .int (sI σ a (sp.toNatClampNeg + i)) := fun i hi => by
        rw [Array.getD_eq_getD_getElem?, s5 _ (by omega)]
        rfl
      obtain ⟨vm', X', step⟩ := XX.arraycopy hF.1 hF.2.2.2.1 (wd_at hW hs hok.2) w1 w2 w3 (src := D.2.2.1 a) (dst := D.2.2.1 b) (cs := cs) (cd := cd) (srcPos := sp) (destPos := q) (n := n) (by rw [hT]; exact s1) (by rw [hT]; exact d1) sv dv s3 d3 sk1 dk1 sk2 dk2 rfl hp0 hq0 hn0
        (by rw [esp, en, s4]; omega) (by rw [edp, en, d4]; omega) (fun vm1 _ i hi => by rw [hget i hi]; exact ⟨rfl, trivial⟩)
        (g := F0 m pc ls (.int n :: .int q :: .ref (D.2.2.1 b) :: .int sp :: .ref (D.2.2.1 a) :: st'.map (tr D))) rfl (by rw [hF.2.2.1]; exact r2.2.1) (rest := st'.map (tr D)) rfl (by rw [hF.2.1]; exact hd) (by omega) (by
          show 2 * 0 + _ + (nativeFrameWords "java/lang/System" "arraycopy" 5 + 11) ≤ R.locals
          rw [cat_sum hW.2.2.2.2.1]
          have : nativeFrameWords "java/lang/System" "arraycopy" 5 ≤ 100 := by decide
          omega)
      have hcl : (cs.stretch sp.toNatClampNeg n.toNatClampNeg).length = n.toNatClampNeg := Cell.stretch_length _ _ _
      have hfacts := cd.storeRun_facts q.toNatClampNeg (cs.stretch sp.toNatClampNeg n.toNatClampNeg)
      have hlt : D.2.2.1 b < H.size := (Array.getElem?_eq_some_iff.mp d1).1
      have hHb : (H.setIfInBounds (D.2.2.1 b) (copied cs cd sp q n))[D.2.2.1 b]? = some (copied cs cd sp q n) := Array.getElem?_setIfInBounds_self_of_lt hlt
      have hokc : okC D (cpI σ a sp.toNatClampNeg b q.toNatClampNeg n.toNatClampNeg) (H.setIfInBounds (D.2.2.1 b) (copied cs cd sp q n)) b := by
        refine okC_int tb ⟨copied cs cd sp q n, hHb, ⟨?_, ?_⟩, ?_, ?_, fun j hj => ?_⟩
        · intro z; rw [show (copied cs cd sp q n).vm = cd.vm from hfacts.2.1]; exact d2.1 z
        · rw [show (copied cs cd sp q n).cls = cd.cls from hfacts.1]; exact d2.2
        · rw [show (copied cs cd sp q n).vm = cd.vm from hfacts.2.1]; exact d3
        · rw [show (copied cs cd sp q n).slots.size = cd.slots.size from hfacts.2.2.1]; exact d4
        · have hj' : j < sN σ b := hj
          rw [show (copied cs cd sp q n).slots[j]? = _ from cd.storeRun_get q.toNatClampNeg (cs.stretch sp.toNatClampNeg n.toNatClampNeg) j (by rw [hcl, d4]; exact hqb), hcl]
          by_cases hin : q.toNatClampNeg ≤ j ∧ j < q.toNatClampNeg + n.toNatClampNeg
          · rw [if_pos hin, show sI (cpI σ a sp.toNatClampNeg b q.toNatClampNeg n.toNatClampNeg) b j = sI σ a (sp.toNatClampNeg + (j - q.toNatClampNeg)) from if_pos ⟨rfl, hin⟩]
            unfold Cell.stretch
            rw [List.getElem?_map, List.getElem?_range (by omega)]
            show some (cs.slots.getD (sp.toNatClampNeg + (j - q.toNatClampNeg)) .null) = _
            rw [hget _ (by omega)]
          · rw [if_neg hin, show sI (cpI σ a sp.toNatClampNeg b q.toNatClampNeg n.toNatClampNeg) b j = sI σ b j from if_neg (fun z => hin z.2)]
            exact d5 j hj'
      have hrep : Rep D (cpI σ a sp.toNatClampNeg b q.toNatClampNeg n.toNatClampNeg) (H.setIfInBounds (D.2.2.1 b) (copied cs cd sp q n)) := rep_write (a := b) hW r1 hb2 (fun _ => rfl) (fun _ => rfl) rfl (fun z j hz => if_neg (fun y => hz y.1)) (fun _ _ _ => rfl) (fun _ _ _ => rfl) (by simp) (fun z hz => Array.getElem?_setIfInBounds_ne (fun y => hz y.symm)) hokc
      obtain ⟨t2, a1, b1⟩ := hk _ hok.1 _ _ _ h4 _ _ cells slots ls hrep r2 (fun z hz => by
        rcases List.mem_append.mp hz with y | y
        · exact r3 z y
        · obtain ⟨u, _, rfl⟩ := List.mem_map.mp y
          show D.1.heap.size ≤ D.2.2.1 b
          rw [hW.2.2.1 b hb2]
          exact Nat.le_add_right _ _) r4 r5 ((T.setVm vm').setCell (D.2.2.1 b) (copied cs cd sp q n)) (by rw [← hT]; rfl) X'
      exact ⟨t2, step t2 a1, b1⟩
    · cases h
  · cases hok
end TH
end
section
/-! 'throw new E(text)', E one of five classes whose constructor hands its text on: the first by a place of its own in its class's pool, the others by 7 -/
def tx_b (X : String) (ix : Nat) (rx : ByteArray) (Y : String) (r : List String) : List Cond :=
  Bundle.throwableAtoms ++ (Bundle.throwableSAtoms ++ (Bundle.passSAtoms X Y ix rx ++ (Bundle.chainSAtoms Y r ++
  [.instantiable X 6, .selects X Bundle.tFill0 Bundle.tFill0, .selects X Bundle.tFill Bundle.tFill,
   .lays X Bundle.tN "cause" "Ljava/lang/Throwable;", .lays X Bundle.tN "stackTrace" Bundle.steD, .lays X Bundle.tN "suppressedExceptions" Bundle.listD, .lays X Bundle.tN "detailMessage" "Ljava/lang/String;",
   .isRef (.static Bundle.tN "UNASSIGNED_STACK" Bundle.steD), .isRef (.static Bundle.tN "SUPPRESSED_SENTINEL" Bundle.listD),
   .fieldLink Bundle.tN 198 Bundle.tN "backtrace" "Ljava/lang/Object;", .lays Bundle.tN Bundle.tN "backtrace" "Ljava/lang/Object;", .lays X Bundle.tN "backtrace" "Ljava/lang/Object;"])))
def tx_at (own : String) (ic : Nat) (X : String) (ix : Nat) (rx : ByteArray) (Y : String) (r : List String) : List Cond := .methodLink own ic (Bundle.initS X) :: tx_b X ix rx Y r
def sx : ByteArray := ⟨#[0x2a, 0x2b, 0xb7, 0x00, 0x0d, 0xb1]⟩
def ixOf (x : Nat) : Nat := if x = 3 then 13 else 7
def rxOf (x : Nat) : ByteArray := if x = 3 then sx else Bundle.six
def tx_w (x : Nat) : List Cond := (tx_b (eN x) (ixOf x) (rxOf x) "java/lang/RuntimeException" ["java/lang/Exception"]).filter vx_no
/-- a good word, or one of a declared method -/
def gdW (w : Cond) : Bool := match w with
  | .declares _ => true
  | w => goodWord w
theorem gd_at {l : Launch} {D : SD} {s : State} {args : Array Value} {w : Cond} (hW : Wld l D) (hs : D.1.WarmedH s.vm) (hm : w ∈ lw_tbl) (hg : gdW w = true) : w.before args s = true := by
  have h := hW.2.1 w hm
  unfold gdW at hg
  split at hg
  · exact va_Nw.use rfl (va_Nw.warmD hs (va_Nw.of rfl h))
  · exact word_at hs (good_of_word hg) h
theorem tx_0 : (tx_w 0).all (fun w => lw_tbl.contains w && gdW w) = true := by decide +kernel
theorem tx_1 : (tx_w 1).all (fun w => lw_tbl.contains w && gdW w) = true := by decide +kernel
theorem tx_2 : (tx_w 2).all (fun w => lw_tbl.contains w && gdW w) = true := by decide +kernel
theorem tx_3 : (tx_w 3).all (fun w => lw_tbl.contains w && gdW w) = true := by decide +kernel
theorem tx_4 : (tx_w 4).all (fun w => lw_tbl.contains w && gdW w) = true := by decide +kernel
theorem tx_all {l : Launch} {D : SD} {s : State} {args : Array Value} {x : Nat} (hW : Wld l D) (hs : D.1.WarmedH s.vm) (hx : x < 5) : ∀ w ∈ tx_w x, w.before args s = true := by
  have go : (tx_w x).all (fun w => lw_tbl.contains w && gdW w) = true := by
    match x, hx with
    | 0, _ => exact tx_0
    | 1, _ => exact tx_1
    | 2, _ => exact tx_2
    | 3, _ => exact tx_3
    | 4, _ => exact tx_4
  intro w hw
  have h := List.all_eq_true.mp go w hw
  rw [Bool.and_eq_true] at h
  exact gd_at hW hs (List.contains_iff_mem.mp h.1) h.2
end
section
section TX
variable {p : Program} {l : Launch} {e : Env} {R : Room} {s : State} {m : MethodId} {args : Array Value} {below : List Frame} {meth : Method} {c : Code} {locs : List Loc} {cells slots : Nat}
set_option maxHeartbeats 2000000 in
theorem tx_ctor {V : State} (X : Stand p l e R s m args below meth c V [] cells slots) (hexec : p.tables.exec = Jvm.exec) (htr : e.platform.stackTraces = false) {own cls Y : String} {r : List String} {ic ix : Nat} {rx : ByteArray}
    (x0 : decode rx 0 = .ok (.aload_n 0, 1)) (x1 : decode rx 1 = .ok (.aload_n 1, 1)) (x2 : decode rx 2 = .ok (.invokespecial ix, 3)) (x5 : decode rx 5 = .ok (.return_, 1))
    (hown : s.vm.findClass own = some m.cls) (hcls : Bundle.fit cls = true) (hY : Bundle.fit Y = true) (hr : ∀ n ∈ r, Bundle.fit n = true) (h : ∀ a ∈ tx_at own ic cls ix rx Y r, a.before args s = true)
    {a : Addr} {cX : ClassId} {kX : Class} (hfX : s.vm.findClass cls = some cX) (hkX : s.vm.classes[cX]? = some kX) (hcell : V.heap[a]? = some (freshCell cX kX)) (hnew : s.heap.size ≤ a) {msg : Value} (hmsg : msg.isRef = true)
    {g : JFrame} (hg : g.method = m) (hsize : g.locals.size = c.maxLocals) (hlocked : g.locked = none) (hentered : g.entered = []) {rest : List Value} (hstack : g.stack = msg :: .ref a :: .ref a :: rest)
    (hd6 : decode c.code g.pc = .ok (.invokespecial ic, 3)) (hd9 : decode c.code (g.pc + 3) = .ok (.athrow, 1)) (hout : ∀ x ∈ c.exceptionTable.toList, covers x (g.pc + 3) = false)
    (hRf : r.length + 4 < R.frames) (hRl : 2 * g.monitorRoom + ((Value.ref a :: rest).map fun v => v.category).sum + (13 * (r.length + 2) + 42) ≤ R.locals) (hlocks : meth.locks = false) :
    ∃ U : State, Steps p.tables e below (V.setTop g) U ∧ U.status = .running ∧ Ended U below (.threw a) ∧ s.WarmedH U.vm ∧ s.sameButNew ({ U with vm := s.vm } : State) [] cells slots ∧ U.heap.size = V.heap.size ∧ ∃ ce, U.heap[a]? = some ce ∧ ce.vm = .none ∧ s.vm.findClass cls = some ce.cls := by
  have hpl : e.platform.magicAccessors = ({} : Platform).magicAccessors := by rw [X.admits.platform]
  have mem : ∀ w, w ∈ tx_at own ic cls ix rx Y r → w.before args s = true := h
  obtain ⟨T, Z0, L, -, Y0⟩ := ThrowableC.of_atoms (args := args) (by rw [X.admits.platform] : e.platform.frameOwnsMonitors = true) (by rw [X.admits.platform] : e.platform.finalization = false) hpl (fun x hx => h x (by simp [tx_at, tx_b, hx]))
  obtain ⟨Z, M, LZ, LM, hnZ⟩ := Init0T.ofS_atoms (args := args) hpl L Y0 (fun x hx => h x (by simp [tx_at, tx_b, hx]))
  obtain ⟨P1, L1, hP1m, hP1s⟩ := PassC.ofS_atoms (args := args) (s := s) hpl (X := cls) (Y := Y) (Bundle.fit_spec hcls).1 (Bundle.fit_spec hY).2 x0 x1 x2 x5 (fun x hx => h x (by simp [tx_at, tx_b, hx]))
  obtain ⟨P2, Ps, hlen, L2, hL, hP2m, hlink2, hlink⟩ := Bundle.chainS (args := args) hpl hnZ r Y hY hr (fun x hx => h x (by simp [tx_at, tx_b, hx]))
  have hP12 : P1.sup = P2.m := Option.some.inj (hP1s.symm.trans hP2m)
  have hfound : s.vm.findClass cls = some P1.m.cls := findClass_of_methodNamed hP1m
  cases Option.some.inj (hfX.symm.trans hfound)
  obtain ⟨c1, kX', hc1, hk, hord, -, -, hn6⟩ := Cond.instantiable_spec (mem (.instantiable cls 6) (by simp [tx_at, tx_b]))
  cases Option.some.inj (hc1.symm.trans hfound)
  cases Option.some.inj (hkX.symm.trans hk)
  have hsel0 : selectMethod e.platform s.vm P1.m.cls T.fill0 = .method T.fill0 := by
    obtain ⟨c2, r2, m2, q1, q2, q3, q4, -⟩ := Cond.selects_spec (mem (.selects cls Bundle.tFill0 Bundle.tFill0) (by simp [tx_at, tx_b]))
    cases Option.some.inj (q1.symm.trans hfound)
    cases Option.some.inj (q2.symm.trans (State.methodFound?_of_named Y0.fill0 (by decide)))
    cases Option.some.inj (q3.symm.trans Y0.fill0)
    rw [Launch.admits_selectMethod X.admits]; exact q4
  have hselF : selectMethod e.platform s.vm P1.m.cls T.fill = .method T.fill := by
    obtain ⟨c2, r2, m2, q1, q2, q3, q4, -⟩ := Cond.selects_spec (mem (.selects cls Bundle.tFill Bundle.tFill) (by simp [tx_at, tx_b]))
    cases Option.some.inj (q1.symm.trans hfound)
    cases Option.some.inj (q2.symm.trans (State.methodFound?_of_named Y0.fill (by decide)))
    cases Option.some.inj (q3.symm.trans Y0.fill)
    rw [Launch.admits_selectMethod X.admits]; exact q4
  obtain ⟨cS0, hcS0, hiss⟩ := Y0.statics
  obtain ⟨u0, hu0⟩ := Cond.staticRefV Y0.unassigned L.unassignedStatic L.statics hcS0 hiss (mem (.isRef (.static Bundle.tN "UNASSIGNED_STACK" Bundle.steD)) (by simp [tx_at, tx_b]))
  obtain ⟨sen, hsen⟩ := Cond.staticRefV Y0.sentinel L.sentinelStatic L.statics hcS0 hiss (mem (.isRef (.static Bundle.tN "SUPPRESSED_SENTINEL" Bundle.listD)) (by simp [tx_at, tx_b]))
  obtain ⟨ci198, i198, fB, hk198, hg198, ha198, hsB, -, hnB, htB, hffB⟩ := Cond.ownField (t := .object "java/lang/Object") Y0.found L.cls (by decide +kernel) (mem (.fieldLink Bundle.tN 198 Bundle.tN "backtrace" "Ljava/lang/Object;") (by simp [tx_at, tx_b])) (mem (.lays Bundle.tN Bundle.tN "backtrace" "Ljava/lang/Object;") (by simp [tx_at, tx_b])) e.platform hpl
  obtain ⟨cS, hcS', heS, -, hkeep⟩ := X.same.2.2.2.2.2 T.aS cS0 hcS0
  have hcS : V.heap[T.aS]? = some cS := hcS'
  have hkS : cS.vm ≠ .unknown := by
    rw [heS]; intro hu
    rw [show cS0.vm = .unknown from hu] at hiss
    cases hiss
  have hneS : T.aS ≠ a := Nat.ne_of_lt (Nat.lt_of_lt_of_le (Array.getElem?_eq_some_iff.mp hcS0).1 hnew)
  obtain ⟨iM, hffM⟩ := Y0.msg
  obtain ⟨tyC, dC, hdC, hdnC⟩ := Cond.laysAt hfound hk Y0.cause (mem (.lays cls Bundle.tN "cause" "Ljava/lang/Throwable;") (by simp [tx_at, tx_b]))
  obtain ⟨tyS, dS, hdS, hdnS⟩ := Cond.laysAt hfound hk Y0.stack (mem (.lays cls Bundle.tN "stackTrace" Bundle.steD) (by simp [tx_at, tx_b]))
  obtain ⟨tyP, dP, hdP, hdnP⟩ := Cond.laysAt hfound hk Y0.supp (mem (.lays cls Bundle.tN "suppressedExceptions" Bundle.listD) (by simp [tx_at, tx_b]))
  obtain ⟨tyM, dM, hdM, hdnM⟩ := Cond.laysAt hfound hk hffM (mem (.lays cls Bundle.tN "detailMessage" "Ljava/lang/String;") (by simp [tx_at, tx_b]))
  obtain ⟨tyB, dB, hdB, hdnB⟩ := Cond.laysAt hfound hk hffB (mem (.lays cls Bundle.tN "backtrace" "Ljava/lang/Object;") (by simp [tx_at, tx_b]))
  have bC := Cond.laysApart hdB hdC hdnB hdnC (by rw [hnB, Y0.causeName]; decide)
  have bS := Cond.laysApart hdB hdS hdnB hdnS (by rw [hnB, Y0.stackName]; decide)
  have bP := Cond.laysApart hdB hdP hdnB hdnP (by rw [hnB, Y0.suppName]; decide)
  have hskip : SkipFacts T e.platform s (fun u => u) u0 ((preparedCellV T.toThrowableT (freshCell P1.m.cls kX) a u0 sen).withEntry V.cur) :=
    ⟨{ ci198 := ci198, i198 := i198, fBack := fB }, ⟨hk198, hg198, ha198, hsB⟩, by
      have := fresh_default (c := P1.m.cls) tyB
      rw [htB] at this
      simpa [preparedCellV, Cell.setSlot, Cell.withEntry, Array.getElem?_setIfInBounds, bC, bS, bP, bC.symm, bS.symm, bP.symm, defaultValue] using this, fun _ _ => rfl⟩
  obtain ⟨tm, methC, cdC, kC, vm₁, hnC, -, -, -, -, -, -, -, hW₁, st1⟩ := Steps.initColdS (tb := p.tables) (e := e) (below := below) (s := s) (U := V) X.here hexec X.warmed hpl hown (t := Bundle.initS cls) rfl rfl (Bundle.fit_spec hcls).2
    (mem (.methodLink own ic (Bundle.initS cls)) (by simp [tx_at, tx_b])) (h (.instanceMethod (Bundle.initS cls)) (by simp [tx_at, tx_b, Bundle.passSAtoms])) (bytes := rx) (maxL := 2) (h (.code (Bundle.initS cls) rx 2 none) (by simp [tx_at, tx_b, Bundle.passSAtoms]))
    (f := g) hg (a := a) (msg := msg) (rest := .ref a :: rest) hstack hd6
  cases Option.some.inj (hnC.symm.trans hP1m)
  have X₁ := X.noted hW₁
  obtain ⟨vm₂, X₂, st2⟩ := X₁.ctorMessageOffV hexec (g := { g with stack := .ref a :: rest }) hg hsize T L Z LZ M LM (P1 :: P2 :: Ps)
    (fun P hP => by
      rcases List.mem_cons.mp hP with rfl | hP
      · exact L1
      · rcases List.mem_cons.mp hP with rfl | hP
        · exact L2
        · exact hL P hP) ⟨hP12, hlink2, hlink⟩ (u0 := u0) (sen := sen) (self := a) hmsg (cell := freshCell P1.m.cls kX) (cellS := cS)
    hcell (fun _ => by simp) (by simp) rfl rfl hsel0 hselF hcS hneS hkS (by rw [hkeep _ (fun hm => nomatch hm)]; exact hu0) (by rw [hkeep _ (fun hm => nomatch hm)]; exact hsen)
    (Takes.of_laid hk hord tyC (by rw [Y0.causeType]; rfl)) (Takes.of_laid hk hord tyS (by rw [Y0.stackType]; exact fits_refV_array _ u0)) (Takes.of_laid hk hord tyP (by rw [Y0.suppType]; exact fits_refV_object _ sen))
    (Takes.of_laid hk hord tyM (by rw [Y0.msgType]; exact fits_refV_object _ ⟨msg, hmsg⟩)) Y0.objLocals hskip htr [] hd6
    (by simp only [List.length_cons, hlen]; omega) (by simp only [List.length_cons, hlen]; exact hRl)
  obtain ⟨hwalk, hrun, hended, hWU, hsame⟩ := X₂.athrowLeaves hexec (g := { g with stack := .ref a :: rest, pc := g.pc + 3 }) hg hlocked hentered hout (a := a) (rest := rest) rfl hd9 hlocks
  have hlt : a < ((V.setVm vm₁).setVm vm₂).heap.size := (Array.getElem?_eq_some_iff.mp hcell).1
  have hU := heapAt_setCell_self (s := (V.setVm vm₁).setVm vm₂) (plainBareV T.toThrowableT (freshCell P1.m.cls kX) a u0 sen msg) hlt
  refine ⟨_, st1 _ (fun acts => ?_), hrun, hended, hWU, hsame.weaken (fun y hy hlt' => ?_) (Nat.le_refl _) (Nat.le_refl _), ?_, _, hU, rfl, hfound⟩
  · rw [doInvoke_state]
    exact st2 _ hwalk
  · exfalso
    have hb : y.base = a := by
      simp only [List.nil_append, List.mem_cons, List.not_mem_nil, or_false] at hy
      rcases hy with rfl | rfl | rfl | rfl | rfl <;> rfl
    rw [hb] at hlt'
    exact Nat.not_lt.mpr hnew hlt'
  · show (V.heap.setIfInBounds a _).size = V.heap.size
    simp
end TX
end
section
section TY
variable {p : Program} {l : Launch} {e : Env} {R : Room} {s : State} {m : MethodId} {args : Array Value} {below : List Frame} {meth : Method} {c : Code} {D : SD} {mi d z0 y0 nn : Nat} {res : Option Value ⊕ Nat} {σf : SH}
variable {C : Nat → List Value → SH → SR} {E : Nat → SL → List Value → SH → SR} {X : Nat → Nat → Option Int32} {pc pos : Nat} {nx : Option Nat} {L : SL} {st : List Value} {σ : SH} {k : SL → List Value → SH → SR}
theorem rx_dec (x : Nat) : decode (rxOf x) 0 = .ok (.aload_n 0, 1) ∧ decode (rxOf x) 1 = .ok (.aload_n 1, 1) ∧ decode (rxOf x) 2 = .ok (.invokespecial (ixOf x), 3) ∧ decode (rxOf x) 5 = .ok (.return_, 1) := by
  unfold rxOf ixOf
  split
  · decide +kernel
  · exact ⟨Bundle.six_0, Bundle.six_1, Bundle.six_2, Bundle.six_5⟩
theorem ex_ok : (List.range 5).all (fun x => Bundle.fit (eN x) && lw_tbl.contains (.initialized (eN x)) && goodWord (.initialized (eN x))) = true := by decide +kernel
/-- the whole of a throw -/
theorem ty_throw {H : Heap} {locs : List Loc} {cells slots : Nat} {ls : Array Slot} {x ik is ic o : Nat} (hW : Wld l D) (hF : Frm p R s m meth c D mi d) (hhh : hhOf mi = []) (hx : x < 5) (hk : wAt pos (.classLink (yOf mi).cls ik (eN x)) = true) (hic : (Cond.methodLink (yOf mi).cls ic (Bundle.initS (eN x))) ∈ lw_tbl) {text : String} (his : (Cond.stringRef (yOf mi).cls is text) ∈ lw_tbl)
    (r1 : Rep D σ H) (r2 : lR D ls (mxOf mi) L) (r3 : ∀ z ∈ locs, D.1.heap.size ≤ z.base) (r4 : z0 + cells = sZ σ) (r5 : y0 + slots = sS σ) (hRm : sZ σ + 1 ≤ z0 + R.cells ∧ sS σ + 6 ≤ y0 + R.slots)
    (d0 : decode (bsOf mi) pc = .ok (.new ik, 3)) (d3 : decode (bsOf mi) (pc + 3) = .ok (.dup, 1)) (d4 : (decode (bsOf mi) (pc + 4) = .ok (.ldc is, 2) ∧ o = pc + 6) ∨ (decode (bsOf mi) (pc + 4) = .ok (.ldc_w is, 3) ∧ o = pc + 7)) (d6 : decode (bsOf mi) o = .ok (.invokespecial ic, 3)) (d9 : decode (bsOf mi) (o + 3) = .ok (.athrow, 1)) :
    W p l e R s m args below meth c H locs cells slots (EndQ D below s args (.inr x) (mkC σ 0 0 6) z0 y0) (F0 m pc ls []) := by
  have hs := hF.2.2.2.2.2.2.2.2.1
  have hfix := List.all_eq_true.mp ex_ok x (List.mem_range.mpr hx)
  simp only [Bool.and_eq_true] at hfix
  obtain ⟨⟨hfit, hi1⟩, hi2⟩ := hfix
  have hown := hF.2.2.2.1
  have hlocks := hF.2.2.2.2.1
  have hR1 := hF.2.2.2.2.2.2.2.2.2.1
  have hR2 := hF.2.2.2.2.2.2.2.2.2.2
  have htab : ∀ z ∈ c.exceptionTable.toList, covers z (o + 3) = false := fun z hz => by
    rw [hF.2.2.2.2.2.2.2.1, hhh] at hz
    cases hz
  intro T hT XX
  have htr : e.platform.stackTraces = false := (show e.platform.stackTraces = l.stackTraces by rw [XX.admits.platform]).trans hW.1
  have Y := vx_rebase XX (R' := { frames := R.frames, locals := R.locals, cells := 1, slots := 6 }) (Nat.le_refl _) (Nat.le_refl _) (by show cells + 1 ≤ R.cells; omega) (by show slots + 6 ≤ R.slots; omega)
  obtain ⟨s', hA⟩ : ∃ z, z = (T.setVm s.vm).setFrames (.invoking m args :: below) := ⟨_, rfl⟩
  rw [← hA] at Y
  have hvm : s'.vm = s.vm := by rw [hA]; rfl
  have hhp : s'.heap = H := by rw [hA]; exact hT
  have hs' : D.1.WarmedH s'.vm := by rw [hvm]; exact hs
  have kep : ∀ a : Nat, a < D.1.heap.size → ¬ D.1.heap.size ≤ a → H[a]? = D.1.heap[a]? := fun a h1 _ => r1.2.2.1 a h1
  have hU' : vx_Zq Bundle.tN "UNASSIGNED_STACK" Bundle.steD (fun q => D.1.heap.size ≤ q) s' s'.heap := by rw [hhp]; exact vx_Zq.moved hs'.alike (hW.2.2.2.2.2.2.2.2.2.2.1.kept kep)
  have hN' : vx_Zq Bundle.tN "SUPPRESSED_SENTINEL" Bundle.listD (fun q => D.1.heap.size ≤ q) s' s'.heap := by rw [hhp]; exact vx_Zq.moved hs'.alike (hW.2.2.2.2.2.2.2.2.2.2.2.1.kept kep)
  have h : ∀ w ∈ tx_at (yOf mi).cls ic (eN x) (ixOf x) (rxOf x) "java/lang/RuntimeException" ["java/lang/Exception"], w.before args s' = true := by
    refine vx_own (fun w hw => ?_) (vx_isRefq hU'.1) (vx_isRefq hN'.1) hU'.2.word hN'.2.word
    obtain ⟨hw1, hw2⟩ := List.mem_filter.mp hw
    rcases List.mem_cons.mp hw1 with e1 | e1
    · rw [e1]; exact gd_at hW hs' hic rfl
    · exact tx_all hW hs' hx w (List.mem_filter.mpr ⟨e1, hw2⟩)
  have hown' : s'.vm.findClass (yOf mi).cls = some m.cls := by rw [hvm]; exact hown
  have hini' : (Cond.initialized (eN x)).before args s' = true := word_at hs' (good_of_word hi2) (hW.2.1 _ (List.contains_iff_mem.mp hi1))
  have hins : (Cond.instantiable (eN x) 6).before args s' = true := h _ (by simp [tx_at, tx_b])
  obtain ⟨vm₁, cX, kX, hfX, hkX, -, -, X₁, st1⟩ := Y.newCold hF.1 (own := (yOf mi).cls) (C := eN x) (index := ik) (n := 6) hown' (wd_at hW hs' hk) hins hini' (g := F0 m pc ls []) rfl (by rw [hF.2.1]; exact d0) (Nat.le_refl _) (Nat.le_refl _)
  generalize hT1 : (T.setVm vm₁).pushCell { cls := cX, slots := kX.instanceTypes.map defaultValue, vm := .none } = T1 at X₁ st1
  have hcellA : T1.heap[T.heap.size]? = some (freshCell cX kX) := by rw [← hT1]; exact State.heap_pushCell_size _ _
  have hT1s : T1.heap.size = T.heap.size + 1 := by rw [← hT1]; exact Array.size_push _
  have d3' : decode c.code (pc + 3) = .ok (.dup, 1) := by rw [hF.2.1]; exact d3
  obtain ⟨sa, hstr⟩ : ∃ sa, vk_R (yOf mi).cls is text sa s' := by
    have h1 := hW.2.1 _ his
    obtain ⟨cur, hcur⟩ : ∃ cur, D.1.vm.findClass (yOf mi).cls = some cur := ⟨m.cls, by rw [← hs.alike.findClass]; exact hown⟩
    obtain ⟨k9, cf, i9, a9, -, -, -, -, -, hev⟩ := Cond.stringRef_spec hcur h1
    exact ⟨a9, vk_R.warm hs' (vk_R.of h1 hev)⟩
  obtain ⟨q0, q1, q2, q5⟩ := rx_dec x
  obtain ⟨U, hsteps, hrun, hend, hWU, hsame, hsz, ce, hce, hcv, hcl⟩ := tx_ctor X₁ hF.1 htr (own := (yOf mi).cls) (cls := eN x) (ic := ic) q0 q1 q2 q5 hown' hfit (by decide +kernel) (by decide +kernel) h hfX hkX hcellA (by rw [hhp, hT]; exact Nat.le_refl _) (msg := .ref sa) rfl
    (g := { method := m, pc := o, locals := ls, stack := .ref sa :: .ref T.heap.size :: .ref T.heap.size :: [], locked := none }) rfl (by rw [hF.2.2.1]; exact r2.2.1) rfl rfl (rest := []) rfl
    (by rw [hF.2.1]; exact d6) (by rw [hF.2.1]; exact d9) htab (by show 1 + 4 < R.frames; omega) (by show 2 * 0 + (1 + 0) + (13 * (1 + 2) + 42) ≤ R.locals; omega) hlocks
  obtain ⟨f1, f2⟩ := vx_frame hsame
  rw [hhp] at f1 f2
  have hWs : s.WarmedH U.vm := by
    have hq : s.WarmedH s'.vm := by rw [hvm]; exact State.WarmedH.refl s
    exact State.WarmedH.trans hq hWU
  have hcl' : s.vm.findClass (eN x) = some ce.cls := by
    rw [hvm] at hcl
    exact hcl
  have hall : s.sameButNew ({ U with vm := s.vm } : State) locs (cells + 1) (slots + 6) := by
    subst hA
    obtain ⟨e1, e2⟩ := hsame
    rw [State.setFrames_setFrames] at e1
    have h2 : (T.setVm s.vm).sameButNew ({ U with vm := s.vm } : State) [] (0 + 1) (0 + 6) := ⟨e1, e2⟩
    have h3 := XX.same.trans h2
    rw [List.append_nil] at h3
    exact h3.mono (by omega) (by omega)
  have hrep : Rep D (mkC σ 0 0 6) U.heap := by
    refine rep_new hW r1 (by rw [hsz, hT1s, hT]) (fun q hq => f2 q hq (fun z hz => nomatch hz)) ?_
    have h0 : sT (mkC σ 0 0 6) (sZ σ) = 0 := if_pos rfl
    refine ⟨fun h => ?_, fun h => ?_, fun h => ?_, fun c h => ?_, fun c h => ?_⟩ <;> rw [h0] at h <;> omega
  have hz1 : sZ (mkC σ 0 0 6) = sZ σ + 1 := rfl
  have hz2 : sS (mkC σ 0 0 6) = sS σ + 6 := rfl
  refine ⟨U, ?_, .threw T.heap.size, hrun, hend, Or.inr ⟨T.heap.size, rfl, eN x, ce, locs, ⟨⟨x, rfl, hx, rfl⟩, hrep⟩, hce, hcv, hcl', hWs, hall.mono (by omega) (by omega), r3⟩⟩
  refine st1 _ ?_
  show Steps p.tables e below (T1.setTop { method := m, pc := pc + 3, locals := ls, stack := .ref T.heap.size :: [], locked := none }) _
  jvm_step X₁.here [X₁.here.top, hF.1, d3', Value.category]
  rcases d4 with ⟨d4, rfl⟩ | ⟨d4, rfl⟩
  · exact X₁.ldcString hF.1 (own := (yOf mi).cls) (text := text) (index := is) (a := sa) hown' hstr.1 hstr.2
      (g := { method := m, pc := pc + 4, locals := ls, stack := .ref T.heap.size :: .ref T.heap.size :: [], locked := none }) rfl (by rw [hF.2.1]; exact d4) _ hsteps
  · exact X₁.ldcStringW hF.1 (own := (yOf mi).cls) (text := text) (index := is) (a := sa) hown' hstr.1 hstr.2
      (g := { method := m, pc := pc + 4, locals := ls, stack := .ref T.heap.size :: .ref T.heap.size :: [], locked := none }) rfl (by rw [hF.2.1]; exact d4) _ hsteps
theorem th_new (hW : Wld l D) (hF : Frm p R s m meth c D mi d) (hRm : sZ σf ≤ z0 + R.cells ∧ sS σf ≤ y0 + R.slots) {n : Nat} (hn : ¬ n < 100) (hok : okI mi pc nx pos (.new n) = true) (h : step1 C X E pc (.new n) L st σ k = some (res, σf)) : Go p l e R s m args below meth c D mi z0 y0 res σf pc L st σ := by
  simp only [step1, if_neg hn] at h
  split at h
  · cases h
    have hz1 : sZ (mkC σ 0 0 6) = sZ σ + 1 := rfl
    have hz2 : sS (mkC σ 0 0 6) = sS σ + 6 := rfl
    simp only [okI, if_neg hn] at hok
    intro H locs cells slots ls r1 r2 r3 r4 r5
    have fin : ∀ y z : Nat, throwOk (yOf mi).cls y z (n - 100) = true → (Cond.methodLink (yOf mi).cls z (Bundle.initS (eN (n - 100)))) ∈ lw_tbl ∧ ∃ text, (Cond.stringRef (yOf mi).cls y text) ∈ lw_tbl := fun y z ht => by
      unfold throwOk at ht
      rw [Bool.and_eq_true] at ht
      refine ⟨List.contains_iff_mem.mp ht.1, ?_⟩
      obtain ⟨w, hw1, hw2⟩ := List.any_eq_true.mp ht.2
      split at hw2
      · simp only [Bool.and_eq_true, decide_eq_true_eq] at hw2
        rw [hw2.1, hw2.2] at hw1
        exact ⟨_, hw1⟩
      · cases hw2
    split at hok
    · rename_i x y g1 g2 g3
      split at hok
      · rename_i z g4 g5
        simp only [Bool.and_eq_true, decide_eq_true_eq] at hok
        obtain ⟨⟨⟨h5, hk⟩, hhh⟩, ht⟩ := hok
        obtain ⟨hic, text, his⟩ := fin y z ht
        exact ty_throw hW hF hhh (by omega) hk hic his r1 r2 r3 r4 r5 (by omega) g1 g2 (Or.inl ⟨g3, rfl⟩) g4 g5
      · cases hok
    · rename_i x y g1 g2 g3
      split at hok
      · rename_i z g4 g5
        simp only [Bool.and_eq_true, decide_eq_true_eq] at hok
        obtain ⟨⟨⟨h5, hk⟩, hhh⟩, ht⟩ := hok
        obtain ⟨hic, text, his⟩ := fin y z ht
        exact ty_throw hW hF hhh (by omega) hk hic his r1 r2 r3 r4 r5 (by omega) g1 g2 (Or.inr ⟨g3, rfl⟩) g4 g5
      · cases hok
    · cases hok
  · cases h
end TY
end
section
/-! what a wrapper of the law does with a throw: a handler stores it and returns a constant -/
def hcC (mi pc : Nat) (c : Int32) : Bool := (match decode (bsOf mi) pc with
  | .ok (.iconst n, 1) => decide (Int32.ofInt n = c)
  | _ => false) && decide (decode (bsOf mi) (pc + 1) = .ok (.ireturn, 1))
def hcB (mi : Nat) (q : Nat × Nat × Nat × Nat) (r : Nat × Int32) : Bool := decide (r.1 < 5) && decide (q.2.2.2 ≠ 0) && lw_tbl.contains (.classLink (yOf mi).cls q.2.2.2 (eN r.1)) &&
  (match decode (bsOf mi) q.2.2.1 with
    | .ok (.astore_n k, 1) => decide (k.val < mxOf mi) && hcC mi (q.2.2.1 + 1) r.2
    | .ok (.astore k, 2) => decide (k < mxOf mi) && hcC mi (q.2.2.1 + 2) r.2
    | _ => false)
def hcL (mi : Nat) : List (Nat × Nat × Nat × Nat) → List (Nat × Int32) → Bool
  | [], [] => true
  | q :: hh, r :: hd => hcB mi q r && hcL mi hh hd
  | _, _ => false
noncomputable def hcA (mi : Nat) : Bool := decide (rtOf mi = some .int) && hcL mi (hhOf mi) (nthD hdTab (mi - 329) []) && (nthD cdTab mi []).all (fun r => match r.2 with
  | .invokevirtual _ => (hhOf mi).all (fun q => decide (q.1 ≤ r.1 % 100000) && decide (r.1 % 100000 < q.2.1))
  | .invokestatic _ => (hhOf mi).all (fun q => decide (q.1 ≤ r.1 % 100000) && decide (r.1 % 100000 < q.2.1))
  | _ => true)
theorem cst_ok : (List.range 5).all (fun x => lw_tbl.contains (.castable (eN x) (eN x))) = true := by decide +kernel
section CH
variable {p : Program} {l : Launch} {e : Env} {R : Room} {s : State} {m : MethodId} {args : Array Value} {below : List Frame} {meth : Method} {c : Code} {D : SD} {mi d z0 y0 : Nat} {res : Option Value ⊕ Nat} {σf : SH}
theorem hc_run {H : Heap} {locs : List Loc} {cells slots h : Nat} {ls : Array Slot} {c0 : Int32} {a : Addr} {σ : SH} {L : SL} (hF : Frm p R s m meth c D mi d) (hrt : rtOf mi = some .int) (hh : (match decode (bsOf mi) h with
    | .ok (.astore_n k, 1) => decide (k.val < mxOf mi) && hcC mi (h + 1) c0
    | .ok (.astore k, 2) => decide (k < mxOf mi) && hcC mi (h + 2) c0
    | _ => false) = true) (r1 : Rep D σ H) (r2 : lR D ls (mxOf mi) L) (r3 : ∀ z ∈ locs, D.1.heap.size ≤ z.base) (r4 : z0 + cells = sZ σ) (r5 : y0 + slots = sS σ) :
    W p l e R s m args below meth c H locs cells slots (EndQ D below s args (.inl (some (.int c0))) σ z0 y0) (F0 m h ls [.ref a]) := by
  have fin : ∀ (pc : Nat) (ls' : Array Slot), hcC mi pc c0 = true → W p l e R s m args below meth c H locs cells slots (EndQ D below s args (.inl (some (.int c0))) σ z0 y0) (F0 m pc ls' []) := fun pc ls' hc => by
    unfold hcC at hc
    rw [Bool.and_eq_true, decide_eq_true_eq] at hc
    obtain ⟨h1, h2⟩ := hc
    split at h1
    · rename_i n hd
      exact lv_iconst hF.1 hF.2.1 hd (of_decide_eq_true h1) (se_end hF r1 r4 r5 fun hq => W.iret hF.1 hF.2.1 (by rw [hF.2.2.2.2.2.1]; exact hrt) hq r3 h2 hF.2.2.2.2.1)
    · cases h1
  split at hh
  · rename_i k hd
    rw [Bool.and_eq_true, decide_eq_true_eq] at hh
    exact lv_astore_n hF.1 hF.2.1 hd rfl r2.2 hh.1 rfl (fun ls' _ => fin _ _ hh.2)
  · rename_i k hd
    rw [Bool.and_eq_true, decide_eq_true_eq] at hh
    exact lv_astore hF.1 hF.2.1 hd r2.2 hh.1 rfl (fun ls' _ => fin _ _ hh.2)
  · cases hh
theorem hc_find {H : Heap} {locs : List Loc} {cells slots pc x : Nat} {ls : Array Slot} {rest : List Value} {c0 : Int32} {a : Addr} {ce : Cell} {σ : SH} {L : SL} (hW : Wld l D) (hF : Frm p R s m meth c D mi d) (hrt : rtOf mi = some .int) (hx : x < 5) (r1 : Rep D σ H) (r2 : lR D ls (mxOf mi) L) (r3 : ∀ z ∈ locs, D.1.heap.size ≤ z.base) (hce : H[a]? = some ce) (hcv : ce.vm = .none) (hcl : s.vm.findClass (eN x) = some ce.cls) (r4 : z0 + cells = sZ σ) (r5 : y0 + slots = sS σ) :
    ∀ (hh : List (Nat × Nat × Nat × Nat)) (hd : List (Nat × Int32)) (pre : List ExceptionTableEntry), hcL mi hh hd = true → tableOf (hhOf mi) = pre ++ tableOf hh → (∀ z ∈ pre, covers z pc = false ∨ (z.catchType ≠ 0 ∧ ∃ nm : String, (Cond.classLink (yOf mi).cls z.catchType nm).before args s = true ∧ va_Nc (eN x) nm s)) →
      (∀ q ∈ hh, q.1 ≤ pc ∧ pc < q.2.1) → lkH hd x = some c0 → vx_W p l e R s m args below meth c H locs cells slots (EndQ D below s args (.inl (some (.int c0))) σ z0 y0) (F0 m pc ls rest) a := by
  have hs := hF.2.2.2.2.2.2.2.2.1
  intro hh
  induction hh with
  | nil => intro hd pre h1 _ _ _ h2; cases hd with
    | nil => cases h2
    | cons r hd => cases h1
  | cons q hh ih => intro hd pre h1 htab hpre hcov h2; cases hd with
    | nil => cases h1
    | cons r hd =>
      unfold hcL at h1
      rw [Bool.and_eq_true] at h1
      obtain ⟨hb, hl⟩ := h1
      unfold hcB at hb
      simp only [Bool.and_eq_true, decide_eq_true_eq] at hb
      obtain ⟨⟨⟨hr5, hct⟩, hlk⟩, hrun⟩ := hb
      have hlink : (Cond.classLink (yOf mi).cls q.2.2.2 (eN r.1)).before args s = true := gd_at hW hs (List.contains_iff_mem.mp hlk) rfl
      unfold lkH at h2
      split at h2
      · rename_i hrx
        cases h2
        have hco := List.all_eq_true.mp cst_ok x (List.mem_range.mpr hx)
        refine vx_catch (name := eN x) hF.2.2.2.1 pre ⟨q.1, q.2.1, q.2.2.1, q.2.2.2⟩ (tableOf hh) (by rw [hF.2.2.2.2.2.2.2.1, htab]; rfl) hpre ?_ hct (by rw [← hrx]; exact hlink) (va_Nw.use rfl (va_Nw.warmC hs (va_Nw.of rfl (hW.2.1 _ (List.contains_iff_mem.mp hco))))) hce hcv hcl ?_
        · have := hcov q List.mem_cons_self
          simp [covers, this]
        · exact hc_run hF hrt hrun r1 r2 r3 r4 r5
      · rename_i hrx
        refine ih hd (pre ++ [⟨q.1, q.2.1, q.2.2.1, q.2.2.2⟩]) hl (by rw [htab]; simp [tableOf]) (fun z hz => ?_) (fun z hz => hcov z (List.mem_cons_of_mem _ hz)) h2
        rcases List.mem_append.mp hz with hz | hz
        · exact hpre z hz
        · rw [List.mem_singleton.mp hz]
          exact Or.inr ⟨hct, eN r.1, hlink, va_Nc.moved hs.alike (hW.2.2.2.2.2.2.2.2.2.2.2.2.2 x r.1 hx hr5 (fun q => hrx q.symm))⟩
/-- in every frame but a wrapper's a throw goes on to the caller -/
theorem thr_lo {pc : Nat} (hF : Frm p R s m meth c D mi d) (hmi : mi < 329) : Thr p l e R s m args below meth c D mi z0 y0 res σf (hndOf mi) pc := by
  intro x σ1 hx5 hk L H' locs' cells slots ls rest ce q r2 r1 r3 hce hcv hcl r4 r5
  have hX : hndOf mi pc x = none := if_pos hmi
  rw [hX] at hk
  cases hk
  exact thr_out hF (if_pos hmi) hx5 r1 r3 hce hcv hcl r4 r5
/-- in a wrapper's it is caught -/
theorem thr_hi {pc : Nat} (hW : Wld l D) (hF : Frm p R s m meth c D mi d) (hmi : ¬ mi < 329) (hh : hcA mi = true) (hcov : ∀ q ∈ hhOf mi, q.1 ≤ pc ∧ pc < q.2.1) : Thr p l e R s m args below meth c D mi z0 y0 res σf (hndOf mi) pc := by
  intro x σ1 hx5 hk L H' locs' cells slots ls rest ce q r2 r1 r3 hce hcv hcl r4 r5
  have hX : hndOf mi pc x = some ((lkH (nthD hdTab (mi - 329) []) x).getD 0) := if_neg hmi
  rw [hX] at hk
  unfold kxc at hk
  dsimp only at hk
  split at hk
  · cases hk
  · rename_i hne
    cases hk
    unfold hcA at hh
    simp only [Bool.and_eq_true, decide_eq_true_eq] at hh
    cases hl : lkH (nthD hdTab (mi - 329) []) x with
    | none => rw [hl] at hne; exact absurd rfl hne
    | some c0 => exact hc_find hW hF hh.1.1 hx5 r1 r2 r3 hce hcv hcl r4 r5 _ _ [] hh.1.2 rfl (fun z hz => nomatch hz) hcov hl
end CH
end
section
theorem aa_test : (1 : Nat) + 1 = 2 := rfl
end
